/-! CornerClaimsModel: expressions. -/
/-- the code that the data hold so far -/
def CE (E : Int → Int) (l : List Int) : Prop := E 5 = (l.length : Int) ∧ ∀ (k : Nat) (v : Int), l[k]? = some v → E (228 + k) = v
/-- the board's cells are the same -/
def gm_bd (E E' : Int → Int) : Prop := ∀ i, i < 228 → i ≠ 5 → E' i = E i
theorem gm_bd.rf {E : Int → Int} : gm_bd E E := fun _ _ _ => rfl
theorem gm_bd.tr {E F G : Int → Int} (a : gm_bd E F) (b : gm_bd F G) : gm_bd E G := fun i h0 h1 => (b i h0 h1).trans (a i h0 h1)
def gm_em (E : Int → Int) (v : Int) : Int → Int := am_uI (am_uI E (228 + E 5) v) 5 (E 5 + 1)
theorem CE.em {E : Int → Int} {l : List Int} (h : CE E l) (v : Int) : CE (gm_em E v) (l ++ [v]) ∧ gm_bd E (gm_em E v) := by
  obtain ⟨h1, h2⟩ := h
  unfold gm_em
  refine ⟨⟨?_, fun k u hk => ?_⟩, fun i i0 i1 => ?_⟩
  · rw [am_uI_at, List.length_append, List.length_singleton]; omega
  · have hlt := (List.getElem?_eq_some_iff.mp hk).1
    rw [List.length_append, List.length_singleton] at hlt
    rw [am_uI_ne _ _ (by omega)]
    by_cases c : k = l.length
    · subst c
      rw [List.getElem?_append_right (Nat.le_refl _), Nat.sub_self] at hk
      cases hk
      rw [h1, am_uI_at]
    · rw [List.getElem?_append_left (by omega)] at hk
      rw [am_uI_ne _ _ (by omega)]
      exact h2 k u hk
  · rw [am_uI_ne _ _ i1, am_uI_ne _ _ (by omega)]
theorem gm_ed_1 (L : GL) (o : Int × Int) (h : ¬ o.1 ≤ 1) : gm_ed (L ++ [o]) = gm_ed L ++ [o.1] := by
  rw [gm_ed_app]
  show gm_ed L ++ ((if o.1 ≤ 1 then [o.1, o.2] else [o.1]) ++ []) = _
  rw [if_neg h, List.append_nil]
theorem gm_ed_2 (L : GL) (o : Int × Int) (h : o.1 ≤ 1) : gm_ed (L ++ [o]) = (gm_ed L ++ [o.1]) ++ [o.2] := by
  rw [gm_ed_app]
  show gm_ed L ++ ((if o.1 ≤ 1 then [o.1, o.2] else [o.1]) ++ []) = _
  rw [if_pos h, List.append_nil, List.append_assoc]
  rfl
theorem CE.e1 {E : Int → Int} {L : GL} (h : CE E (gm_ed L)) (o : Int × Int) (ho : ¬ o.1 ≤ 1) {v : Int} (hv : v = o.1) : CE (gm_em E v) (gm_ed (L ++ [o])) := by
  rw [gm_ed_1 L o ho, hv]
  exact (h.em _).1
theorem CE.e2 {E : Int → Int} {L : GL} (h : CE E (gm_ed L)) (o : Int × Int) (ho : o.1 ≤ 1) {u v : Int} (hu : u = o.1) (hv : v = o.2) : CE (gm_em (gm_em E u) v) (gm_ed (L ++ [o])) := by
  rw [gm_ed_2 L o ho, hu, hv]
  exact ((h.em _).1.em _).1
theorem gm_ed_l1 (L : GL) (o : Int × Int) (h : ¬ o.1 ≤ 1) : (gm_ed (L ++ [o])).length = (gm_ed L).length + 1 := by rw [gm_ed_1 L o h]; simp
theorem gm_ed_l2 (L : GL) (o : Int × Int) (h : o.1 ≤ 1) : (gm_ed (L ++ [o])).length = (gm_ed L).length + 2 := by rw [gm_ed_2 L o h]; simp
theorem TG.k5 {tx kd st vl : Int → Int} {len N i : Int} (g : TG tx kd st vl len N) (i0 : 0 ≤ i) (i1 : i ≤ N) : -5 ≤ kd i := by
  rcases g i i0 i1 with ⟨a, b, c⟩ | ⟨a, b, c, e, d1, d2, d3, d4⟩
  · omega
  · rcases d3 with ⟨w1, w2, w3, w4⟩ | ⟨w1, w2, w3⟩ | ⟨w1, w2, w3, w4, w5⟩
    · omega
    · have r := gm_kw_r tx (st i) e; omega
    · have r := gm_ks_r (tx (st i)); omega
theorem rA_n {kd st vl : Int → Int} {s : Option (GL → Int → GRL)} {L : GL} {i : Int} (h1 : kd i ≠ 40) (h2 : ¬ kd i < 0) (h3 : kd i = 2 → 0 ≤ vl i) : rA kd st vl s L i = rB (rN kd st vl 0 9999 i) (fun v => .inr (L ++ [(0, v)], i + 1)) := by
  unfold rA rN
  rw [if_neg h1, if_neg h2]
  by_cases c : kd i = 2
  · rw [if_pos c, if_pos c]
    by_cases c2 : vl i ≤ 9999
    · rw [if_pos c2, if_pos ⟨h3 c, c2⟩]; rfl
    · rw [if_neg c2, if_neg (by omega)]; rfl
  · rw [if_neg c, if_neg c]; rfl
theorem rA_wd {kd st vl : Int → Int} {s : Option (GL → Int → GRL)} {L : GL} {i : Int} (h2 : kd i < 0) : rA kd st vl s L i = .inr (L ++ [(1, -1 - kd i)], i + 1) := by
  unfold rA
  rw [if_neg (by omega), if_pos h2]
theorem rA_p {kd st vl : Int → Int} {f : GL → Int → GRL} {L : GL} {i : Int} (h : kd i = 40) : rA kd st vl (some f) L i = rB (f L (i + 1)) fun r => rB (rT kd st 41 r.2) fun _ => .inr (r.1, r.2 + 1) := by
  unfold rA
  rw [if_pos h]
theorem rA_0 {kd st vl : Int → Int} {L : GL} {i : Int} (h : kd i = 40) : rA kd st vl none L i = .inl (-6, st i) := by
  unfold rA
  rw [if_pos h]
theorem TG.v0 {tx kd st vl : Int → Int} {len N i : Int} {bf : Int → Int} (g : TG tx kd st vl len N) (hb : BX bf tx len) (i0 : 0 ≤ i) (i1 : i ≤ N) (h : kd i = 2) : 0 ≤ vl i := by
  obtain ⟨-, e, -, -, -, -, a, b⟩ := g.nu hb i0 i1 h
  omega
/-- what a reader of expressions leaves -/
def PAQ (bf tx kd st vl : Int → Int) (tl N : Int) (R : GRL) (h : AH) (n : Nat) (th bl ps ea eo ud g0 g1 g2 g3 ns ne se : Int) (E : Int → Int) (L : GL) (i : Int) (h1 : AH) : Prop :=
  ((∃ L' i' px ns' E', R = .inr (L', i') ∧ (i < i' ∧ i' ≤ N) ∧ 2 * ((gm_ed L').length : Int) ≤ 2 * ((gm_ed L).length : Int) + 3 * (i' - i) + 1 ∧ TP tx st N px i' ∧ CE E' (gm_ed L') ∧ gm_bd E E' ∧ MM h1 n th bl tl px 0 ea eo ud g0 g1 g2 g3 ns' ne se E') ∨
   (∃ e a px ns' ne' E', R = .inl (e, a) ∧ (e ≠ 0 ∧ am_r e) ∧ MM h1 n th bl tl px e a eo ud g0 g1 g2 g3 ns' ne' se E')) ∧ am_f2 h h1 n
def PAC (w : am_w) (y : YR) (d : Nat) (f : GL → Int → GRL) (ne : Int) (bf tx kd st vl : Int → Int) (tl N : Int) : Prop := ∀ ⦃h : AH⦄ ⦃n : Nat⦄ ⦃th bl ps ea eo ud g0 g1 g2 g3 ns se : Int⦄ ⦃E : Int → Int⦄ ⦃L : GL⦄ ⦃i : Int⦄, MM h n th bl tl ps 0 ea eo ud g0 g1 g2 g3 ns ne se E → h.1 (n + 1) = some (100, 800, bf, am_N) → TP tx st N ps i → CE E (gm_ed L) → 2 * ((gm_ed L).length : Int) ≤ 3 * i + 1 → AE w y d [vr n] h (am_unit (PAQ bf tx kd st vl tl N (f L i) h n th bl ps ea eo ud g0 g1 g2 g3 ns ne se E L i))

set_option maxHeartbeats 1000000 in
theorem c_X9_emit_g {w : am_w} {h : AH} {n : Nat} {th bl tl ps ea eo ud g0 g1 g2 g3 ns ne se : Int} {E : Int → Int} (hm : MM h n th bl tl ps 0 ea eo ud g0 g1 g2 g3 ns ne se E) (h5 : 0 ≤ E 5 ∧ E 5 < 1300) {v : Int}  : AE w m_X9_emit 2 [vr n, vi v] h (am_unit (fun h1 => MM h1 n th bl tl ps 0 ea eo ud g0 g1 g2 g3 ns ne se (gm_em E v) ∧ am_f2 h h1 n)) := by
  refine AE.of wf_X9_emit (Nat.le_of_ble_eq_true rfl) (am_ok_v) ?_
  obtain ⟨m0, m1⟩ := id hm
  refine q_blk (lv2 := [(0, vr n), (1, vi v)]) (st2 := [vr n]) kX9_emit_0 rfl ?_
  refine q_Vi (av := []) (st := []) (c_X9_isGood_g hm) lk_RX9_145 (by decide) rfl rfl hm.ob ⟨_, rfl, rfl⟩ (Nat.le_of_ble_eq_true rfl) eX9_emit_1 (fun z1 e2 => ?_)
  subst e2
  refine AQ.of (AS.if_ne_t (tgt := 8) eX9_emit_4 (by decide) ⟨by decide, by decide⟩ (by decide)) ?_
  refine q_blk (lv2 := [(0, vr n), (1, vi v)]) (st2 := [vr n]) kX9_emit_8 rfl ?_
  refine q_gr eX9_emit_9 fl_RX9_17 (Or.inr ⟨_, rfl⟩) m0 rfl ?_
  refine q_blk (lv2 := [(0, vr n), (1, vi v)]) (st2 := [vr n, vi 228, vr (n + 2)]) kX9_emit_12 rfl ?_
  refine q_gr eX9_emit_16 fl_RX9_17 (Or.inr ⟨_, rfl⟩) m0 rfl ?_
  refine q_blk (lv2 := [(0, vr n), (1, vi v)]) (st2 := [vi 5, vr (n + 2), vi 228, vr (n + 2)]) kX9_emit_19 rfl ?_
  refine q_ia eX9_emit_20 m1 (by decide) (by omega) (by omega) (z := (E 5)) rfl ?_
  refine q_blk (lv2 := [(0, vr n), (1, vi v)]) (st2 := [vi v, vi (228 + (E 5)), vr (n + 2)]) kX9_emit_21 rfl ?_
  refine q_is eX9_emit_23 m1 (by omega) (by omega) (fun h3 e4 => ?_)
  have k5 := (am_ne e4 n (by omega)).trans m0
  have k6 := am_at e4
  refine q_blk (lv2 := [(0, vr n), (1, vi v)]) (st2 := [vr n]) kX9_emit_24 rfl ?_
  refine q_gr eX9_emit_25 fl_RX9_17 (Or.inr ⟨_, rfl⟩) k5 rfl ?_
  refine q_blk (lv2 := [(0, vr n), (1, vi v)]) (st2 := [vi 5, vr (n + 2), vi 5, vr (n + 2)]) kX9_emit_28 rfl ?_
  refine q_ia eX9_emit_30 k6 (by decide) (by omega) (by omega) (z := ((am_uI E (228 + (E 5)) v) 5)) rfl ?_
  refine q_blk (lv2 := [(0, vr n), (1, vi v)]) (st2 := [vi (((am_uI E (228 + (E 5)) v) 5) + 1), vi 5, vr (n + 2)]) kX9_emit_31 rfl ?_
  refine q_is eX9_emit_33 k6 (by omega) (by omega) (fun h7 e8 => ?_)
  have k9 := (am_ne e8 n (by omega)).trans k5
  have k10 := am_at e8
  exact q_rv rfl eX9_emit_34 ⟨rfl, ⟨k9, by have q9 := k10; rw [am_uI_ne E v (show (5 : Int) ≠ 228 + E 5 by omega)] at q9; exact q9⟩, (am_fr.tr (am_fr.st e4 (by omega) (by omega)) (am_fr.st e8 (by omega) (by omega)) : am_fr h _ (n + 2) (n + 3)).f2d⟩

set_option maxHeartbeats 1000000 in
theorem c_X9_emit_b {w : am_w} {h : AH} {n : Nat} {th bl tl ps er ea eo ud g0 g1 g2 g3 ns ne se : Int} {E : Int → Int} (hm : MM h n th bl tl ps er ea eo ud g0 g1 g2 g3 ns ne se E) (re : er ≠ 0 ∧ am_r er) {v : Int}  : AE w m_X9_emit 2 [vr n, vi v] h (am_unit (fun h1 => h1 = h)) := by
  refine AE.of wf_X9_emit (Nat.le_of_ble_eq_true rfl) (am_ok_v) ?_
  obtain ⟨m0, m1⟩ := id hm
  refine q_blk (lv2 := [(0, vr n), (1, vi v)]) (st2 := [vr n]) kX9_emit_0 rfl ?_
  refine q_Vi (av := []) (st := []) (c_X9_isGood_b hm re) lk_RX9_145 (by decide) rfl rfl hm.ob ⟨_, rfl, rfl⟩ (Nat.le_of_ble_eq_true rfl) eX9_emit_1 (fun z1 e2 => ?_)
  subst e2
  refine AQ.of (AS.if_ne_f eX9_emit_4 ⟨by decide, by decide⟩ (by decide) (by decide)) ?_
  exact q_rv rfl eX9_emit_7 ⟨rfl, rfl⟩

set_option maxHeartbeats 1000000 in
theorem c_X9_factor_b {w : am_w} {h : AH} {n : Nat} {th bl tl ps er ea eo ud g0 g1 g2 g3 ns ne se : Int} {E : Int → Int} (hm : MM h n th bl tl ps er ea eo ud g0 g1 g2 g3 ns ne se E) (re : er ≠ 0 ∧ am_r er)  : AE w m_X9_factor 2 [vr n] h (am_unit (fun h1 => h1 = h)) := by
  refine AE.of wf_X9_factor (Nat.le_of_ble_eq_true rfl) (am_ok_v) ?_
  obtain ⟨m0, m1⟩ := id hm
  refine q_blk (lv2 := [(0, vr n)]) (st2 := [vr n]) kX9_factor_0 rfl ?_
  refine q_Vi (av := []) (st := []) (c_X9_isGood_b hm re) lk_RX9_145 (by decide) rfl rfl hm.ob ⟨_, rfl, rfl⟩ (Nat.le_of_ble_eq_true rfl) eX9_factor_1 (fun z1 e2 => ?_)
  subst e2
  refine AQ.of (AS.if_ne_f eX9_factor_4 ⟨by decide, by decide⟩ (by decide) (by decide)) ?_
  exact q_rv rfl eX9_factor_7 ⟨rfl, rfl⟩

set_option maxHeartbeats 1000000 in
theorem c_X9_term_b {w : am_w} {h : AH} {n : Nat} {th bl tl ps er ea eo ud g0 g1 g2 g3 ns ne se : Int} {E : Int → Int} (hm : MM h n th bl tl ps er ea eo ud g0 g1 g2 g3 ns ne se E) (re : er ≠ 0 ∧ am_r er)  : AE w m_X9_term 3 [vr n] h (am_unit (fun h1 => h1 = h)) := by
  refine AE.of wf_X9_term (Nat.le_of_ble_eq_true rfl) (am_ok_v) ?_
  obtain ⟨m0, m1⟩ := id hm
  refine q_blk (lv2 := [(0, vr n)]) (st2 := [vr n]) kX9_term_0 rfl ?_
  refine AQ.callVv (av := []) (st := []) (c_X9_factor_b hm re) lk_RX9_203 (by decide) rfl rfl hm.ob ⟨_, rfl, rfl⟩ (Nat.le_of_ble_eq_true rfl) eX9_term_1 (fun h3 e2 => ?_)
  subst e2
  refine q_blk (lv2 := [(0, vr n)]) (st2 := [vr n]) kX9_term_4 rfl ?_
  refine q_Vi (av := []) (st := []) (c_X9_isGood_b hm re) lk_RX9_145 (by decide) rfl rfl hm.ob ⟨_, rfl, rfl⟩ (Nat.le_of_ble_eq_true rfl) eX9_term_5 (fun z4 e5 => ?_)
  subst e5
  refine AQ.of (AS.if_eq_t (tgt := 74) eX9_term_8 (by decide) ⟨by decide, by decide⟩ (by decide)) ?_
  exact q_rv rfl eX9_term_74 ⟨rfl, rfl⟩

set_option maxHeartbeats 1000000 in
theorem c_X9_sum_b {w : am_w} {h : AH} {n : Nat} {th bl tl ps er ea eo ud g0 g1 g2 g3 ns ne se : Int} {E : Int → Int} (hm : MM h n th bl tl ps er ea eo ud g0 g1 g2 g3 ns ne se E) (re : er ≠ 0 ∧ am_r er)  : AE w m_X9_sum 4 [vr n] h (am_unit (fun h1 => h1 = h)) := by
  refine AE.of wf_X9_sum (Nat.le_of_ble_eq_true rfl) (am_ok_v) ?_
  obtain ⟨m0, m1⟩ := id hm
  refine q_blk (lv2 := [(0, vr n)]) (st2 := [vr n]) kX9_sum_0 rfl ?_
  refine AQ.callVv (av := []) (st := []) (c_X9_term_b hm re) lk_RX9_206 (by decide) rfl rfl hm.ob ⟨_, rfl, rfl⟩ (Nat.le_of_ble_eq_true rfl) eX9_sum_1 (fun h3 e2 => ?_)
  subst e2
  refine q_blk (lv2 := [(0, vr n)]) (st2 := [vr n]) kX9_sum_4 rfl ?_
  refine q_Vi (av := []) (st := []) (c_X9_isGood_b hm re) lk_RX9_145 (by decide) rfl rfl hm.ob ⟨_, rfl, rfl⟩ (Nat.le_of_ble_eq_true rfl) eX9_sum_5 (fun z4 e5 => ?_)
  subst e5
  refine AQ.of (AS.if_eq_t (tgt := 74) eX9_sum_8 (by decide) ⟨by decide, by decide⟩ (by decide)) ?_
  exact q_rv rfl eX9_sum_74 ⟨rfl, rfl⟩

set_option maxHeartbeats 4000000 in
theorem c_X9_factorN {w : am_w} {bf tx kd st vl : Int → Int} {tl N : Int} (hl : 0 ≤ tl ∧ tl ≤ 800) (hx : BX bf tx tl) (hg : TG tx kd st vl tl N) (hN : N ≤ 800) {d : Nat} (hd : 6 ≤ d)  : PAC w m_X9_factor d (rA kd st vl none) 4 bf tx kd st vl tl N := by
  intro h n th bl ps ea eo ud g0 g1 g2 g3 ns se E L i hm hb hp hE hL
  refine AE.of wf_X9_factor (Nat.le_of_ble_eq_true rfl) am_ok_v ?_
  obtain ⟨m0, m1⟩ := id hm
  obtain ⟨hi0, hi1⟩ := id hp.1
  have hch := hg.ch hx hp.1.1 hp.1.2
  have hk5 := hg.k5 hp.1.1 hp.1.2
  have hE5 := hE.1
  refine q_blk (lv2 := [(0, vr n)]) (st2 := [vr n]) kX9_factor_0 rfl ?_
  refine q_Vi (av := []) (st := []) (c_X9_isGood_g hm) lk_RX9_145 (by omega) rfl rfl hm.ob ⟨_, rfl, rfl⟩ (Nat.le_of_ble_eq_true rfl) eX9_factor_1 (fun z1 e2 => ?_)
  subst e2
  refine AQ.of (AS.if_ne_t (tgt := 8) eX9_factor_4 (by decide) ⟨by decide, by decide⟩ (by decide)) ?_
  refine q_blk (lv2 := [(0, vr n)]) (st2 := [vr n]) kX9_factor_8 rfl ?_
  refine AQ.callVi (av := []) (st := []) (c_X9_next hm hb hl hx hg hp) lk_RX9_149 (by omega) rfl rfl hm.ob ⟨_, rfl, rfl⟩ (Nat.le_of_ble_eq_true rfl) eX9_factor_9 (fun z3 h5 e4 => ?_)
  obtain ⟨rfl, Mh5, Fh5⟩ := e4
  have Vh5 : am_f2 h h5 n := Fh5.f2
  have hbh5 : h5.1 (n + 1) = some (100, 800, bf, am_N) := (Vh5.2 (n + 1) (by omega) (by omega)).trans hb
  obtain ⟨m0h5, m1h5⟩ := id Mh5
  have Ph5 := hp.at hg hl.1
  refine q_blk (lv2 := [(0, vr n), (1, vi (gm_T bf tl (st i)))]) (st2 := [vi 40, vi (gm_T bf tl (st i))]) kX9_factor_12 rfl ?_
  refine AQ.ic_ne (tgt := 78) eX9_factor_16 (by decide) (by first | assumption | exact ⟨by omega, by omega⟩) ⟨by decide, by decide⟩ (fun br6 => ?_) (fun br6 => ?_)
  · skip
    have hk40 : kd i ≠ 40 := fun c => by have := (hch.2.2.2.2.2 40 (by omega)).mp c; omega
    refine q_blk (lv2 := [(0, vr n), (1, vi (gm_T bf tl (st i)))]) (st2 := [vi (gm_T bf tl (st i))]) kX9_factor_78 rfl ?_
    refine q_Si (av := [vi (gm_T bf tl (st i))]) (st := []) (c_X9_isDigit (x := (gm_T bf tl (st i))) ⟨by omega, by omega⟩) lk_RX9_166 (by omega) rfl rfl (Nat.le_of_ble_eq_true rfl) eX9_factor_79 (fun z7 e8 => ?_)
    rcases e8 with ⟨rfl, e8⟩ | ⟨rfl, e8⟩
    · skip
      refine AQ.of (AS.if_eq_f eX9_factor_82 ⟨by decide, by decide⟩ (by decide) (by decide)) ?_
      refine q_blk (lv2 := [(0, vr n), (1, vi (gm_T bf tl (st i)))]) (st2 := [vi (-1)]) kX9_factor_85 rfl ?_
      refine q_goto (tgt := 155) eX9_factor_86 (by decide) ?_
      refine q_blk (lv2 := [(0, vr n), (1, vi (gm_T bf tl (st i))), (2, vi (-1))]) (st2 := [vi (-1)]) kX9_factor_155 rfl ?_
      refine AQ.of (AS.if_ge_f eX9_factor_157 ⟨by decide, by decide⟩ (by decide) (by decide)) ?_
      refine q_blk (lv2 := [(0, vr n), (1, vi (gm_T bf tl (st i))), (2, vi (-1))]) (st2 := [vi 9999, vi 0, vr n]) kX9_factor_160 rfl ?_
      refine AQ.callVi (av := [vi 0, vi 9999]) (st := []) (c_X9_number_g Mh5 hbh5 hl hx hg Ph5 (lo := 0) (hi := 9999) (by omega) (by omega) (by omega)) lk_RX9_197 (by omega) rfl rfl Mh5.ob ⟨_, rfl, rfl⟩ (Nat.le_of_ble_eq_true rfl) eX9_factor_165 (fun z9 h11 e10 => ?_)
      rcases e10 with ⟨⟨pxh11, Kh11, K2h11, Th11, Mh11⟩ | ⟨pxh11, nh11, eh11, ah11, Kh11, Zh11, Mh11⟩, z0h11, z1h11, Vh11⟩
      · skip
        have Yh11' : am_f2 h h11 n := Vh5.tr Vh11
        have hbh11 : h11.1 (n + 1) = some (100, 800, bf, am_N) := (Yh11'.2 (n + 1) (by omega) (by omega)).trans hb
        obtain ⟨m0h11, m1h11⟩ := id Mh11
        refine q_goto (tgt := 172) eX9_factor_168 (by decide) ?_
        refine q_blk (lv2 := [(0, vr n), (1, vi (gm_T bf tl (st i))), (2, vi (-1)), (3, vi z9)]) (st2 := [vi (-1), vr n]) kX9_factor_172 rfl ?_
        refine AQ.of (AS.if_ge_f eX9_factor_175 ⟨by decide, by decide⟩ (by decide) (by decide)) ?_
        refine q_blk (lv2 := [(0, vr n), (1, vi (gm_T bf tl (st i))), (2, vi (-1)), (3, vi z9)]) (st2 := [vi 0, vr n]) kX9_factor_178 rfl ?_
        refine q_goto (tgt := 183) eX9_factor_179 (by decide) ?_
        have w50 : 0 ≤ E 5 ∧ E 5 < 1300 := by omega
        refine AQ.callVv (av := [vi 0]) (st := []) (c_X9_emit_g Mh11 w50 (v := 0)) lk_RX9_200 (by omega) rfl rfl Mh11.ob ⟨_, rfl, rfl⟩ (Nat.le_of_ble_eq_true rfl) eX9_factor_183 (fun h14 e13 => ?_)
        obtain ⟨Mh14, Vh14⟩ := e13
        have Yh14' : am_f2 h h14 n := Yh11'.tr Vh14
        have hbh14 : h14.1 (n + 1) = some (100, 800, bf, am_N) := (Yh14'.2 (n + 1) (by omega) (by omega)).trans hb
        obtain ⟨m0h14, m1h14⟩ := id Mh14
        refine q_blk (lv2 := [(0, vr n), (1, vi (gm_T bf tl (st i))), (2, vi (-1)), (3, vi z9)]) (st2 := [vi z9, vr n]) kX9_factor_186 rfl ?_
        have w51 : 0 ≤ (gm_em E 0) 5 ∧ (gm_em E 0) 5 < 1300 := by have := (hE.em 0).1.1; rw [List.length_append, List.length_singleton] at this; omega
        refine AQ.callVv (av := [vi z9]) (st := []) (c_X9_emit_g Mh14 w51 (v := z9)) lk_RX9_200 (by omega) rfl rfl Mh14.ob ⟨_, rfl, rfl⟩ (Nat.le_of_ble_eq_true rfl) eX9_factor_188 (fun h17 e16 => ?_)
        obtain ⟨Mh17, Vh17⟩ := e16
        have Yh17' : am_f2 h h17 n := Yh14'.tr Vh17
        have hbh17 : h17.1 (n + 1) = some (100, 800, bf, am_N) := (Yh17'.2 (n + 1) (by omega) (by omega)).trans hb
        obtain ⟨m0h17, m1h17⟩ := id Mh17
        exact q_rv rfl eX9_factor_191 ⟨rfl, Or.inl ⟨(L ++ [(0, z9)]), (i + 1), _, _, _, by rw [rA_n hk40 (by omega) (fun c => hg.v0 hx hp.1.1 hp.1.2 c), rB_r Kh11], ⟨by omega, Th11.1.2⟩, by rw [gm_ed_l2 L _ (show (0 : Int) ≤ 1 by decide)]; omega, Th11, hE.e2 (0, z9) (show (0 : Int) ≤ 1 by decide) rfl rfl, (hE.em _).2.tr ((hE.em _).1.em _).2, Mh17⟩, Yh17'⟩
      · skip
        have Yh11' : am_f2 h h11 n := Vh5.tr Vh11
        have hbh11 : h11.1 (n + 1) = some (100, 800, bf, am_N) := (Yh11'.2 (n + 1) (by omega) (by omega)).trans hb
        obtain ⟨m0h11, m1h11⟩ := id Mh11
        refine q_goto (tgt := 172) eX9_factor_168 (by decide) ?_
        refine q_blk (lv2 := [(0, vr n), (1, vi (gm_T bf tl (st i))), (2, vi (-1)), (3, vi z9)]) (st2 := [vi (-1), vr n]) kX9_factor_172 rfl ?_
        refine AQ.of (AS.if_ge_f eX9_factor_175 ⟨by decide, by decide⟩ (by decide) (by decide)) ?_
        refine q_blk (lv2 := [(0, vr n), (1, vi (gm_T bf tl (st i))), (2, vi (-1)), (3, vi z9)]) (st2 := [vi 0, vr n]) kX9_factor_178 rfl ?_
        refine q_goto (tgt := 183) eX9_factor_179 (by decide) ?_
        refine AQ.callVv (av := [vi 0]) (st := []) (c_X9_emit_b Mh11 Zh11 (v := 0)) lk_RX9_200 (by omega) rfl rfl Mh11.ob ⟨_, rfl, rfl⟩ (Nat.le_of_ble_eq_true rfl) eX9_factor_183 (fun h20 e19 => ?_)
        subst e19
        refine q_blk (lv2 := [(0, vr n), (1, vi (gm_T bf tl (st i))), (2, vi (-1)), (3, vi z9)]) (st2 := [vi z9, vr n]) kX9_factor_186 rfl ?_
        refine AQ.callVv (av := [vi z9]) (st := []) (c_X9_emit_b Mh11 Zh11 (v := z9)) lk_RX9_200 (by omega) rfl rfl Mh11.ob ⟨_, rfl, rfl⟩ (Nat.le_of_ble_eq_true rfl) eX9_factor_188 (fun h23 e22 => ?_)
        subst e22
        exact q_rv rfl eX9_factor_191 ⟨rfl, Or.inr ⟨_, _, _, _, _, _, by rw [rA_n hk40 (by omega) (fun c => hg.v0 hx hp.1.1 hp.1.2 c), rB_l Kh11], Zh11, Mh11⟩, Yh11'⟩
    · skip
      refine AQ.of (AS.if_eq_t (tgt := 89) eX9_factor_82 (by decide) ⟨by decide, by decide⟩ (by decide)) ?_
      refine q_blk (lv2 := [(0, vr n), (1, vi (gm_T bf tl (st i)))]) (st2 := [vr n]) kX9_factor_89 rfl ?_
      refine AQ.of (AS.ldcS (i := 24) (by decide) ⟨rfl, rfl⟩ eX9_factor_90) ?_
      refine AQ.callVi (av := [vr (w.2 24)]) (st := []) (c_X9_takeWord_g Mh5 hbh5 hl hx hg Ph5 (w9 := 5) (by decide) (by decide)) lk_RX9_185 (by omega) rfl rfl Mh5.ob ⟨_, rfl, rfl⟩ (Nat.le_of_ble_eq_true rfl) eX9_factor_92 (fun z24 h26 e25 => ?_)
      rcases e25 with ⟨⟨rfl, Kh26, pxh26, Th26, Mh26⟩ | ⟨rfl, Kh26, Mh26⟩, Vh26⟩
      · skip
        have Yh26' : am_f2 h h26 n := Vh5.tr Vh26
        have hbh26 : h26.1 (n + 1) = some (100, 800, bf, am_N) := (Yh26'.2 (n + 1) (by omega) (by omega)).trans hb
        obtain ⟨m0h26, m1h26⟩ := id Mh26
        rw [show gm_wc 5 = (-1) from rfl] at Kh26
        refine AQ.of (AS.if_eq_f eX9_factor_95 ⟨by decide, by decide⟩ (by decide) (by decide)) ?_
        refine q_blk (lv2 := [(0, vr n), (1, vi (gm_T bf tl (st i)))]) (st2 := [vi 0]) kX9_factor_98 rfl ?_
        refine q_goto (tgt := 155) eX9_factor_99 (by decide) ?_
        refine q_blk (lv2 := [(0, vr n), (1, vi (gm_T bf tl (st i))), (2, vi 0)]) (st2 := [vi 0]) kX9_factor_155 rfl ?_
        refine AQ.of (AS.if_ge_t (tgt := 171) eX9_factor_157 (by decide) ⟨by decide, by decide⟩ (by decide)) ?_
        refine q_blk (lv2 := [(0, vr n), (1, vi (gm_T bf tl (st i))), (2, vi 0)]) (st2 := [vi 0]) kX9_factor_171 rfl ?_
        refine q_blk (lv2 := [(0, vr n), (1, vi (gm_T bf tl (st i))), (2, vi 0), (3, vi 0)]) (st2 := [vi 0, vr n]) kX9_factor_172 rfl ?_
        refine AQ.of (AS.if_ge_t (tgt := 182) eX9_factor_175 (by decide) ⟨by decide, by decide⟩ (by decide)) ?_
        refine q_blk (lv2 := [(0, vr n), (1, vi (gm_T bf tl (st i))), (2, vi 0), (3, vi 0)]) (st2 := [vi 1, vr n]) kX9_factor_182 rfl ?_
        have w50 : 0 ≤ E 5 ∧ E 5 < 1300 := by omega
        refine AQ.callVv (av := [vi 1]) (st := []) (c_X9_emit_g Mh26 w50 (v := 1)) lk_RX9_200 (by omega) rfl rfl Mh26.ob ⟨_, rfl, rfl⟩ (Nat.le_of_ble_eq_true rfl) eX9_factor_183 (fun h29 e28 => ?_)
        obtain ⟨Mh29, Vh29⟩ := e28
        have Yh29' : am_f2 h h29 n := Yh26'.tr Vh29
        have hbh29 : h29.1 (n + 1) = some (100, 800, bf, am_N) := (Yh29'.2 (n + 1) (by omega) (by omega)).trans hb
        obtain ⟨m0h29, m1h29⟩ := id Mh29
        refine q_blk (lv2 := [(0, vr n), (1, vi (gm_T bf tl (st i))), (2, vi 0), (3, vi 0)]) (st2 := [vi 0, vr n]) kX9_factor_186 rfl ?_
        have w51 : 0 ≤ (gm_em E 1) 5 ∧ (gm_em E 1) 5 < 1300 := by have := (hE.em 1).1.1; rw [List.length_append, List.length_singleton] at this; omega
        refine AQ.callVv (av := [vi 0]) (st := []) (c_X9_emit_g Mh29 w51 (v := 0)) lk_RX9_200 (by omega) rfl rfl Mh29.ob ⟨_, rfl, rfl⟩ (Nat.le_of_ble_eq_true rfl) eX9_factor_188 (fun h32 e31 => ?_)
        obtain ⟨Mh32, Vh32⟩ := e31
        have Yh32' : am_f2 h h32 n := Yh29'.tr Vh32
        have hbh32 : h32.1 (n + 1) = some (100, 800, bf, am_N) := (Yh32'.2 (n + 1) (by omega) (by omega)).trans hb
        obtain ⟨m0h32, m1h32⟩ := id Mh32
        exact q_rv rfl eX9_factor_191 ⟨rfl, Or.inl ⟨(L ++ [(1, -1 - kd i)]), (i + 1), _, _, _, rA_wd (by omega), ⟨by omega, Th26.1.2⟩, by rw [gm_ed_l2 L _ (show (1 : Int) ≤ 1 by decide)]; omega, Th26, hE.e2 (1, -1 - kd i) (show (1 : Int) ≤ 1 by decide) rfl (by show _ = -1 - kd i; omega), (hE.em _).2.tr ((hE.em _).1.em _).2, Mh32⟩, Yh32'⟩
      · skip
        have Yh26' : am_f2 h h26 n := Vh5.tr Vh26
        have hbh26 : h26.1 (n + 1) = some (100, 800, bf, am_N) := (Yh26'.2 (n + 1) (by omega) (by omega)).trans hb
        obtain ⟨m0h26, m1h26⟩ := id Mh26
        have Ph26 := Ph5.at hg hl.1
        rw [show gm_wc 5 = (-1) from rfl] at Kh26
        refine AQ.of (AS.if_eq_t (tgt := 102) eX9_factor_95 (by decide) ⟨by decide, by decide⟩ (by decide)) ?_
        refine q_blk (lv2 := [(0, vr n), (1, vi (gm_T bf tl (st i)))]) (st2 := [vr n]) kX9_factor_102 rfl ?_
        refine AQ.of (AS.ldcS (i := 25) (by decide) ⟨rfl, rfl⟩ eX9_factor_103) ?_
        refine AQ.callVi (av := [vr (w.2 25)]) (st := []) (c_X9_takeWord_g Mh26 hbh26 hl hx hg Ph26 (w9 := 6) (by decide) (by decide)) lk_RX9_185 (by omega) rfl rfl Mh26.ob ⟨_, rfl, rfl⟩ (Nat.le_of_ble_eq_true rfl) eX9_factor_105 (fun z33 h35 e34 => ?_)
        rcases e34 with ⟨⟨rfl, Kh35, pxh35, Th35, Mh35⟩ | ⟨rfl, Kh35, Mh35⟩, Vh35⟩
        · skip
          have Yh35' : am_f2 h h35 n := Yh26'.tr Vh35
          have hbh35 : h35.1 (n + 1) = some (100, 800, bf, am_N) := (Yh35'.2 (n + 1) (by omega) (by omega)).trans hb
          obtain ⟨m0h35, m1h35⟩ := id Mh35
          rw [show gm_wc 6 = (-2) from rfl] at Kh35
          refine AQ.of (AS.if_eq_f eX9_factor_108 ⟨by decide, by decide⟩ (by decide) (by decide)) ?_
          refine q_blk (lv2 := [(0, vr n), (1, vi (gm_T bf tl (st i)))]) (st2 := [vi 1]) kX9_factor_111 rfl ?_
          refine q_goto (tgt := 155) eX9_factor_112 (by decide) ?_
          refine q_blk (lv2 := [(0, vr n), (1, vi (gm_T bf tl (st i))), (2, vi 1)]) (st2 := [vi 1]) kX9_factor_155 rfl ?_
          refine AQ.of (AS.if_ge_t (tgt := 171) eX9_factor_157 (by decide) ⟨by decide, by decide⟩ (by decide)) ?_
          refine q_blk (lv2 := [(0, vr n), (1, vi (gm_T bf tl (st i))), (2, vi 1)]) (st2 := [vi 1]) kX9_factor_171 rfl ?_
          refine q_blk (lv2 := [(0, vr n), (1, vi (gm_T bf tl (st i))), (2, vi 1), (3, vi 1)]) (st2 := [vi 1, vr n]) kX9_factor_172 rfl ?_
          refine AQ.of (AS.if_ge_t (tgt := 182) eX9_factor_175 (by decide) ⟨by decide, by decide⟩ (by decide)) ?_
          refine q_blk (lv2 := [(0, vr n), (1, vi (gm_T bf tl (st i))), (2, vi 1), (3, vi 1)]) (st2 := [vi 1, vr n]) kX9_factor_182 rfl ?_
          have w50 : 0 ≤ E 5 ∧ E 5 < 1300 := by omega
          refine AQ.callVv (av := [vi 1]) (st := []) (c_X9_emit_g Mh35 w50 (v := 1)) lk_RX9_200 (by omega) rfl rfl Mh35.ob ⟨_, rfl, rfl⟩ (Nat.le_of_ble_eq_true rfl) eX9_factor_183 (fun h38 e37 => ?_)
          obtain ⟨Mh38, Vh38⟩ := e37
          have Yh38' : am_f2 h h38 n := Yh35'.tr Vh38
          have hbh38 : h38.1 (n + 1) = some (100, 800, bf, am_N) := (Yh38'.2 (n + 1) (by omega) (by omega)).trans hb
          obtain ⟨m0h38, m1h38⟩ := id Mh38
          refine q_blk (lv2 := [(0, vr n), (1, vi (gm_T bf tl (st i))), (2, vi 1), (3, vi 1)]) (st2 := [vi 1, vr n]) kX9_factor_186 rfl ?_
          have w51 : 0 ≤ (gm_em E 1) 5 ∧ (gm_em E 1) 5 < 1300 := by have := (hE.em 1).1.1; rw [List.length_append, List.length_singleton] at this; omega
          refine AQ.callVv (av := [vi 1]) (st := []) (c_X9_emit_g Mh38 w51 (v := 1)) lk_RX9_200 (by omega) rfl rfl Mh38.ob ⟨_, rfl, rfl⟩ (Nat.le_of_ble_eq_true rfl) eX9_factor_188 (fun h41 e40 => ?_)
          obtain ⟨Mh41, Vh41⟩ := e40
          have Yh41' : am_f2 h h41 n := Yh38'.tr Vh41
          have hbh41 : h41.1 (n + 1) = some (100, 800, bf, am_N) := (Yh41'.2 (n + 1) (by omega) (by omega)).trans hb
          obtain ⟨m0h41, m1h41⟩ := id Mh41
          exact q_rv rfl eX9_factor_191 ⟨rfl, Or.inl ⟨(L ++ [(1, -1 - kd i)]), (i + 1), _, _, _, rA_wd (by omega), ⟨by omega, Th35.1.2⟩, by rw [gm_ed_l2 L _ (show (1 : Int) ≤ 1 by decide)]; omega, Th35, hE.e2 (1, -1 - kd i) (show (1 : Int) ≤ 1 by decide) rfl (by show _ = -1 - kd i; omega), (hE.em _).2.tr ((hE.em _).1.em _).2, Mh41⟩, Yh41'⟩
        · skip
          have Yh35' : am_f2 h h35 n := Yh26'.tr Vh35
          have hbh35 : h35.1 (n + 1) = some (100, 800, bf, am_N) := (Yh35'.2 (n + 1) (by omega) (by omega)).trans hb
          obtain ⟨m0h35, m1h35⟩ := id Mh35
          have Ph35 := Ph26.at hg hl.1
          rw [show gm_wc 6 = (-2) from rfl] at Kh35
          refine AQ.of (AS.if_eq_t (tgt := 115) eX9_factor_108 (by decide) ⟨by decide, by decide⟩ (by decide)) ?_
          refine q_blk (lv2 := [(0, vr n), (1, vi (gm_T bf tl (st i)))]) (st2 := [vr n]) kX9_factor_115 rfl ?_
          refine AQ.of (AS.ldcS (i := 26) (by decide) ⟨rfl, rfl⟩ eX9_factor_116) ?_
          refine AQ.callVi (av := [vr (w.2 26)]) (st := []) (c_X9_takeWord_g Mh35 hbh35 hl hx hg Ph35 (w9 := 7) (by decide) (by decide)) lk_RX9_185 (by omega) rfl rfl Mh35.ob ⟨_, rfl, rfl⟩ (Nat.le_of_ble_eq_true rfl) eX9_factor_118 (fun z42 h44 e43 => ?_)
          rcases e43 with ⟨⟨rfl, Kh44, pxh44, Th44, Mh44⟩ | ⟨rfl, Kh44, Mh44⟩, Vh44⟩
          · skip
            have Yh44' : am_f2 h h44 n := Yh35'.tr Vh44
            have hbh44 : h44.1 (n + 1) = some (100, 800, bf, am_N) := (Yh44'.2 (n + 1) (by omega) (by omega)).trans hb
            obtain ⟨m0h44, m1h44⟩ := id Mh44
            rw [show gm_wc 7 = (-3) from rfl] at Kh44
            refine AQ.of (AS.if_eq_f eX9_factor_121 ⟨by decide, by decide⟩ (by decide) (by decide)) ?_
            refine q_blk (lv2 := [(0, vr n), (1, vi (gm_T bf tl (st i)))]) (st2 := [vi 2]) kX9_factor_124 rfl ?_
            refine q_goto (tgt := 155) eX9_factor_125 (by decide) ?_
            refine q_blk (lv2 := [(0, vr n), (1, vi (gm_T bf tl (st i))), (2, vi 2)]) (st2 := [vi 2]) kX9_factor_155 rfl ?_
            refine AQ.of (AS.if_ge_t (tgt := 171) eX9_factor_157 (by decide) ⟨by decide, by decide⟩ (by decide)) ?_
            refine q_blk (lv2 := [(0, vr n), (1, vi (gm_T bf tl (st i))), (2, vi 2)]) (st2 := [vi 2]) kX9_factor_171 rfl ?_
            refine q_blk (lv2 := [(0, vr n), (1, vi (gm_T bf tl (st i))), (2, vi 2), (3, vi 2)]) (st2 := [vi 2, vr n]) kX9_factor_172 rfl ?_
            refine AQ.of (AS.if_ge_t (tgt := 182) eX9_factor_175 (by decide) ⟨by decide, by decide⟩ (by decide)) ?_
            refine q_blk (lv2 := [(0, vr n), (1, vi (gm_T bf tl (st i))), (2, vi 2), (3, vi 2)]) (st2 := [vi 1, vr n]) kX9_factor_182 rfl ?_
            have w50 : 0 ≤ E 5 ∧ E 5 < 1300 := by omega
            refine AQ.callVv (av := [vi 1]) (st := []) (c_X9_emit_g Mh44 w50 (v := 1)) lk_RX9_200 (by omega) rfl rfl Mh44.ob ⟨_, rfl, rfl⟩ (Nat.le_of_ble_eq_true rfl) eX9_factor_183 (fun h47 e46 => ?_)
            obtain ⟨Mh47, Vh47⟩ := e46
            have Yh47' : am_f2 h h47 n := Yh44'.tr Vh47
            have hbh47 : h47.1 (n + 1) = some (100, 800, bf, am_N) := (Yh47'.2 (n + 1) (by omega) (by omega)).trans hb
            obtain ⟨m0h47, m1h47⟩ := id Mh47
            refine q_blk (lv2 := [(0, vr n), (1, vi (gm_T bf tl (st i))), (2, vi 2), (3, vi 2)]) (st2 := [vi 2, vr n]) kX9_factor_186 rfl ?_
            have w51 : 0 ≤ (gm_em E 1) 5 ∧ (gm_em E 1) 5 < 1300 := by have := (hE.em 1).1.1; rw [List.length_append, List.length_singleton] at this; omega
            refine AQ.callVv (av := [vi 2]) (st := []) (c_X9_emit_g Mh47 w51 (v := 2)) lk_RX9_200 (by omega) rfl rfl Mh47.ob ⟨_, rfl, rfl⟩ (Nat.le_of_ble_eq_true rfl) eX9_factor_188 (fun h50 e49 => ?_)
            obtain ⟨Mh50, Vh50⟩ := e49
            have Yh50' : am_f2 h h50 n := Yh47'.tr Vh50
            have hbh50 : h50.1 (n + 1) = some (100, 800, bf, am_N) := (Yh50'.2 (n + 1) (by omega) (by omega)).trans hb
            obtain ⟨m0h50, m1h50⟩ := id Mh50
            exact q_rv rfl eX9_factor_191 ⟨rfl, Or.inl ⟨(L ++ [(1, -1 - kd i)]), (i + 1), _, _, _, rA_wd (by omega), ⟨by omega, Th44.1.2⟩, by rw [gm_ed_l2 L _ (show (1 : Int) ≤ 1 by decide)]; omega, Th44, hE.e2 (1, -1 - kd i) (show (1 : Int) ≤ 1 by decide) rfl (by show _ = -1 - kd i; omega), (hE.em _).2.tr ((hE.em _).1.em _).2, Mh50⟩, Yh50'⟩
          · skip
            have Yh44' : am_f2 h h44 n := Yh35'.tr Vh44
            have hbh44 : h44.1 (n + 1) = some (100, 800, bf, am_N) := (Yh44'.2 (n + 1) (by omega) (by omega)).trans hb
            obtain ⟨m0h44, m1h44⟩ := id Mh44
            have Ph44 := Ph35.at hg hl.1
            rw [show gm_wc 7 = (-3) from rfl] at Kh44
            refine AQ.of (AS.if_eq_t (tgt := 128) eX9_factor_121 (by decide) ⟨by decide, by decide⟩ (by decide)) ?_
            refine q_blk (lv2 := [(0, vr n), (1, vi (gm_T bf tl (st i)))]) (st2 := [vr n]) kX9_factor_128 rfl ?_
            refine AQ.of (AS.ldcS (i := 27) (by decide) ⟨rfl, rfl⟩ eX9_factor_129) ?_
            refine AQ.callVi (av := [vr (w.2 27)]) (st := []) (c_X9_takeWord_g Mh44 hbh44 hl hx hg Ph44 (w9 := 8) (by decide) (by decide)) lk_RX9_185 (by omega) rfl rfl Mh44.ob ⟨_, rfl, rfl⟩ (Nat.le_of_ble_eq_true rfl) eX9_factor_131 (fun z51 h53 e52 => ?_)
            rcases e52 with ⟨⟨rfl, Kh53, pxh53, Th53, Mh53⟩ | ⟨rfl, Kh53, Mh53⟩, Vh53⟩
            · skip
              have Yh53' : am_f2 h h53 n := Yh44'.tr Vh53
              have hbh53 : h53.1 (n + 1) = some (100, 800, bf, am_N) := (Yh53'.2 (n + 1) (by omega) (by omega)).trans hb
              obtain ⟨m0h53, m1h53⟩ := id Mh53
              rw [show gm_wc 8 = (-4) from rfl] at Kh53
              refine AQ.of (AS.if_eq_f eX9_factor_134 ⟨by decide, by decide⟩ (by decide) (by decide)) ?_
              refine q_blk (lv2 := [(0, vr n), (1, vi (gm_T bf tl (st i)))]) (st2 := [vi 3]) kX9_factor_137 rfl ?_
              refine q_goto (tgt := 155) eX9_factor_138 (by decide) ?_
              refine q_blk (lv2 := [(0, vr n), (1, vi (gm_T bf tl (st i))), (2, vi 3)]) (st2 := [vi 3]) kX9_factor_155 rfl ?_
              refine AQ.of (AS.if_ge_t (tgt := 171) eX9_factor_157 (by decide) ⟨by decide, by decide⟩ (by decide)) ?_
              refine q_blk (lv2 := [(0, vr n), (1, vi (gm_T bf tl (st i))), (2, vi 3)]) (st2 := [vi 3]) kX9_factor_171 rfl ?_
              refine q_blk (lv2 := [(0, vr n), (1, vi (gm_T bf tl (st i))), (2, vi 3), (3, vi 3)]) (st2 := [vi 3, vr n]) kX9_factor_172 rfl ?_
              refine AQ.of (AS.if_ge_t (tgt := 182) eX9_factor_175 (by decide) ⟨by decide, by decide⟩ (by decide)) ?_
              refine q_blk (lv2 := [(0, vr n), (1, vi (gm_T bf tl (st i))), (2, vi 3), (3, vi 3)]) (st2 := [vi 1, vr n]) kX9_factor_182 rfl ?_
              have w50 : 0 ≤ E 5 ∧ E 5 < 1300 := by omega
              refine AQ.callVv (av := [vi 1]) (st := []) (c_X9_emit_g Mh53 w50 (v := 1)) lk_RX9_200 (by omega) rfl rfl Mh53.ob ⟨_, rfl, rfl⟩ (Nat.le_of_ble_eq_true rfl) eX9_factor_183 (fun h56 e55 => ?_)
              obtain ⟨Mh56, Vh56⟩ := e55
              have Yh56' : am_f2 h h56 n := Yh53'.tr Vh56
              have hbh56 : h56.1 (n + 1) = some (100, 800, bf, am_N) := (Yh56'.2 (n + 1) (by omega) (by omega)).trans hb
              obtain ⟨m0h56, m1h56⟩ := id Mh56
              refine q_blk (lv2 := [(0, vr n), (1, vi (gm_T bf tl (st i))), (2, vi 3), (3, vi 3)]) (st2 := [vi 3, vr n]) kX9_factor_186 rfl ?_
              have w51 : 0 ≤ (gm_em E 1) 5 ∧ (gm_em E 1) 5 < 1300 := by have := (hE.em 1).1.1; rw [List.length_append, List.length_singleton] at this; omega
              refine AQ.callVv (av := [vi 3]) (st := []) (c_X9_emit_g Mh56 w51 (v := 3)) lk_RX9_200 (by omega) rfl rfl Mh56.ob ⟨_, rfl, rfl⟩ (Nat.le_of_ble_eq_true rfl) eX9_factor_188 (fun h59 e58 => ?_)
              obtain ⟨Mh59, Vh59⟩ := e58
              have Yh59' : am_f2 h h59 n := Yh56'.tr Vh59
              have hbh59 : h59.1 (n + 1) = some (100, 800, bf, am_N) := (Yh59'.2 (n + 1) (by omega) (by omega)).trans hb
              obtain ⟨m0h59, m1h59⟩ := id Mh59
              exact q_rv rfl eX9_factor_191 ⟨rfl, Or.inl ⟨(L ++ [(1, -1 - kd i)]), (i + 1), _, _, _, rA_wd (by omega), ⟨by omega, Th53.1.2⟩, by rw [gm_ed_l2 L _ (show (1 : Int) ≤ 1 by decide)]; omega, Th53, hE.e2 (1, -1 - kd i) (show (1 : Int) ≤ 1 by decide) rfl (by show _ = -1 - kd i; omega), (hE.em _).2.tr ((hE.em _).1.em _).2, Mh59⟩, Yh59'⟩
            · skip
              have Yh53' : am_f2 h h53 n := Yh44'.tr Vh53
              have hbh53 : h53.1 (n + 1) = some (100, 800, bf, am_N) := (Yh53'.2 (n + 1) (by omega) (by omega)).trans hb
              obtain ⟨m0h53, m1h53⟩ := id Mh53
              have Ph53 := Ph44.at hg hl.1
              rw [show gm_wc 8 = (-4) from rfl] at Kh53
              refine AQ.of (AS.if_eq_t (tgt := 141) eX9_factor_134 (by decide) ⟨by decide, by decide⟩ (by decide)) ?_
              refine q_blk (lv2 := [(0, vr n), (1, vi (gm_T bf tl (st i)))]) (st2 := [vr n]) kX9_factor_141 rfl ?_
              refine AQ.of (AS.ldcS (i := 28) (by decide) ⟨rfl, rfl⟩ eX9_factor_142) ?_
              refine AQ.callVi (av := [vr (w.2 28)]) (st := []) (c_X9_takeWord_g Mh53 hbh53 hl hx hg Ph53 (w9 := 9) (by decide) (by decide)) lk_RX9_185 (by omega) rfl rfl Mh53.ob ⟨_, rfl, rfl⟩ (Nat.le_of_ble_eq_true rfl) eX9_factor_144 (fun z60 h62 e61 => ?_)
              rcases e61 with ⟨⟨rfl, Kh62, pxh62, Th62, Mh62⟩ | ⟨rfl, Kh62, Mh62⟩, Vh62⟩
              · skip
                have Yh62' : am_f2 h h62 n := Yh53'.tr Vh62
                have hbh62 : h62.1 (n + 1) = some (100, 800, bf, am_N) := (Yh62'.2 (n + 1) (by omega) (by omega)).trans hb
                obtain ⟨m0h62, m1h62⟩ := id Mh62
                rw [show gm_wc 9 = (-5) from rfl] at Kh62
                refine AQ.of (AS.if_eq_f eX9_factor_147 ⟨by decide, by decide⟩ (by decide) (by decide)) ?_
                refine q_blk (lv2 := [(0, vr n), (1, vi (gm_T bf tl (st i)))]) (st2 := [vi 4]) kX9_factor_150 rfl ?_
                refine q_goto (tgt := 155) eX9_factor_151 (by decide) ?_
                refine q_blk (lv2 := [(0, vr n), (1, vi (gm_T bf tl (st i))), (2, vi 4)]) (st2 := [vi 4]) kX9_factor_155 rfl ?_
                refine AQ.of (AS.if_ge_t (tgt := 171) eX9_factor_157 (by decide) ⟨by decide, by decide⟩ (by decide)) ?_
                refine q_blk (lv2 := [(0, vr n), (1, vi (gm_T bf tl (st i))), (2, vi 4)]) (st2 := [vi 4]) kX9_factor_171 rfl ?_
                refine q_blk (lv2 := [(0, vr n), (1, vi (gm_T bf tl (st i))), (2, vi 4), (3, vi 4)]) (st2 := [vi 4, vr n]) kX9_factor_172 rfl ?_
                refine AQ.of (AS.if_ge_t (tgt := 182) eX9_factor_175 (by decide) ⟨by decide, by decide⟩ (by decide)) ?_
                refine q_blk (lv2 := [(0, vr n), (1, vi (gm_T bf tl (st i))), (2, vi 4), (3, vi 4)]) (st2 := [vi 1, vr n]) kX9_factor_182 rfl ?_
                have w50 : 0 ≤ E 5 ∧ E 5 < 1300 := by omega
                refine AQ.callVv (av := [vi 1]) (st := []) (c_X9_emit_g Mh62 w50 (v := 1)) lk_RX9_200 (by omega) rfl rfl Mh62.ob ⟨_, rfl, rfl⟩ (Nat.le_of_ble_eq_true rfl) eX9_factor_183 (fun h65 e64 => ?_)
                obtain ⟨Mh65, Vh65⟩ := e64
                have Yh65' : am_f2 h h65 n := Yh62'.tr Vh65
                have hbh65 : h65.1 (n + 1) = some (100, 800, bf, am_N) := (Yh65'.2 (n + 1) (by omega) (by omega)).trans hb
                obtain ⟨m0h65, m1h65⟩ := id Mh65
                refine q_blk (lv2 := [(0, vr n), (1, vi (gm_T bf tl (st i))), (2, vi 4), (3, vi 4)]) (st2 := [vi 4, vr n]) kX9_factor_186 rfl ?_
                have w51 : 0 ≤ (gm_em E 1) 5 ∧ (gm_em E 1) 5 < 1300 := by have := (hE.em 1).1.1; rw [List.length_append, List.length_singleton] at this; omega
                refine AQ.callVv (av := [vi 4]) (st := []) (c_X9_emit_g Mh65 w51 (v := 4)) lk_RX9_200 (by omega) rfl rfl Mh65.ob ⟨_, rfl, rfl⟩ (Nat.le_of_ble_eq_true rfl) eX9_factor_188 (fun h68 e67 => ?_)
                obtain ⟨Mh68, Vh68⟩ := e67
                have Yh68' : am_f2 h h68 n := Yh65'.tr Vh68
                have hbh68 : h68.1 (n + 1) = some (100, 800, bf, am_N) := (Yh68'.2 (n + 1) (by omega) (by omega)).trans hb
                obtain ⟨m0h68, m1h68⟩ := id Mh68
                exact q_rv rfl eX9_factor_191 ⟨rfl, Or.inl ⟨(L ++ [(1, -1 - kd i)]), (i + 1), _, _, _, rA_wd (by omega), ⟨by omega, Th62.1.2⟩, by rw [gm_ed_l2 L _ (show (1 : Int) ≤ 1 by decide)]; omega, Th62, hE.e2 (1, -1 - kd i) (show (1 : Int) ≤ 1 by decide) rfl (by show _ = -1 - kd i; omega), (hE.em _).2.tr ((hE.em _).1.em _).2, Mh68⟩, Yh68'⟩
              · skip
                have Yh62' : am_f2 h h62 n := Yh53'.tr Vh62
                have hbh62 : h62.1 (n + 1) = some (100, 800, bf, am_N) := (Yh62'.2 (n + 1) (by omega) (by omega)).trans hb
                obtain ⟨m0h62, m1h62⟩ := id Mh62
                have Ph62 := Ph53.at hg hl.1
                rw [show gm_wc 9 = (-5) from rfl] at Kh62
                refine AQ.of (AS.if_eq_t (tgt := 154) eX9_factor_147 (by decide) ⟨by decide, by decide⟩ (by decide)) ?_
                refine q_blk (lv2 := [(0, vr n), (1, vi (gm_T bf tl (st i)))]) (st2 := [vi (-1)]) kX9_factor_154 rfl ?_
                refine q_blk (lv2 := [(0, vr n), (1, vi (gm_T bf tl (st i))), (2, vi (-1))]) (st2 := [vi (-1)]) kX9_factor_155 rfl ?_
                refine AQ.of (AS.if_ge_f eX9_factor_157 ⟨by decide, by decide⟩ (by decide) (by decide)) ?_
                refine q_blk (lv2 := [(0, vr n), (1, vi (gm_T bf tl (st i))), (2, vi (-1))]) (st2 := [vi 9999, vi 0, vr n]) kX9_factor_160 rfl ?_
                refine AQ.callVi (av := [vi 0, vi 9999]) (st := []) (c_X9_number_g Mh62 hbh62 hl hx hg Ph62 (lo := 0) (hi := 9999) (by omega) (by omega) (by omega)) lk_RX9_197 (by omega) rfl rfl Mh62.ob ⟨_, rfl, rfl⟩ (Nat.le_of_ble_eq_true rfl) eX9_factor_165 (fun z69 h71 e70 => ?_)
                rcases e70 with ⟨⟨pxh71, Kh71, K2h71, Th71, Mh71⟩ | ⟨pxh71, nh71, eh71, ah71, Kh71, Zh71, Mh71⟩, z0h71, z1h71, Vh71⟩
                · skip
                  have Yh71' : am_f2 h h71 n := Yh62'.tr Vh71
                  have hbh71 : h71.1 (n + 1) = some (100, 800, bf, am_N) := (Yh71'.2 (n + 1) (by omega) (by omega)).trans hb
                  obtain ⟨m0h71, m1h71⟩ := id Mh71
                  refine q_goto (tgt := 172) eX9_factor_168 (by decide) ?_
                  refine q_blk (lv2 := [(0, vr n), (1, vi (gm_T bf tl (st i))), (2, vi (-1)), (3, vi z69)]) (st2 := [vi (-1), vr n]) kX9_factor_172 rfl ?_
                  refine AQ.of (AS.if_ge_f eX9_factor_175 ⟨by decide, by decide⟩ (by decide) (by decide)) ?_
                  refine q_blk (lv2 := [(0, vr n), (1, vi (gm_T bf tl (st i))), (2, vi (-1)), (3, vi z69)]) (st2 := [vi 0, vr n]) kX9_factor_178 rfl ?_
                  refine q_goto (tgt := 183) eX9_factor_179 (by decide) ?_
                  have w50 : 0 ≤ E 5 ∧ E 5 < 1300 := by omega
                  refine AQ.callVv (av := [vi 0]) (st := []) (c_X9_emit_g Mh71 w50 (v := 0)) lk_RX9_200 (by omega) rfl rfl Mh71.ob ⟨_, rfl, rfl⟩ (Nat.le_of_ble_eq_true rfl) eX9_factor_183 (fun h74 e73 => ?_)
                  obtain ⟨Mh74, Vh74⟩ := e73
                  have Yh74' : am_f2 h h74 n := Yh71'.tr Vh74
                  have hbh74 : h74.1 (n + 1) = some (100, 800, bf, am_N) := (Yh74'.2 (n + 1) (by omega) (by omega)).trans hb
                  obtain ⟨m0h74, m1h74⟩ := id Mh74
                  refine q_blk (lv2 := [(0, vr n), (1, vi (gm_T bf tl (st i))), (2, vi (-1)), (3, vi z69)]) (st2 := [vi z69, vr n]) kX9_factor_186 rfl ?_
                  have w51 : 0 ≤ (gm_em E 0) 5 ∧ (gm_em E 0) 5 < 1300 := by have := (hE.em 0).1.1; rw [List.length_append, List.length_singleton] at this; omega
                  refine AQ.callVv (av := [vi z69]) (st := []) (c_X9_emit_g Mh74 w51 (v := z69)) lk_RX9_200 (by omega) rfl rfl Mh74.ob ⟨_, rfl, rfl⟩ (Nat.le_of_ble_eq_true rfl) eX9_factor_188 (fun h77 e76 => ?_)
                  obtain ⟨Mh77, Vh77⟩ := e76
                  have Yh77' : am_f2 h h77 n := Yh74'.tr Vh77
                  have hbh77 : h77.1 (n + 1) = some (100, 800, bf, am_N) := (Yh77'.2 (n + 1) (by omega) (by omega)).trans hb
                  obtain ⟨m0h77, m1h77⟩ := id Mh77
                  exact q_rv rfl eX9_factor_191 ⟨rfl, Or.inl ⟨(L ++ [(0, z69)]), (i + 1), _, _, _, by rw [rA_n hk40 (by omega) (fun c => hg.v0 hx hp.1.1 hp.1.2 c), rB_r Kh71], ⟨by omega, Th71.1.2⟩, by rw [gm_ed_l2 L _ (show (0 : Int) ≤ 1 by decide)]; omega, Th71, hE.e2 (0, z69) (show (0 : Int) ≤ 1 by decide) rfl rfl, (hE.em _).2.tr ((hE.em _).1.em _).2, Mh77⟩, Yh77'⟩
                · skip
                  have Yh71' : am_f2 h h71 n := Yh62'.tr Vh71
                  have hbh71 : h71.1 (n + 1) = some (100, 800, bf, am_N) := (Yh71'.2 (n + 1) (by omega) (by omega)).trans hb
                  obtain ⟨m0h71, m1h71⟩ := id Mh71
                  refine q_goto (tgt := 172) eX9_factor_168 (by decide) ?_
                  refine q_blk (lv2 := [(0, vr n), (1, vi (gm_T bf tl (st i))), (2, vi (-1)), (3, vi z69)]) (st2 := [vi (-1), vr n]) kX9_factor_172 rfl ?_
                  refine AQ.of (AS.if_ge_f eX9_factor_175 ⟨by decide, by decide⟩ (by decide) (by decide)) ?_
                  refine q_blk (lv2 := [(0, vr n), (1, vi (gm_T bf tl (st i))), (2, vi (-1)), (3, vi z69)]) (st2 := [vi 0, vr n]) kX9_factor_178 rfl ?_
                  refine q_goto (tgt := 183) eX9_factor_179 (by decide) ?_
                  refine AQ.callVv (av := [vi 0]) (st := []) (c_X9_emit_b Mh71 Zh71 (v := 0)) lk_RX9_200 (by omega) rfl rfl Mh71.ob ⟨_, rfl, rfl⟩ (Nat.le_of_ble_eq_true rfl) eX9_factor_183 (fun h80 e79 => ?_)
                  subst e79
                  refine q_blk (lv2 := [(0, vr n), (1, vi (gm_T bf tl (st i))), (2, vi (-1)), (3, vi z69)]) (st2 := [vi z69, vr n]) kX9_factor_186 rfl ?_
                  refine AQ.callVv (av := [vi z69]) (st := []) (c_X9_emit_b Mh71 Zh71 (v := z69)) lk_RX9_200 (by omega) rfl rfl Mh71.ob ⟨_, rfl, rfl⟩ (Nat.le_of_ble_eq_true rfl) eX9_factor_188 (fun h83 e82 => ?_)
                  subst e82
                  exact q_rv rfl eX9_factor_191 ⟨rfl, Or.inr ⟨_, _, _, _, _, _, by rw [rA_n hk40 (by omega) (fun c => hg.v0 hx hp.1.1 hp.1.2 c), rB_l Kh71], Zh71, Mh71⟩, Yh71'⟩
  · skip
    have hk40 : kd i = 40 := (hch.2.2.2.2.2 40 (by omega)).mpr (by omega)
    have HT := hg.sg hx hp.1.1 hp.1.2 (c := 40) (by omega) hk40
    refine q_blk (lv2 := [(0, vr n), (1, vi (gm_T bf tl (st i)))]) (st2 := [vr n]) kX9_factor_19 rfl ?_
    refine q_gi eX9_factor_20 fl_RX9_173 (Or.inl rfl) m0h5 (z := 4) rfl ?_
    refine q_blk (lv2 := [(0, vr n), (1, vi (gm_T bf tl (st i)))]) (st2 := [vi 4, vi 4]) kX9_factor_23 rfl ?_
    refine AQ.of (AS.ic_ne_f eX9_factor_24 ⟨by decide, by decide⟩ ⟨by decide, by decide⟩ (by decide) (by decide)) ?_
    refine q_blk (lv2 := [(0, vr n), (1, vi (gm_T bf tl (st i)))]) (st2 := [vr n, vi (-6), vr n]) kX9_factor_27 rfl ?_
    refine q_gi eX9_factor_31 fl_RX9_133 (Or.inl rfl) m0h5 (z := (st i)) rfl ?_
    refine AQ.callVv (av := [vi (-6), vi (st i)]) (st := []) (c_X9_report_g Mh5 (k := (-6)) (a := (st i))) lk_RX9_162 (by omega) rfl rfl Mh5.ob ⟨_, rfl, rfl⟩ (Nat.le_of_ble_eq_true rfl) eX9_factor_34 (fun h86 e85 => ?_)
    obtain ⟨Mh86, Fh86⟩ := e85
    have Vh86 : am_f2 h h86 n := Vh5.tr (Fh86.f2)
    have hbh86 : h86.1 (n + 1) = some (100, 800, bf, am_N) := (Vh86.2 (n + 1) (by omega) (by omega)).trans hb
    obtain ⟨m0h86, m1h86⟩ := id Mh86
    have Yh86 : ((-6) : Int) ≠ 0 ∧ am_r (-6) := ⟨by decide, by decide, by decide⟩
    refine q_blk (lv2 := [(0, vr n), (1, vi (gm_T bf tl (st i)))]) (st2 := [vr n, vr n]) kX9_factor_37 rfl ?_
    refine q_gi eX9_factor_39 fl_RX9_133 (Or.inl rfl) m0h86 (z := (st i)) rfl ?_
    refine q_blk (lv2 := [(0, vr n), (1, vi (gm_T bf tl (st i)))]) (st2 := [vi ((st i) + 1), vr n]) kX9_factor_42 rfl ?_
    refine q_pi eX9_factor_44 fl_RX9_133 (fun q hq => by cases hq; exact Or.inl rfl) (Or.inl rfl) m0h86 (Nat.le_of_ble_eq_true rfl) (l2 := [th, 0, bl, tl, ((st i) + 1), (-6), (st i), eo, 0, 0, 0, ud, g0, g1, g2, g3, ns, 4, se, 0]) rfl (fun h87 e88 => ?_)
    have k89 := am_at e88
    have k90 := (am_ne e88 (n + 2) (by omega)).trans m1h86
    refine q_blk (lv2 := [(0, vr n), (1, vi (gm_T bf tl (st i)))]) (st2 := [vr n, vr n]) kX9_factor_47 rfl ?_
    refine q_gi eX9_factor_49 fl_RX9_173 (Or.inl rfl) k89 (z := 4) rfl ?_
    refine q_blk (lv2 := [(0, vr n), (1, vi (gm_T bf tl (st i)))]) (st2 := [vi (4 + 1), vr n]) kX9_factor_52 rfl ?_
    refine q_pi eX9_factor_54 fl_RX9_173 (fun q hq => by cases hq; exact Or.inl rfl) (Or.inl rfl) k89 (Nat.le_of_ble_eq_true rfl) (l2 := [th, 0, bl, tl, ((st i) + 1), (-6), (st i), eo, 0, 0, 0, ud, g0, g1, g2, g3, ns, (4 + 1), se, 0]) rfl (fun h91 e92 => ?_)
    have k93 := am_at e92
    have k94 := (am_ne e92 (n + 2) (by omega)).trans k90
    have Mw95 : MM h91 n th bl tl ((st i) + 1) (-6) (st i) eo ud g0 g1 g2 g3 ns (4 + 1) se E := ⟨k93, k94⟩
    have Vw95 : am_f2 _ h91 n := ((am_fr.st e88 (by omega) (by omega) : am_fr _ _ n (n + 1)).f2).tr ((am_fr.st e92 (by omega) (by omega) : am_fr _ _ n (n + 1)).f2)
    have Yh91' : am_f2 h h91 n := Vh86.tr Vw95
    have hbh91 : h91.1 (n + 1) = some (100, 800, bf, am_N) := (Yh91'.2 (n + 1) (by omega) (by omega)).trans hb
    obtain ⟨m0h91, m1h91⟩ := id Mw95
    refine q_blk (lv2 := [(0, vr n), (1, vi (gm_T bf tl (st i)))]) (st2 := [vr n]) kX9_factor_57 rfl ?_
    refine AQ.callVv (av := []) (st := []) (c_X9_sum_b Mw95 Yh86) lk_RX9_176 (by omega) rfl rfl Mw95.ob ⟨_, rfl, rfl⟩ (Nat.le_of_ble_eq_true rfl) eX9_factor_58 (fun h98 e97 => ?_)
    subst e97
    refine q_blk (lv2 := [(0, vr n), (1, vi (gm_T bf tl (st i)))]) (st2 := [vi 41, vr n]) kX9_factor_61 rfl ?_
    refine AQ.callVv (av := [vi 41]) (st := []) (c_X9_expect_b Mw95 Yh86 (c := 41)) lk_RX9_179 (by omega) rfl rfl Mw95.ob ⟨_, rfl, rfl⟩ (Nat.le_of_ble_eq_true rfl) eX9_factor_64 (fun h101 e100 => ?_)
    subst e100
    refine q_blk (lv2 := [(0, vr n), (1, vi (gm_T bf tl (st i)))]) (st2 := [vr n, vr n]) kX9_factor_67 rfl ?_
    refine q_gi eX9_factor_69 fl_RX9_173 (Or.inl rfl) m0h91 (z := (4 + 1)) rfl ?_
    refine q_blk (lv2 := [(0, vr n), (1, vi (gm_T bf tl (st i)))]) (st2 := [vi ((4 + 1) - 1), vr n]) kX9_factor_72 rfl ?_
    refine q_pi eX9_factor_74 fl_RX9_173 (fun q hq => by cases hq; exact Or.inl rfl) (Or.inl rfl) m0h91 (Nat.le_of_ble_eq_true rfl) (l2 := [th, 0, bl, tl, ((st i) + 1), (-6), (st i), eo, 0, 0, 0, ud, g0, g1, g2, g3, ns, ((4 + 1) - 1), se, 0]) rfl (fun h102 e103 => ?_)
    have k104 := am_at e103
    have k105 := (am_ne e103 (n + 2) (by omega)).trans m1h91
    have Mw106 : MM h102 n th bl tl ((st i) + 1) (-6) (st i) eo ud g0 g1 g2 g3 ns ((4 + 1) - 1) se E := ⟨k104, k105⟩
    have Vw106 : am_f2 _ h102 n := (am_fr.st e103 (by omega) (by omega) : am_fr _ _ n (n + 1)).f2
    have Yh102' : am_f2 h h102 n := Yh91'.tr Vw106
    have hbh102 : h102.1 (n + 1) = some (100, 800, bf, am_N) := (Yh102'.2 (n + 1) (by omega) (by omega)).trans hb
    obtain ⟨m0h102, m1h102⟩ := id Mw106
    exact q_rv rfl eX9_factor_77 ⟨rfl, Or.inr ⟨_, _, _, _, _, _, rA_0 hk40, Yh86, Mw106⟩, Yh102'⟩

set_option maxHeartbeats 4000000 in
theorem c_X9_factorS {w : am_w} {bf tx kd st vl : Int → Int} {tl N : Int} (hl : 0 ≤ tl ∧ tl ≤ 800) (hx : BX bf tx tl) (hg : TG tx kd st vl tl N) (hN : N ≤ 800) {d : Nat} (hd : 8 ≤ d) {f : GL → Int → GRL} {ne : Int} (hne : 0 ≤ ne ∧ ne ≤ 3) (ht : PAC w m_X9_sum d f (ne + 1) bf tx kd st vl tl N)  : PAC w m_X9_factor (d + 1) (rA kd st vl (some f)) ne bf tx kd st vl tl N := by
  intro h n th bl ps ea eo ud g0 g1 g2 g3 ns se E L i hm hb hp hE hL
  refine AE.of wf_X9_factor (Nat.le_of_ble_eq_true rfl) am_ok_v ?_
  obtain ⟨m0, m1⟩ := id hm
  obtain ⟨hi0, hi1⟩ := id hp.1
  have hch := hg.ch hx hp.1.1 hp.1.2
  have hk5 := hg.k5 hp.1.1 hp.1.2
  have hE5 := hE.1
  refine q_blk (lv2 := [(0, vr n)]) (st2 := [vr n]) kX9_factor_0 rfl ?_
  refine q_Vi (av := []) (st := []) (c_X9_isGood_g hm) lk_RX9_145 (by omega) rfl rfl hm.ob ⟨_, rfl, rfl⟩ (Nat.le_of_ble_eq_true rfl) eX9_factor_1 (fun z1 e2 => ?_)
  subst e2
  refine AQ.of (AS.if_ne_t (tgt := 8) eX9_factor_4 (by decide) ⟨by decide, by decide⟩ (by decide)) ?_
  refine q_blk (lv2 := [(0, vr n)]) (st2 := [vr n]) kX9_factor_8 rfl ?_
  refine AQ.callVi (av := []) (st := []) (c_X9_next hm hb hl hx hg hp) lk_RX9_149 (by omega) rfl rfl hm.ob ⟨_, rfl, rfl⟩ (Nat.le_of_ble_eq_true rfl) eX9_factor_9 (fun z3 h5 e4 => ?_)
  obtain ⟨rfl, Mh5, Fh5⟩ := e4
  have Vh5 : am_f2 h h5 n := Fh5.f2
  have hbh5 : h5.1 (n + 1) = some (100, 800, bf, am_N) := (Vh5.2 (n + 1) (by omega) (by omega)).trans hb
  obtain ⟨m0h5, m1h5⟩ := id Mh5
  have Ph5 := hp.at hg hl.1
  refine q_blk (lv2 := [(0, vr n), (1, vi (gm_T bf tl (st i)))]) (st2 := [vi 40, vi (gm_T bf tl (st i))]) kX9_factor_12 rfl ?_
  refine AQ.ic_ne (tgt := 78) eX9_factor_16 (by decide) (by first | assumption | exact ⟨by omega, by omega⟩) ⟨by decide, by decide⟩ (fun br6 => ?_) (fun br6 => ?_)
  · skip
    have hk40 : kd i ≠ 40 := fun c => by have := (hch.2.2.2.2.2 40 (by omega)).mp c; omega
    refine q_blk (lv2 := [(0, vr n), (1, vi (gm_T bf tl (st i)))]) (st2 := [vi (gm_T bf tl (st i))]) kX9_factor_78 rfl ?_
    refine q_Si (av := [vi (gm_T bf tl (st i))]) (st := []) (c_X9_isDigit (x := (gm_T bf tl (st i))) ⟨by omega, by omega⟩) lk_RX9_166 (by omega) rfl rfl (Nat.le_of_ble_eq_true rfl) eX9_factor_79 (fun z7 e8 => ?_)
    rcases e8 with ⟨rfl, e8⟩ | ⟨rfl, e8⟩
    · skip
      refine AQ.of (AS.if_eq_f eX9_factor_82 ⟨by decide, by decide⟩ (by decide) (by decide)) ?_
      refine q_blk (lv2 := [(0, vr n), (1, vi (gm_T bf tl (st i)))]) (st2 := [vi (-1)]) kX9_factor_85 rfl ?_
      refine q_goto (tgt := 155) eX9_factor_86 (by decide) ?_
      refine q_blk (lv2 := [(0, vr n), (1, vi (gm_T bf tl (st i))), (2, vi (-1))]) (st2 := [vi (-1)]) kX9_factor_155 rfl ?_
      refine AQ.of (AS.if_ge_f eX9_factor_157 ⟨by decide, by decide⟩ (by decide) (by decide)) ?_
      refine q_blk (lv2 := [(0, vr n), (1, vi (gm_T bf tl (st i))), (2, vi (-1))]) (st2 := [vi 9999, vi 0, vr n]) kX9_factor_160 rfl ?_
      refine AQ.callVi (av := [vi 0, vi 9999]) (st := []) (c_X9_number_g Mh5 hbh5 hl hx hg Ph5 (lo := 0) (hi := 9999) (by omega) (by omega) (by omega)) lk_RX9_197 (by omega) rfl rfl Mh5.ob ⟨_, rfl, rfl⟩ (Nat.le_of_ble_eq_true rfl) eX9_factor_165 (fun z9 h11 e10 => ?_)
      rcases e10 with ⟨⟨pxh11, Kh11, K2h11, Th11, Mh11⟩ | ⟨pxh11, nh11, eh11, ah11, Kh11, Zh11, Mh11⟩, z0h11, z1h11, Vh11⟩
      · skip
        have Yh11' : am_f2 h h11 n := Vh5.tr Vh11
        have hbh11 : h11.1 (n + 1) = some (100, 800, bf, am_N) := (Yh11'.2 (n + 1) (by omega) (by omega)).trans hb
        obtain ⟨m0h11, m1h11⟩ := id Mh11
        refine q_goto (tgt := 172) eX9_factor_168 (by decide) ?_
        refine q_blk (lv2 := [(0, vr n), (1, vi (gm_T bf tl (st i))), (2, vi (-1)), (3, vi z9)]) (st2 := [vi (-1), vr n]) kX9_factor_172 rfl ?_
        refine AQ.of (AS.if_ge_f eX9_factor_175 ⟨by decide, by decide⟩ (by decide) (by decide)) ?_
        refine q_blk (lv2 := [(0, vr n), (1, vi (gm_T bf tl (st i))), (2, vi (-1)), (3, vi z9)]) (st2 := [vi 0, vr n]) kX9_factor_178 rfl ?_
        refine q_goto (tgt := 183) eX9_factor_179 (by decide) ?_
        have w50 : 0 ≤ E 5 ∧ E 5 < 1300 := by omega
        refine AQ.callVv (av := [vi 0]) (st := []) (c_X9_emit_g Mh11 w50 (v := 0)) lk_RX9_200 (by omega) rfl rfl Mh11.ob ⟨_, rfl, rfl⟩ (Nat.le_of_ble_eq_true rfl) eX9_factor_183 (fun h14 e13 => ?_)
        obtain ⟨Mh14, Vh14⟩ := e13
        have Yh14' : am_f2 h h14 n := Yh11'.tr Vh14
        have hbh14 : h14.1 (n + 1) = some (100, 800, bf, am_N) := (Yh14'.2 (n + 1) (by omega) (by omega)).trans hb
        obtain ⟨m0h14, m1h14⟩ := id Mh14
        refine q_blk (lv2 := [(0, vr n), (1, vi (gm_T bf tl (st i))), (2, vi (-1)), (3, vi z9)]) (st2 := [vi z9, vr n]) kX9_factor_186 rfl ?_
        have w51 : 0 ≤ (gm_em E 0) 5 ∧ (gm_em E 0) 5 < 1300 := by have := (hE.em 0).1.1; rw [List.length_append, List.length_singleton] at this; omega
        refine AQ.callVv (av := [vi z9]) (st := []) (c_X9_emit_g Mh14 w51 (v := z9)) lk_RX9_200 (by omega) rfl rfl Mh14.ob ⟨_, rfl, rfl⟩ (Nat.le_of_ble_eq_true rfl) eX9_factor_188 (fun h17 e16 => ?_)
        obtain ⟨Mh17, Vh17⟩ := e16
        have Yh17' : am_f2 h h17 n := Yh14'.tr Vh17
        have hbh17 : h17.1 (n + 1) = some (100, 800, bf, am_N) := (Yh17'.2 (n + 1) (by omega) (by omega)).trans hb
        obtain ⟨m0h17, m1h17⟩ := id Mh17
        exact q_rv rfl eX9_factor_191 ⟨rfl, Or.inl ⟨(L ++ [(0, z9)]), (i + 1), _, _, _, by rw [rA_n hk40 (by omega) (fun c => hg.v0 hx hp.1.1 hp.1.2 c), rB_r Kh11], ⟨by omega, Th11.1.2⟩, by rw [gm_ed_l2 L _ (show (0 : Int) ≤ 1 by decide)]; omega, Th11, hE.e2 (0, z9) (show (0 : Int) ≤ 1 by decide) rfl rfl, (hE.em _).2.tr ((hE.em _).1.em _).2, Mh17⟩, Yh17'⟩
      · skip
        have Yh11' : am_f2 h h11 n := Vh5.tr Vh11
        have hbh11 : h11.1 (n + 1) = some (100, 800, bf, am_N) := (Yh11'.2 (n + 1) (by omega) (by omega)).trans hb
        obtain ⟨m0h11, m1h11⟩ := id Mh11
        refine q_goto (tgt := 172) eX9_factor_168 (by decide) ?_
        refine q_blk (lv2 := [(0, vr n), (1, vi (gm_T bf tl (st i))), (2, vi (-1)), (3, vi z9)]) (st2 := [vi (-1), vr n]) kX9_factor_172 rfl ?_
        refine AQ.of (AS.if_ge_f eX9_factor_175 ⟨by decide, by decide⟩ (by decide) (by decide)) ?_
        refine q_blk (lv2 := [(0, vr n), (1, vi (gm_T bf tl (st i))), (2, vi (-1)), (3, vi z9)]) (st2 := [vi 0, vr n]) kX9_factor_178 rfl ?_
        refine q_goto (tgt := 183) eX9_factor_179 (by decide) ?_
        refine AQ.callVv (av := [vi 0]) (st := []) (c_X9_emit_b Mh11 Zh11 (v := 0)) lk_RX9_200 (by omega) rfl rfl Mh11.ob ⟨_, rfl, rfl⟩ (Nat.le_of_ble_eq_true rfl) eX9_factor_183 (fun h20 e19 => ?_)
        subst e19
        refine q_blk (lv2 := [(0, vr n), (1, vi (gm_T bf tl (st i))), (2, vi (-1)), (3, vi z9)]) (st2 := [vi z9, vr n]) kX9_factor_186 rfl ?_
        refine AQ.callVv (av := [vi z9]) (st := []) (c_X9_emit_b Mh11 Zh11 (v := z9)) lk_RX9_200 (by omega) rfl rfl Mh11.ob ⟨_, rfl, rfl⟩ (Nat.le_of_ble_eq_true rfl) eX9_factor_188 (fun h23 e22 => ?_)
        subst e22
        exact q_rv rfl eX9_factor_191 ⟨rfl, Or.inr ⟨_, _, _, _, _, _, by rw [rA_n hk40 (by omega) (fun c => hg.v0 hx hp.1.1 hp.1.2 c), rB_l Kh11], Zh11, Mh11⟩, Yh11'⟩
    · skip
      refine AQ.of (AS.if_eq_t (tgt := 89) eX9_factor_82 (by decide) ⟨by decide, by decide⟩ (by decide)) ?_
      refine q_blk (lv2 := [(0, vr n), (1, vi (gm_T bf tl (st i)))]) (st2 := [vr n]) kX9_factor_89 rfl ?_
      refine AQ.of (AS.ldcS (i := 24) (by decide) ⟨rfl, rfl⟩ eX9_factor_90) ?_
      refine AQ.callVi (av := [vr (w.2 24)]) (st := []) (c_X9_takeWord_g Mh5 hbh5 hl hx hg Ph5 (w9 := 5) (by decide) (by decide)) lk_RX9_185 (by omega) rfl rfl Mh5.ob ⟨_, rfl, rfl⟩ (Nat.le_of_ble_eq_true rfl) eX9_factor_92 (fun z24 h26 e25 => ?_)
      rcases e25 with ⟨⟨rfl, Kh26, pxh26, Th26, Mh26⟩ | ⟨rfl, Kh26, Mh26⟩, Vh26⟩
      · skip
        have Yh26' : am_f2 h h26 n := Vh5.tr Vh26
        have hbh26 : h26.1 (n + 1) = some (100, 800, bf, am_N) := (Yh26'.2 (n + 1) (by omega) (by omega)).trans hb
        obtain ⟨m0h26, m1h26⟩ := id Mh26
        rw [show gm_wc 5 = (-1) from rfl] at Kh26
        refine AQ.of (AS.if_eq_f eX9_factor_95 ⟨by decide, by decide⟩ (by decide) (by decide)) ?_
        refine q_blk (lv2 := [(0, vr n), (1, vi (gm_T bf tl (st i)))]) (st2 := [vi 0]) kX9_factor_98 rfl ?_
        refine q_goto (tgt := 155) eX9_factor_99 (by decide) ?_
        refine q_blk (lv2 := [(0, vr n), (1, vi (gm_T bf tl (st i))), (2, vi 0)]) (st2 := [vi 0]) kX9_factor_155 rfl ?_
        refine AQ.of (AS.if_ge_t (tgt := 171) eX9_factor_157 (by decide) ⟨by decide, by decide⟩ (by decide)) ?_
        refine q_blk (lv2 := [(0, vr n), (1, vi (gm_T bf tl (st i))), (2, vi 0)]) (st2 := [vi 0]) kX9_factor_171 rfl ?_
        refine q_blk (lv2 := [(0, vr n), (1, vi (gm_T bf tl (st i))), (2, vi 0), (3, vi 0)]) (st2 := [vi 0, vr n]) kX9_factor_172 rfl ?_
        refine AQ.of (AS.if_ge_t (tgt := 182) eX9_factor_175 (by decide) ⟨by decide, by decide⟩ (by decide)) ?_
        refine q_blk (lv2 := [(0, vr n), (1, vi (gm_T bf tl (st i))), (2, vi 0), (3, vi 0)]) (st2 := [vi 1, vr n]) kX9_factor_182 rfl ?_
        have w50 : 0 ≤ E 5 ∧ E 5 < 1300 := by omega
        refine AQ.callVv (av := [vi 1]) (st := []) (c_X9_emit_g Mh26 w50 (v := 1)) lk_RX9_200 (by omega) rfl rfl Mh26.ob ⟨_, rfl, rfl⟩ (Nat.le_of_ble_eq_true rfl) eX9_factor_183 (fun h29 e28 => ?_)
        obtain ⟨Mh29, Vh29⟩ := e28
        have Yh29' : am_f2 h h29 n := Yh26'.tr Vh29
        have hbh29 : h29.1 (n + 1) = some (100, 800, bf, am_N) := (Yh29'.2 (n + 1) (by omega) (by omega)).trans hb
        obtain ⟨m0h29, m1h29⟩ := id Mh29
        refine q_blk (lv2 := [(0, vr n), (1, vi (gm_T bf tl (st i))), (2, vi 0), (3, vi 0)]) (st2 := [vi 0, vr n]) kX9_factor_186 rfl ?_
        have w51 : 0 ≤ (gm_em E 1) 5 ∧ (gm_em E 1) 5 < 1300 := by have := (hE.em 1).1.1; rw [List.length_append, List.length_singleton] at this; omega
        refine AQ.callVv (av := [vi 0]) (st := []) (c_X9_emit_g Mh29 w51 (v := 0)) lk_RX9_200 (by omega) rfl rfl Mh29.ob ⟨_, rfl, rfl⟩ (Nat.le_of_ble_eq_true rfl) eX9_factor_188 (fun h32 e31 => ?_)
        obtain ⟨Mh32, Vh32⟩ := e31
        have Yh32' : am_f2 h h32 n := Yh29'.tr Vh32
        have hbh32 : h32.1 (n + 1) = some (100, 800, bf, am_N) := (Yh32'.2 (n + 1) (by omega) (by omega)).trans hb
        obtain ⟨m0h32, m1h32⟩ := id Mh32
        exact q_rv rfl eX9_factor_191 ⟨rfl, Or.inl ⟨(L ++ [(1, -1 - kd i)]), (i + 1), _, _, _, rA_wd (by omega), ⟨by omega, Th26.1.2⟩, by rw [gm_ed_l2 L _ (show (1 : Int) ≤ 1 by decide)]; omega, Th26, hE.e2 (1, -1 - kd i) (show (1 : Int) ≤ 1 by decide) rfl (by show _ = -1 - kd i; omega), (hE.em _).2.tr ((hE.em _).1.em _).2, Mh32⟩, Yh32'⟩
      · skip
        have Yh26' : am_f2 h h26 n := Vh5.tr Vh26
        have hbh26 : h26.1 (n + 1) = some (100, 800, bf, am_N) := (Yh26'.2 (n + 1) (by omega) (by omega)).trans hb
        obtain ⟨m0h26, m1h26⟩ := id Mh26
        have Ph26 := Ph5.at hg hl.1
        rw [show gm_wc 5 = (-1) from rfl] at Kh26
        refine AQ.of (AS.if_eq_t (tgt := 102) eX9_factor_95 (by decide) ⟨by decide, by decide⟩ (by decide)) ?_
        refine q_blk (lv2 := [(0, vr n), (1, vi (gm_T bf tl (st i)))]) (st2 := [vr n]) kX9_factor_102 rfl ?_
        refine AQ.of (AS.ldcS (i := 25) (by decide) ⟨rfl, rfl⟩ eX9_factor_103) ?_
        refine AQ.callVi (av := [vr (w.2 25)]) (st := []) (c_X9_takeWord_g Mh26 hbh26 hl hx hg Ph26 (w9 := 6) (by decide) (by decide)) lk_RX9_185 (by omega) rfl rfl Mh26.ob ⟨_, rfl, rfl⟩ (Nat.le_of_ble_eq_true rfl) eX9_factor_105 (fun z33 h35 e34 => ?_)
        rcases e34 with ⟨⟨rfl, Kh35, pxh35, Th35, Mh35⟩ | ⟨rfl, Kh35, Mh35⟩, Vh35⟩
        · skip
          have Yh35' : am_f2 h h35 n := Yh26'.tr Vh35
          have hbh35 : h35.1 (n + 1) = some (100, 800, bf, am_N) := (Yh35'.2 (n + 1) (by omega) (by omega)).trans hb
          obtain ⟨m0h35, m1h35⟩ := id Mh35
          rw [show gm_wc 6 = (-2) from rfl] at Kh35
          refine AQ.of (AS.if_eq_f eX9_factor_108 ⟨by decide, by decide⟩ (by decide) (by decide)) ?_
          refine q_blk (lv2 := [(0, vr n), (1, vi (gm_T bf tl (st i)))]) (st2 := [vi 1]) kX9_factor_111 rfl ?_
          refine q_goto (tgt := 155) eX9_factor_112 (by decide) ?_
          refine q_blk (lv2 := [(0, vr n), (1, vi (gm_T bf tl (st i))), (2, vi 1)]) (st2 := [vi 1]) kX9_factor_155 rfl ?_
          refine AQ.of (AS.if_ge_t (tgt := 171) eX9_factor_157 (by decide) ⟨by decide, by decide⟩ (by decide)) ?_
          refine q_blk (lv2 := [(0, vr n), (1, vi (gm_T bf tl (st i))), (2, vi 1)]) (st2 := [vi 1]) kX9_factor_171 rfl ?_
          refine q_blk (lv2 := [(0, vr n), (1, vi (gm_T bf tl (st i))), (2, vi 1), (3, vi 1)]) (st2 := [vi 1, vr n]) kX9_factor_172 rfl ?_
          refine AQ.of (AS.if_ge_t (tgt := 182) eX9_factor_175 (by decide) ⟨by decide, by decide⟩ (by decide)) ?_
          refine q_blk (lv2 := [(0, vr n), (1, vi (gm_T bf tl (st i))), (2, vi 1), (3, vi 1)]) (st2 := [vi 1, vr n]) kX9_factor_182 rfl ?_
          have w50 : 0 ≤ E 5 ∧ E 5 < 1300 := by omega
          refine AQ.callVv (av := [vi 1]) (st := []) (c_X9_emit_g Mh35 w50 (v := 1)) lk_RX9_200 (by omega) rfl rfl Mh35.ob ⟨_, rfl, rfl⟩ (Nat.le_of_ble_eq_true rfl) eX9_factor_183 (fun h38 e37 => ?_)
          obtain ⟨Mh38, Vh38⟩ := e37
          have Yh38' : am_f2 h h38 n := Yh35'.tr Vh38
          have hbh38 : h38.1 (n + 1) = some (100, 800, bf, am_N) := (Yh38'.2 (n + 1) (by omega) (by omega)).trans hb
          obtain ⟨m0h38, m1h38⟩ := id Mh38
          refine q_blk (lv2 := [(0, vr n), (1, vi (gm_T bf tl (st i))), (2, vi 1), (3, vi 1)]) (st2 := [vi 1, vr n]) kX9_factor_186 rfl ?_
          have w51 : 0 ≤ (gm_em E 1) 5 ∧ (gm_em E 1) 5 < 1300 := by have := (hE.em 1).1.1; rw [List.length_append, List.length_singleton] at this; omega
          refine AQ.callVv (av := [vi 1]) (st := []) (c_X9_emit_g Mh38 w51 (v := 1)) lk_RX9_200 (by omega) rfl rfl Mh38.ob ⟨_, rfl, rfl⟩ (Nat.le_of_ble_eq_true rfl) eX9_factor_188 (fun h41 e40 => ?_)
          obtain ⟨Mh41, Vh41⟩ := e40
          have Yh41' : am_f2 h h41 n := Yh38'.tr Vh41
          have hbh41 : h41.1 (n + 1) = some (100, 800, bf, am_N) := (Yh41'.2 (n + 1) (by omega) (by omega)).trans hb
          obtain ⟨m0h41, m1h41⟩ := id Mh41
          exact q_rv rfl eX9_factor_191 ⟨rfl, Or.inl ⟨(L ++ [(1, -1 - kd i)]), (i + 1), _, _, _, rA_wd (by omega), ⟨by omega, Th35.1.2⟩, by rw [gm_ed_l2 L _ (show (1 : Int) ≤ 1 by decide)]; omega, Th35, hE.e2 (1, -1 - kd i) (show (1 : Int) ≤ 1 by decide) rfl (by show _ = -1 - kd i; omega), (hE.em _).2.tr ((hE.em _).1.em _).2, Mh41⟩, Yh41'⟩
        · skip
          have Yh35' : am_f2 h h35 n := Yh26'.tr Vh35
          have hbh35 : h35.1 (n + 1) = some (100, 800, bf, am_N) := (Yh35'.2 (n + 1) (by omega) (by omega)).trans hb
          obtain ⟨m0h35, m1h35⟩ := id Mh35
          have Ph35 := Ph26.at hg hl.1
          rw [show gm_wc 6 = (-2) from rfl] at Kh35
          refine AQ.of (AS.if_eq_t (tgt := 115) eX9_factor_108 (by decide) ⟨by decide, by decide⟩ (by decide)) ?_
          refine q_blk (lv2 := [(0, vr n), (1, vi (gm_T bf tl (st i)))]) (st2 := [vr n]) kX9_factor_115 rfl ?_
          refine AQ.of (AS.ldcS (i := 26) (by decide) ⟨rfl, rfl⟩ eX9_factor_116) ?_
          refine AQ.callVi (av := [vr (w.2 26)]) (st := []) (c_X9_takeWord_g Mh35 hbh35 hl hx hg Ph35 (w9 := 7) (by decide) (by decide)) lk_RX9_185 (by omega) rfl rfl Mh35.ob ⟨_, rfl, rfl⟩ (Nat.le_of_ble_eq_true rfl) eX9_factor_118 (fun z42 h44 e43 => ?_)
          rcases e43 with ⟨⟨rfl, Kh44, pxh44, Th44, Mh44⟩ | ⟨rfl, Kh44, Mh44⟩, Vh44⟩
          · skip
            have Yh44' : am_f2 h h44 n := Yh35'.tr Vh44
            have hbh44 : h44.1 (n + 1) = some (100, 800, bf, am_N) := (Yh44'.2 (n + 1) (by omega) (by omega)).trans hb
            obtain ⟨m0h44, m1h44⟩ := id Mh44
            rw [show gm_wc 7 = (-3) from rfl] at Kh44
            refine AQ.of (AS.if_eq_f eX9_factor_121 ⟨by decide, by decide⟩ (by decide) (by decide)) ?_
            refine q_blk (lv2 := [(0, vr n), (1, vi (gm_T bf tl (st i)))]) (st2 := [vi 2]) kX9_factor_124 rfl ?_
            refine q_goto (tgt := 155) eX9_factor_125 (by decide) ?_
            refine q_blk (lv2 := [(0, vr n), (1, vi (gm_T bf tl (st i))), (2, vi 2)]) (st2 := [vi 2]) kX9_factor_155 rfl ?_
            refine AQ.of (AS.if_ge_t (tgt := 171) eX9_factor_157 (by decide) ⟨by decide, by decide⟩ (by decide)) ?_
            refine q_blk (lv2 := [(0, vr n), (1, vi (gm_T bf tl (st i))), (2, vi 2)]) (st2 := [vi 2]) kX9_factor_171 rfl ?_
            refine q_blk (lv2 := [(0, vr n), (1, vi (gm_T bf tl (st i))), (2, vi 2), (3, vi 2)]) (st2 := [vi 2, vr n]) kX9_factor_172 rfl ?_
            refine AQ.of (AS.if_ge_t (tgt := 182) eX9_factor_175 (by decide) ⟨by decide, by decide⟩ (by decide)) ?_
            refine q_blk (lv2 := [(0, vr n), (1, vi (gm_T bf tl (st i))), (2, vi 2), (3, vi 2)]) (st2 := [vi 1, vr n]) kX9_factor_182 rfl ?_
            have w50 : 0 ≤ E 5 ∧ E 5 < 1300 := by omega
            refine AQ.callVv (av := [vi 1]) (st := []) (c_X9_emit_g Mh44 w50 (v := 1)) lk_RX9_200 (by omega) rfl rfl Mh44.ob ⟨_, rfl, rfl⟩ (Nat.le_of_ble_eq_true rfl) eX9_factor_183 (fun h47 e46 => ?_)
            obtain ⟨Mh47, Vh47⟩ := e46
            have Yh47' : am_f2 h h47 n := Yh44'.tr Vh47
            have hbh47 : h47.1 (n + 1) = some (100, 800, bf, am_N) := (Yh47'.2 (n + 1) (by omega) (by omega)).trans hb
            obtain ⟨m0h47, m1h47⟩ := id Mh47
            refine q_blk (lv2 := [(0, vr n), (1, vi (gm_T bf tl (st i))), (2, vi 2), (3, vi 2)]) (st2 := [vi 2, vr n]) kX9_factor_186 rfl ?_
            have w51 : 0 ≤ (gm_em E 1) 5 ∧ (gm_em E 1) 5 < 1300 := by have := (hE.em 1).1.1; rw [List.length_append, List.length_singleton] at this; omega
            refine AQ.callVv (av := [vi 2]) (st := []) (c_X9_emit_g Mh47 w51 (v := 2)) lk_RX9_200 (by omega) rfl rfl Mh47.ob ⟨_, rfl, rfl⟩ (Nat.le_of_ble_eq_true rfl) eX9_factor_188 (fun h50 e49 => ?_)
            obtain ⟨Mh50, Vh50⟩ := e49
            have Yh50' : am_f2 h h50 n := Yh47'.tr Vh50
            have hbh50 : h50.1 (n + 1) = some (100, 800, bf, am_N) := (Yh50'.2 (n + 1) (by omega) (by omega)).trans hb
            obtain ⟨m0h50, m1h50⟩ := id Mh50
            exact q_rv rfl eX9_factor_191 ⟨rfl, Or.inl ⟨(L ++ [(1, -1 - kd i)]), (i + 1), _, _, _, rA_wd (by omega), ⟨by omega, Th44.1.2⟩, by rw [gm_ed_l2 L _ (show (1 : Int) ≤ 1 by decide)]; omega, Th44, hE.e2 (1, -1 - kd i) (show (1 : Int) ≤ 1 by decide) rfl (by show _ = -1 - kd i; omega), (hE.em _).2.tr ((hE.em _).1.em _).2, Mh50⟩, Yh50'⟩
          · skip
            have Yh44' : am_f2 h h44 n := Yh35'.tr Vh44
            have hbh44 : h44.1 (n + 1) = some (100, 800, bf, am_N) := (Yh44'.2 (n + 1) (by omega) (by omega)).trans hb
            obtain ⟨m0h44, m1h44⟩ := id Mh44
            have Ph44 := Ph35.at hg hl.1
            rw [show gm_wc 7 = (-3) from rfl] at Kh44
            refine AQ.of (AS.if_eq_t (tgt := 128) eX9_factor_121 (by decide) ⟨by decide, by decide⟩ (by decide)) ?_
            refine q_blk (lv2 := [(0, vr n), (1, vi (gm_T bf tl (st i)))]) (st2 := [vr n]) kX9_factor_128 rfl ?_
            refine AQ.of (AS.ldcS (i := 27) (by decide) ⟨rfl, rfl⟩ eX9_factor_129) ?_
            refine AQ.callVi (av := [vr (w.2 27)]) (st := []) (c_X9_takeWord_g Mh44 hbh44 hl hx hg Ph44 (w9 := 8) (by decide) (by decide)) lk_RX9_185 (by omega) rfl rfl Mh44.ob ⟨_, rfl, rfl⟩ (Nat.le_of_ble_eq_true rfl) eX9_factor_131 (fun z51 h53 e52 => ?_)
            rcases e52 with ⟨⟨rfl, Kh53, pxh53, Th53, Mh53⟩ | ⟨rfl, Kh53, Mh53⟩, Vh53⟩
            · skip
              have Yh53' : am_f2 h h53 n := Yh44'.tr Vh53
              have hbh53 : h53.1 (n + 1) = some (100, 800, bf, am_N) := (Yh53'.2 (n + 1) (by omega) (by omega)).trans hb
              obtain ⟨m0h53, m1h53⟩ := id Mh53
              rw [show gm_wc 8 = (-4) from rfl] at Kh53
              refine AQ.of (AS.if_eq_f eX9_factor_134 ⟨by decide, by decide⟩ (by decide) (by decide)) ?_
              refine q_blk (lv2 := [(0, vr n), (1, vi (gm_T bf tl (st i)))]) (st2 := [vi 3]) kX9_factor_137 rfl ?_
              refine q_goto (tgt := 155) eX9_factor_138 (by decide) ?_
              refine q_blk (lv2 := [(0, vr n), (1, vi (gm_T bf tl (st i))), (2, vi 3)]) (st2 := [vi 3]) kX9_factor_155 rfl ?_
              refine AQ.of (AS.if_ge_t (tgt := 171) eX9_factor_157 (by decide) ⟨by decide, by decide⟩ (by decide)) ?_
              refine q_blk (lv2 := [(0, vr n), (1, vi (gm_T bf tl (st i))), (2, vi 3)]) (st2 := [vi 3]) kX9_factor_171 rfl ?_
              refine q_blk (lv2 := [(0, vr n), (1, vi (gm_T bf tl (st i))), (2, vi 3), (3, vi 3)]) (st2 := [vi 3, vr n]) kX9_factor_172 rfl ?_
              refine AQ.of (AS.if_ge_t (tgt := 182) eX9_factor_175 (by decide) ⟨by decide, by decide⟩ (by decide)) ?_
              refine q_blk (lv2 := [(0, vr n), (1, vi (gm_T bf tl (st i))), (2, vi 3), (3, vi 3)]) (st2 := [vi 1, vr n]) kX9_factor_182 rfl ?_
              have w50 : 0 ≤ E 5 ∧ E 5 < 1300 := by omega
              refine AQ.callVv (av := [vi 1]) (st := []) (c_X9_emit_g Mh53 w50 (v := 1)) lk_RX9_200 (by omega) rfl rfl Mh53.ob ⟨_, rfl, rfl⟩ (Nat.le_of_ble_eq_true rfl) eX9_factor_183 (fun h56 e55 => ?_)
              obtain ⟨Mh56, Vh56⟩ := e55
              have Yh56' : am_f2 h h56 n := Yh53'.tr Vh56
              have hbh56 : h56.1 (n + 1) = some (100, 800, bf, am_N) := (Yh56'.2 (n + 1) (by omega) (by omega)).trans hb
              obtain ⟨m0h56, m1h56⟩ := id Mh56
              refine q_blk (lv2 := [(0, vr n), (1, vi (gm_T bf tl (st i))), (2, vi 3), (3, vi 3)]) (st2 := [vi 3, vr n]) kX9_factor_186 rfl ?_
              have w51 : 0 ≤ (gm_em E 1) 5 ∧ (gm_em E 1) 5 < 1300 := by have := (hE.em 1).1.1; rw [List.length_append, List.length_singleton] at this; omega
              refine AQ.callVv (av := [vi 3]) (st := []) (c_X9_emit_g Mh56 w51 (v := 3)) lk_RX9_200 (by omega) rfl rfl Mh56.ob ⟨_, rfl, rfl⟩ (Nat.le_of_ble_eq_true rfl) eX9_factor_188 (fun h59 e58 => ?_)
              obtain ⟨Mh59, Vh59⟩ := e58
              have Yh59' : am_f2 h h59 n := Yh56'.tr Vh59
              have hbh59 : h59.1 (n + 1) = some (100, 800, bf, am_N) := (Yh59'.2 (n + 1) (by omega) (by omega)).trans hb
              obtain ⟨m0h59, m1h59⟩ := id Mh59
              exact q_rv rfl eX9_factor_191 ⟨rfl, Or.inl ⟨(L ++ [(1, -1 - kd i)]), (i + 1), _, _, _, rA_wd (by omega), ⟨by omega, Th53.1.2⟩, by rw [gm_ed_l2 L _ (show (1 : Int) ≤ 1 by decide)]; omega, Th53, hE.e2 (1, -1 - kd i) (show (1 : Int) ≤ 1 by decide) rfl (by show _ = -1 - kd i; omega), (hE.em _).2.tr ((hE.em _).1.em _).2, Mh59⟩, Yh59'⟩
            · skip
              have Yh53' : am_f2 h h53 n := Yh44'.tr Vh53
              have hbh53 : h53.1 (n + 1) = some (100, 800, bf, am_N) := (Yh53'.2 (n + 1) (by omega) (by omega)).trans hb
              obtain ⟨m0h53, m1h53⟩ := id Mh53
              have Ph53 := Ph44.at hg hl.1
              rw [show gm_wc 8 = (-4) from rfl] at Kh53
              refine AQ.of (AS.if_eq_t (tgt := 141) eX9_factor_134 (by decide) ⟨by decide, by decide⟩ (by decide)) ?_
              refine q_blk (lv2 := [(0, vr n), (1, vi (gm_T bf tl (st i)))]) (st2 := [vr n]) kX9_factor_141 rfl ?_
              refine AQ.of (AS.ldcS (i := 28) (by decide) ⟨rfl, rfl⟩ eX9_factor_142) ?_
              refine AQ.callVi (av := [vr (w.2 28)]) (st := []) (c_X9_takeWord_g Mh53 hbh53 hl hx hg Ph53 (w9 := 9) (by decide) (by decide)) lk_RX9_185 (by omega) rfl rfl Mh53.ob ⟨_, rfl, rfl⟩ (Nat.le_of_ble_eq_true rfl) eX9_factor_144 (fun z60 h62 e61 => ?_)
              rcases e61 with ⟨⟨rfl, Kh62, pxh62, Th62, Mh62⟩ | ⟨rfl, Kh62, Mh62⟩, Vh62⟩
              · skip
                have Yh62' : am_f2 h h62 n := Yh53'.tr Vh62
                have hbh62 : h62.1 (n + 1) = some (100, 800, bf, am_N) := (Yh62'.2 (n + 1) (by omega) (by omega)).trans hb
                obtain ⟨m0h62, m1h62⟩ := id Mh62
                rw [show gm_wc 9 = (-5) from rfl] at Kh62
                refine AQ.of (AS.if_eq_f eX9_factor_147 ⟨by decide, by decide⟩ (by decide) (by decide)) ?_
                refine q_blk (lv2 := [(0, vr n), (1, vi (gm_T bf tl (st i)))]) (st2 := [vi 4]) kX9_factor_150 rfl ?_
                refine q_goto (tgt := 155) eX9_factor_151 (by decide) ?_
                refine q_blk (lv2 := [(0, vr n), (1, vi (gm_T bf tl (st i))), (2, vi 4)]) (st2 := [vi 4]) kX9_factor_155 rfl ?_
                refine AQ.of (AS.if_ge_t (tgt := 171) eX9_factor_157 (by decide) ⟨by decide, by decide⟩ (by decide)) ?_
                refine q_blk (lv2 := [(0, vr n), (1, vi (gm_T bf tl (st i))), (2, vi 4)]) (st2 := [vi 4]) kX9_factor_171 rfl ?_
                refine q_blk (lv2 := [(0, vr n), (1, vi (gm_T bf tl (st i))), (2, vi 4), (3, vi 4)]) (st2 := [vi 4, vr n]) kX9_factor_172 rfl ?_
                refine AQ.of (AS.if_ge_t (tgt := 182) eX9_factor_175 (by decide) ⟨by decide, by decide⟩ (by decide)) ?_
                refine q_blk (lv2 := [(0, vr n), (1, vi (gm_T bf tl (st i))), (2, vi 4), (3, vi 4)]) (st2 := [vi 1, vr n]) kX9_factor_182 rfl ?_
                have w50 : 0 ≤ E 5 ∧ E 5 < 1300 := by omega
                refine AQ.callVv (av := [vi 1]) (st := []) (c_X9_emit_g Mh62 w50 (v := 1)) lk_RX9_200 (by omega) rfl rfl Mh62.ob ⟨_, rfl, rfl⟩ (Nat.le_of_ble_eq_true rfl) eX9_factor_183 (fun h65 e64 => ?_)
                obtain ⟨Mh65, Vh65⟩ := e64
                have Yh65' : am_f2 h h65 n := Yh62'.tr Vh65
                have hbh65 : h65.1 (n + 1) = some (100, 800, bf, am_N) := (Yh65'.2 (n + 1) (by omega) (by omega)).trans hb
                obtain ⟨m0h65, m1h65⟩ := id Mh65
                refine q_blk (lv2 := [(0, vr n), (1, vi (gm_T bf tl (st i))), (2, vi 4), (3, vi 4)]) (st2 := [vi 4, vr n]) kX9_factor_186 rfl ?_
                have w51 : 0 ≤ (gm_em E 1) 5 ∧ (gm_em E 1) 5 < 1300 := by have := (hE.em 1).1.1; rw [List.length_append, List.length_singleton] at this; omega
                refine AQ.callVv (av := [vi 4]) (st := []) (c_X9_emit_g Mh65 w51 (v := 4)) lk_RX9_200 (by omega) rfl rfl Mh65.ob ⟨_, rfl, rfl⟩ (Nat.le_of_ble_eq_true rfl) eX9_factor_188 (fun h68 e67 => ?_)
                obtain ⟨Mh68, Vh68⟩ := e67
                have Yh68' : am_f2 h h68 n := Yh65'.tr Vh68
                have hbh68 : h68.1 (n + 1) = some (100, 800, bf, am_N) := (Yh68'.2 (n + 1) (by omega) (by omega)).trans hb
                obtain ⟨m0h68, m1h68⟩ := id Mh68
                exact q_rv rfl eX9_factor_191 ⟨rfl, Or.inl ⟨(L ++ [(1, -1 - kd i)]), (i + 1), _, _, _, rA_wd (by omega), ⟨by omega, Th62.1.2⟩, by rw [gm_ed_l2 L _ (show (1 : Int) ≤ 1 by decide)]; omega, Th62, hE.e2 (1, -1 - kd i) (show (1 : Int) ≤ 1 by decide) rfl (by show _ = -1 - kd i; omega), (hE.em _).2.tr ((hE.em _).1.em _).2, Mh68⟩, Yh68'⟩
              · skip
                have Yh62' : am_f2 h h62 n := Yh53'.tr Vh62
                have hbh62 : h62.1 (n + 1) = some (100, 800, bf, am_N) := (Yh62'.2 (n + 1) (by omega) (by omega)).trans hb
                obtain ⟨m0h62, m1h62⟩ := id Mh62
                have Ph62 := Ph53.at hg hl.1
                rw [show gm_wc 9 = (-5) from rfl] at Kh62
                refine AQ.of (AS.if_eq_t (tgt := 154) eX9_factor_147 (by decide) ⟨by decide, by decide⟩ (by decide)) ?_
                refine q_blk (lv2 := [(0, vr n), (1, vi (gm_T bf tl (st i)))]) (st2 := [vi (-1)]) kX9_factor_154 rfl ?_
                refine q_blk (lv2 := [(0, vr n), (1, vi (gm_T bf tl (st i))), (2, vi (-1))]) (st2 := [vi (-1)]) kX9_factor_155 rfl ?_
                refine AQ.of (AS.if_ge_f eX9_factor_157 ⟨by decide, by decide⟩ (by decide) (by decide)) ?_
                refine q_blk (lv2 := [(0, vr n), (1, vi (gm_T bf tl (st i))), (2, vi (-1))]) (st2 := [vi 9999, vi 0, vr n]) kX9_factor_160 rfl ?_
                refine AQ.callVi (av := [vi 0, vi 9999]) (st := []) (c_X9_number_g Mh62 hbh62 hl hx hg Ph62 (lo := 0) (hi := 9999) (by omega) (by omega) (by omega)) lk_RX9_197 (by omega) rfl rfl Mh62.ob ⟨_, rfl, rfl⟩ (Nat.le_of_ble_eq_true rfl) eX9_factor_165 (fun z69 h71 e70 => ?_)
                rcases e70 with ⟨⟨pxh71, Kh71, K2h71, Th71, Mh71⟩ | ⟨pxh71, nh71, eh71, ah71, Kh71, Zh71, Mh71⟩, z0h71, z1h71, Vh71⟩
                · skip
                  have Yh71' : am_f2 h h71 n := Yh62'.tr Vh71
                  have hbh71 : h71.1 (n + 1) = some (100, 800, bf, am_N) := (Yh71'.2 (n + 1) (by omega) (by omega)).trans hb
                  obtain ⟨m0h71, m1h71⟩ := id Mh71
                  refine q_goto (tgt := 172) eX9_factor_168 (by decide) ?_
                  refine q_blk (lv2 := [(0, vr n), (1, vi (gm_T bf tl (st i))), (2, vi (-1)), (3, vi z69)]) (st2 := [vi (-1), vr n]) kX9_factor_172 rfl ?_
                  refine AQ.of (AS.if_ge_f eX9_factor_175 ⟨by decide, by decide⟩ (by decide) (by decide)) ?_
                  refine q_blk (lv2 := [(0, vr n), (1, vi (gm_T bf tl (st i))), (2, vi (-1)), (3, vi z69)]) (st2 := [vi 0, vr n]) kX9_factor_178 rfl ?_
                  refine q_goto (tgt := 183) eX9_factor_179 (by decide) ?_
                  have w50 : 0 ≤ E 5 ∧ E 5 < 1300 := by omega
                  refine AQ.callVv (av := [vi 0]) (st := []) (c_X9_emit_g Mh71 w50 (v := 0)) lk_RX9_200 (by omega) rfl rfl Mh71.ob ⟨_, rfl, rfl⟩ (Nat.le_of_ble_eq_true rfl) eX9_factor_183 (fun h74 e73 => ?_)
                  obtain ⟨Mh74, Vh74⟩ := e73
                  have Yh74' : am_f2 h h74 n := Yh71'.tr Vh74
                  have hbh74 : h74.1 (n + 1) = some (100, 800, bf, am_N) := (Yh74'.2 (n + 1) (by omega) (by omega)).trans hb
                  obtain ⟨m0h74, m1h74⟩ := id Mh74
                  refine q_blk (lv2 := [(0, vr n), (1, vi (gm_T bf tl (st i))), (2, vi (-1)), (3, vi z69)]) (st2 := [vi z69, vr n]) kX9_factor_186 rfl ?_
                  have w51 : 0 ≤ (gm_em E 0) 5 ∧ (gm_em E 0) 5 < 1300 := by have := (hE.em 0).1.1; rw [List.length_append, List.length_singleton] at this; omega
                  refine AQ.callVv (av := [vi z69]) (st := []) (c_X9_emit_g Mh74 w51 (v := z69)) lk_RX9_200 (by omega) rfl rfl Mh74.ob ⟨_, rfl, rfl⟩ (Nat.le_of_ble_eq_true rfl) eX9_factor_188 (fun h77 e76 => ?_)
                  obtain ⟨Mh77, Vh77⟩ := e76
                  have Yh77' : am_f2 h h77 n := Yh74'.tr Vh77
                  have hbh77 : h77.1 (n + 1) = some (100, 800, bf, am_N) := (Yh77'.2 (n + 1) (by omega) (by omega)).trans hb
                  obtain ⟨m0h77, m1h77⟩ := id Mh77
                  exact q_rv rfl eX9_factor_191 ⟨rfl, Or.inl ⟨(L ++ [(0, z69)]), (i + 1), _, _, _, by rw [rA_n hk40 (by omega) (fun c => hg.v0 hx hp.1.1 hp.1.2 c), rB_r Kh71], ⟨by omega, Th71.1.2⟩, by rw [gm_ed_l2 L _ (show (0 : Int) ≤ 1 by decide)]; omega, Th71, hE.e2 (0, z69) (show (0 : Int) ≤ 1 by decide) rfl rfl, (hE.em _).2.tr ((hE.em _).1.em _).2, Mh77⟩, Yh77'⟩
                · skip
                  have Yh71' : am_f2 h h71 n := Yh62'.tr Vh71
                  have hbh71 : h71.1 (n + 1) = some (100, 800, bf, am_N) := (Yh71'.2 (n + 1) (by omega) (by omega)).trans hb
                  obtain ⟨m0h71, m1h71⟩ := id Mh71
                  refine q_goto (tgt := 172) eX9_factor_168 (by decide) ?_
                  refine q_blk (lv2 := [(0, vr n), (1, vi (gm_T bf tl (st i))), (2, vi (-1)), (3, vi z69)]) (st2 := [vi (-1), vr n]) kX9_factor_172 rfl ?_
                  refine AQ.of (AS.if_ge_f eX9_factor_175 ⟨by decide, by decide⟩ (by decide) (by decide)) ?_
                  refine q_blk (lv2 := [(0, vr n), (1, vi (gm_T bf tl (st i))), (2, vi (-1)), (3, vi z69)]) (st2 := [vi 0, vr n]) kX9_factor_178 rfl ?_
                  refine q_goto (tgt := 183) eX9_factor_179 (by decide) ?_
                  refine AQ.callVv (av := [vi 0]) (st := []) (c_X9_emit_b Mh71 Zh71 (v := 0)) lk_RX9_200 (by omega) rfl rfl Mh71.ob ⟨_, rfl, rfl⟩ (Nat.le_of_ble_eq_true rfl) eX9_factor_183 (fun h80 e79 => ?_)
                  subst e79
                  refine q_blk (lv2 := [(0, vr n), (1, vi (gm_T bf tl (st i))), (2, vi (-1)), (3, vi z69)]) (st2 := [vi z69, vr n]) kX9_factor_186 rfl ?_
                  refine AQ.callVv (av := [vi z69]) (st := []) (c_X9_emit_b Mh71 Zh71 (v := z69)) lk_RX9_200 (by omega) rfl rfl Mh71.ob ⟨_, rfl, rfl⟩ (Nat.le_of_ble_eq_true rfl) eX9_factor_188 (fun h83 e82 => ?_)
                  subst e82
                  exact q_rv rfl eX9_factor_191 ⟨rfl, Or.inr ⟨_, _, _, _, _, _, by rw [rA_n hk40 (by omega) (fun c => hg.v0 hx hp.1.1 hp.1.2 c), rB_l Kh71], Zh71, Mh71⟩, Yh71'⟩
  · skip
    have hk40 : kd i = 40 := (hch.2.2.2.2.2 40 (by omega)).mpr (by omega)
    have HT := hg.sg hx hp.1.1 hp.1.2 (c := 40) (by omega) hk40
    refine q_blk (lv2 := [(0, vr n), (1, vi (gm_T bf tl (st i)))]) (st2 := [vr n]) kX9_factor_19 rfl ?_
    refine q_gi eX9_factor_20 fl_RX9_173 (Or.inl rfl) m0h5 (z := ne) rfl ?_
    refine q_blk (lv2 := [(0, vr n), (1, vi (gm_T bf tl (st i)))]) (st2 := [vi 4, vi ne]) kX9_factor_23 rfl ?_
    refine AQ.of (AS.ic_ne_t (tgt := 37) eX9_factor_24 (by decide) (by first | assumption | exact ⟨by omega, by omega⟩) ⟨by decide, by decide⟩ (by omega)) ?_
    refine q_blk (lv2 := [(0, vr n), (1, vi (gm_T bf tl (st i)))]) (st2 := [vr n, vr n]) kX9_factor_37 rfl ?_
    refine q_gi eX9_factor_39 fl_RX9_133 (Or.inl rfl) m0h5 (z := (st i)) rfl ?_
    refine q_blk (lv2 := [(0, vr n), (1, vi (gm_T bf tl (st i)))]) (st2 := [vi ((st i) + 1), vr n]) kX9_factor_42 rfl ?_
    refine q_pi eX9_factor_44 fl_RX9_133 (fun q hq => by cases hq; exact Or.inl rfl) (Or.inl rfl) m0h5 (Nat.le_of_ble_eq_true rfl) (l2 := [th, 0, bl, tl, ((st i) + 1), 0, ea, eo, 0, 0, 0, ud, g0, g1, g2, g3, ns, ne, se, 0]) rfl (fun h84 e85 => ?_)
    have k86 := am_at e85
    have k87 := (am_ne e85 (n + 2) (by omega)).trans m1h5
    refine q_blk (lv2 := [(0, vr n), (1, vi (gm_T bf tl (st i)))]) (st2 := [vr n, vr n]) kX9_factor_47 rfl ?_
    refine q_gi eX9_factor_49 fl_RX9_173 (Or.inl rfl) k86 (z := ne) rfl ?_
    refine q_blk (lv2 := [(0, vr n), (1, vi (gm_T bf tl (st i)))]) (st2 := [vi (ne + 1), vr n]) kX9_factor_52 rfl ?_
    refine q_pi eX9_factor_54 fl_RX9_173 (fun q hq => by cases hq; exact Or.inl rfl) (Or.inl rfl) k86 (Nat.le_of_ble_eq_true rfl) (l2 := [th, 0, bl, tl, ((st i) + 1), 0, ea, eo, 0, 0, 0, ud, g0, g1, g2, g3, ns, (ne + 1), se, 0]) rfl (fun h88 e89 => ?_)
    have k90 := am_at e89
    have k91 := (am_ne e89 (n + 2) (by omega)).trans k87
    have Mw92 : MM h88 n th bl tl ((st i) + 1) 0 ea eo ud g0 g1 g2 g3 ns (ne + 1) se E := ⟨k90, k91⟩
    have Vw92 : am_f2 _ h88 n := ((am_fr.st e85 (by omega) (by omega) : am_fr _ _ n (n + 1)).f2).tr ((am_fr.st e89 (by omega) (by omega) : am_fr _ _ n (n + 1)).f2)
    have Yh88' : am_f2 h h88 n := Vh5.tr Vw92
    have hbh88 : h88.1 (n + 1) = some (100, 800, bf, am_N) := (Yh88'.2 (n + 1) (by omega) (by omega)).trans hb
    obtain ⟨m0h88, m1h88⟩ := id Mw92
    have hp57 : TP tx st N (st i + 1) (i + 1) := ⟨⟨by omega, by omega⟩, by have := (hg.st hl.1 hp.1.1 hp.1.2).1; omega, HT.2.2⟩
    refine q_blk (lv2 := [(0, vr n), (1, vi (gm_T bf tl (st i)))]) (st2 := [vr n]) kX9_factor_57 rfl ?_
    refine AQ.callVv (av := []) (st := []) (ht Mw92 hbh88 hp57 hE (by omega)) lk_RX9_176 (by omega) rfl rfl Mw92.ob ⟨_, rfl, rfl⟩ (Nat.le_of_ble_eq_true rfl) eX9_factor_58 (fun h95 e94 => ?_)
    rcases e94 with ⟨⟨Lh95, ih95, pxh95, nh95, Eh95, Kh95, ⟨jah95, jbh95⟩, Nh95, Th95, Ch95, Bh95, Mh95⟩ | ⟨eh95, ah95, pxh95, nh95, neh95, Eh95, Kh95, Zh95, Mh95⟩, Vh95⟩
    · skip
      have Yh95' : am_f2 h h95 n := Yh88'.tr Vh95
      have hbh95 : h95.1 (n + 1) = some (100, 800, bf, am_N) := (Yh95'.2 (n + 1) (by omega) (by omega)).trans hb
      obtain ⟨m0h95, m1h95⟩ := id Mh95
      refine q_blk (lv2 := [(0, vr n), (1, vi (gm_T bf tl (st i)))]) (st2 := [vi 41, vr n]) kX9_factor_61 rfl ?_
      refine AQ.callVv (av := [vi 41]) (st := []) (c_X9_expect_g Mh95 hbh95 hl hx hg Th95 (c := 41) (by decide)) lk_RX9_179 (by omega) rfl rfl Mh95.ob ⟨_, rfl, rfl⟩ (Nat.le_of_ble_eq_true rfl) eX9_factor_64 (fun h98 e97 => ?_)
      rcases e97 with ⟨⟨Kh98, pxh98, Th98, Mh98⟩ | ⟨eh98, ah98, Kh98, Eh98, Mh98⟩, Vh98⟩
      · skip
        have Yh98' : am_f2 h h98 n := Yh95'.tr Vh98
        have hbh98 : h98.1 (n + 1) = some (100, 800, bf, am_N) := (Yh98'.2 (n + 1) (by omega) (by omega)).trans hb
        obtain ⟨m0h98, m1h98⟩ := id Mh98
        refine q_blk (lv2 := [(0, vr n), (1, vi (gm_T bf tl (st i)))]) (st2 := [vr n, vr n]) kX9_factor_67 rfl ?_
        refine q_gi eX9_factor_69 fl_RX9_173 (Or.inl rfl) m0h98 (z := (ne + 1)) rfl ?_
        refine q_blk (lv2 := [(0, vr n), (1, vi (gm_T bf tl (st i)))]) (st2 := [vi ((ne + 1) - 1), vr n]) kX9_factor_72 rfl ?_
        refine q_pi eX9_factor_74 fl_RX9_173 (fun q hq => by cases hq; exact Or.inl rfl) (Or.inl rfl) m0h98 (Nat.le_of_ble_eq_true rfl) (l2 := [th, 0, bl, tl, pxh98, 0, ea, eo, 0, 0, 0, ud, g0, g1, g2, g3, nh95, ((ne + 1) - 1), se, 0]) rfl (fun h99 e100 => ?_)
        have k101 := am_at e100
        have k102 := (am_ne e100 (n + 2) (by omega)).trans m1h98
        have Mw103 : MM h99 n th bl tl pxh98 0 ea eo ud g0 g1 g2 g3 nh95 ((ne + 1) - 1) se Eh95 := ⟨k101, k102⟩
        have Vw103 : am_f2 _ h99 n := (am_fr.st e100 (by omega) (by omega) : am_fr _ _ n (n + 1)).f2
        have Yh99' : am_f2 h h99 n := Yh98'.tr Vw103
        have hbh99 : h99.1 (n + 1) = some (100, 800, bf, am_N) := (Yh99'.2 (n + 1) (by omega) (by omega)).trans hb
        obtain ⟨m0h99, m1h99⟩ := id Mw103
        rw [show ne + 1 - 1 = ne by omega] at Mw103
        exact q_rv rfl eX9_factor_77 ⟨rfl, Or.inl ⟨Lh95, (ih95 + 1), _, _, _, by rw [rA_p hk40, rB_r Kh95, rB_r Kh98], ⟨by omega, Th98.1.2⟩, by omega, Th98, Ch95, Bh95, Mw103⟩, Yh99'⟩
      · skip
        have Yh98' : am_f2 h h98 n := Yh95'.tr Vh98
        have hbh98 : h98.1 (n + 1) = some (100, 800, bf, am_N) := (Yh98'.2 (n + 1) (by omega) (by omega)).trans hb
        obtain ⟨m0h98, m1h98⟩ := id Mh98
        have Zh98 : eh98 ≠ 0 ∧ am_r eh98 := by rw [Eh98]; exact ⟨by decide, by decide, by decide⟩
        refine q_blk (lv2 := [(0, vr n), (1, vi (gm_T bf tl (st i)))]) (st2 := [vr n, vr n]) kX9_factor_67 rfl ?_
        refine q_gi eX9_factor_69 fl_RX9_173 (Or.inl rfl) m0h98 (z := (ne + 1)) rfl ?_
        refine q_blk (lv2 := [(0, vr n), (1, vi (gm_T bf tl (st i)))]) (st2 := [vi ((ne + 1) - 1), vr n]) kX9_factor_72 rfl ?_
        refine q_pi eX9_factor_74 fl_RX9_173 (fun q hq => by cases hq; exact Or.inl rfl) (Or.inl rfl) m0h98 (Nat.le_of_ble_eq_true rfl) (l2 := [th, 0, bl, tl, (st ih95), eh98, ah98, eo, 0, 0, 0, ud, g0, g1, g2, g3, nh95, ((ne + 1) - 1), se, 0]) rfl (fun h104 e105 => ?_)
        have k106 := am_at e105
        have k107 := (am_ne e105 (n + 2) (by omega)).trans m1h98
        have Mw108 : MM h104 n th bl tl (st ih95) eh98 ah98 eo ud g0 g1 g2 g3 nh95 ((ne + 1) - 1) se Eh95 := ⟨k106, k107⟩
        have Vw108 : am_f2 _ h104 n := (am_fr.st e105 (by omega) (by omega) : am_fr _ _ n (n + 1)).f2
        have Yh104' : am_f2 h h104 n := Yh98'.tr Vw108
        have hbh104 : h104.1 (n + 1) = some (100, 800, bf, am_N) := (Yh104'.2 (n + 1) (by omega) (by omega)).trans hb
        obtain ⟨m0h104, m1h104⟩ := id Mw108
        exact q_rv rfl eX9_factor_77 ⟨rfl, Or.inr ⟨_, _, _, _, _, _, by rw [rA_p hk40, rB_r Kh95, rB_l Kh98], Zh98, Mw108⟩, Yh104'⟩
    · skip
      have Yh95' : am_f2 h h95 n := Yh88'.tr Vh95
      have hbh95 : h95.1 (n + 1) = some (100, 800, bf, am_N) := (Yh95'.2 (n + 1) (by omega) (by omega)).trans hb
      obtain ⟨m0h95, m1h95⟩ := id Mh95
      refine q_blk (lv2 := [(0, vr n), (1, vi (gm_T bf tl (st i)))]) (st2 := [vi 41, vr n]) kX9_factor_61 rfl ?_
      refine AQ.callVv (av := [vi 41]) (st := []) (c_X9_expect_b Mh95 Zh95 (c := 41)) lk_RX9_179 (by omega) rfl rfl Mh95.ob ⟨_, rfl, rfl⟩ (Nat.le_of_ble_eq_true rfl) eX9_factor_64 (fun h111 e110 => ?_)
      subst e110
      refine q_blk (lv2 := [(0, vr n), (1, vi (gm_T bf tl (st i)))]) (st2 := [vr n, vr n]) kX9_factor_67 rfl ?_
      refine q_gi eX9_factor_69 fl_RX9_173 (Or.inl rfl) m0h95 (z := neh95) rfl ?_
      refine q_blk (lv2 := [(0, vr n), (1, vi (gm_T bf tl (st i)))]) (st2 := [vi (neh95 - 1), vr n]) kX9_factor_72 rfl ?_
      refine q_pi eX9_factor_74 fl_RX9_173 (fun q hq => by cases hq; exact Or.inl rfl) (Or.inl rfl) m0h95 (Nat.le_of_ble_eq_true rfl) (l2 := [th, 0, bl, tl, pxh95, eh95, ah95, eo, 0, 0, 0, ud, g0, g1, g2, g3, nh95, (neh95 - 1), se, 0]) rfl (fun h112 e113 => ?_)
      have k114 := am_at e113
      have k115 := (am_ne e113 (n + 2) (by omega)).trans m1h95
      have Mw116 : MM h112 n th bl tl pxh95 eh95 ah95 eo ud g0 g1 g2 g3 nh95 (neh95 - 1) se Eh95 := ⟨k114, k115⟩
      have Vw116 : am_f2 _ h112 n := (am_fr.st e113 (by omega) (by omega) : am_fr _ _ n (n + 1)).f2
      have Yh112' : am_f2 h h112 n := Yh95'.tr Vw116
      have hbh112 : h112.1 (n + 1) = some (100, 800, bf, am_N) := (Yh112'.2 (n + 1) (by omega) (by omega)).trans hb
      obtain ⟨m0h112, m1h112⟩ := id Mw116
      exact q_rv rfl eX9_factor_77 ⟨rfl, Or.inr ⟨_, _, _, _, _, _, by rw [rA_p hk40, rB_l Kh95], Zh95, Mw116⟩, Yh112'⟩

theorem rJ_a {kd : Int → Int} {f : GL → Int → GRL} {a b oa ob : Int} {n : Nat} {L : GL} {i : Int} (h1 : 1 ≤ n) (h : kd i = a) : rJ kd f a b oa ob n L i = rB (f L (i + 1)) (fun r => rJ kd f a b oa ob (n - 1) (r.1 ++ [(oa, 0)]) r.2) := by
  obtain ⟨m, rfl⟩ : ∃ m, n = m + 1 := ⟨n - 1, by omega⟩
  exact if_pos h
theorem rJ_b {kd : Int → Int} {f : GL → Int → GRL} {a b oa ob : Int} {n : Nat} {L : GL} {i : Int} (h1 : 1 ≤ n) (h : kd i ≠ a) (h' : kd i = b) : rJ kd f a b oa ob n L i = rB (f L (i + 1)) (fun r => rJ kd f a b oa ob (n - 1) (r.1 ++ [(ob, 0)]) r.2) := by
  obtain ⟨m, rfl⟩ : ∃ m, n = m + 1 := ⟨n - 1, by omega⟩
  exact (if_neg h).trans (if_pos h')
theorem rJ_n {kd : Int → Int} {f : GL → Int → GRL} {a b oa ob : Int} {n : Nat} {L : GL} {i : Int} (h : kd i ≠ a) (h' : kd i ≠ b) : rJ kd f a b oa ob n L i = .inr (L, i) := by
  cases n with
  | zero => rfl
  | succ m => exact (if_neg h).trans (if_neg h')
set_option maxHeartbeats 8000000 in
theorem c_X9_term {w : am_w} {bf tx kd st vl : Int → Int} {tl N : Int} (hl : 0 ≤ tl ∧ tl ≤ 800) (hx : BX bf tx tl) (hg : TG tx kd st vl tl N) (hN : N ≤ 800) {d : Nat} (hd : 5 ≤ d) {f : GL → Int → GRL} {ne : Int} (hf : PAC w m_X9_factor d f ne bf tx kd st vl tl N)  : PAC w m_X9_term (d + 1) ((fun L i => rB (f L i) fun r => rJ kd f 42 47 4 5 800 r.1 r.2)) ne bf tx kd st vl tl N := by
  intro h n th bl ps ea eo ud g0 g1 g2 g3 ns se E L i hm hb hp hE hL
  refine AE.of wf_X9_term (Nat.le_of_ble_eq_true rfl) am_ok_v ?_
  obtain ⟨m0, m1⟩ := id hm
  obtain ⟨hi0, hi1⟩ := id hp.1
  have hch := hg.ch hx hp.1.1 hp.1.2
  have hk5 := hg.k5 hp.1.1 hp.1.2
  have hE5 := hE.1
  refine q_blk (lv2 := [(0, vr n)]) (st2 := [vr n]) kX9_term_0 rfl ?_
  refine AQ.callVv (av := []) (st := []) (hf hm hb hp hE (by omega)) lk_RX9_203 (by omega) rfl rfl hm.ob ⟨_, rfl, rfl⟩ (Nat.le_of_ble_eq_true rfl) eX9_term_1 (fun h3 e2 => ?_)
  rcases e2 with ⟨⟨Lh3, ih3, pxh3, nh3, Eh3, Kh3, ⟨jah3, jbh3⟩, Nh3, Th3, Ch3, Bh3, Mh3⟩ | ⟨eh3, ah3, pxh3, nh3, neh3, Eh3, Kh3, Zh3, Mh3⟩, Vh3⟩
  · skip
    have Yh3' : am_f2 h h3 n := Vh3
    have hbh3 : h3.1 (n + 1) = some (100, 800, bf, am_N) := (Yh3'.2 (n + 1) (by omega) (by omega)).trans hb
    obtain ⟨m0h3, m1h3⟩ := id Mh3
    refine am_lp7 (I := fun  (hh : AH) (px9 : Int) (ns9 : Int) (E9 : Int → Int) (L9 : GL) (i9 : Int) (f9 : Nat) => (rB (f L i) fun r => rJ kd f 42 47 4 5 800 r.1 r.2) = rJ kd f 42 47 4 5 f9 L9 i9 ∧ (i < i9 ∧ i9 ≤ N) ∧ N - i9 ≤ (f9 : Int) ∧ 2 * ((gm_ed L9).length : Int) ≤ 2 * ((gm_ed L).length : Int) + 3 * (i9 - i) + 1 ∧ TP tx st N px9 i9 ∧ CE E9 (gm_ed L9) ∧ gm_bd E E9 ∧ MM hh n th bl tl px9 0 ea eo ud g0 g1 g2 g3 ns9 ne se E9 ∧ am_f2 h hh n) (μ := fun  (hh : AH) (px9 : Int) (ns9 : Int) (E9 : Int → Int) (L9 : GL) (i9 : Int) (f9 : Nat) => (N - i9).toNat) (G := fun  (hh : AH) (px9 : Int) (ns9 : Int) (E9 : Int → Int) (L9 : GL) (i9 : Int) (f9 : Nat) => AQ w m_X9_term (d + 1) 4 [(0, vr n)] [] hh (am_unit (PAQ bf tx kd st vl tl N ((fun L i => rB (f L i) fun r => rJ kd f 42 47 4 5 800 r.1 r.2) L i) h n th bl ps ea eo ud g0 g1 g2 g3 ns ne se E L i))) ?_ h3 pxh3 nh3 Eh3 Lh3 ih3 800 (⟨by rw [rB_r Kh3], ⟨by omega, by omega⟩, by omega, by omega, Th3, Ch3, Bh3, Mh3, Yh3'⟩)
    intro hh px9 ns9 E9 L9 i9 f9 hI5 ih4
    obtain ⟨hR9, ⟨i90, i91⟩, hf99, hln9, hT9, hC9, hB9, hm9, hf9⟩ := hI5
    obtain ⟨m0', m1'⟩ := id hm9
    have hb9 := (hf9.2 (n + 1) (by omega) (by omega)).trans hb
    have hch9 := hg.ch hx hT9.1.1 hT9.1.2
    have hE59 := hC9.1
    refine q_blk (lv2 := [(0, vr n)]) (st2 := [vr n]) kX9_term_4 rfl ?_
    refine q_Vi (av := []) (st := []) (c_X9_isGood_g hm9) lk_RX9_145 (by omega) rfl rfl hm9.ob ⟨_, rfl, rfl⟩ (Nat.le_of_ble_eq_true rfl) eX9_term_5 (fun z6 e7 => ?_)
    subst e7
    refine AQ.of (AS.if_eq_f eX9_term_8 ⟨by decide, by decide⟩ (by decide) (by decide)) ?_
    refine q_blk (lv2 := [(0, vr n)]) (st2 := [vr n]) kX9_term_11 rfl ?_
    refine AQ.callVi (av := []) (st := []) (c_X9_next hm9 hb9 hl hx hg hT9) lk_RX9_149 (by omega) rfl rfl hm9.ob ⟨_, rfl, rfl⟩ (Nat.le_of_ble_eq_true rfl) eX9_term_12 (fun z8 h10 e9 => ?_)
    obtain ⟨rfl, Mh10, Fh10⟩ := e9
    have Vh10 : am_f2 h h10 n := hf9.tr (Fh10.f2)
    have hbh10 : h10.1 (n + 1) = some (100, 800, bf, am_N) := (Vh10.2 (n + 1) (by omega) (by omega)).trans hb
    obtain ⟨m0h10, m1h10⟩ := id Mh10
    have Ph10 := hT9.at hg hl.1
    refine q_blk (lv2 := [(0, vr n)]) (st2 := [vi 42, vi (gm_T bf tl (st i9))]) kX9_term_15 rfl ?_
    refine AQ.ic_eq (tgt := 29) eX9_term_17 (by decide) (by first | assumption | exact ⟨by omega, by omega⟩) ⟨by decide, by decide⟩ (fun br11 => ?_) (fun br11 => ?_)
    · skip
      refine q_blk (lv2 := [(0, vr n)]) (st2 := [vr n]) kX9_term_29 rfl ?_
      refine AQ.callVi (av := []) (st := []) (c_X9_next Mh10 hbh10 hl hx hg Ph10) lk_RX9_149 (by omega) rfl rfl Mh10.ob ⟨_, rfl, rfl⟩ (Nat.le_of_ble_eq_true rfl) eX9_term_30 (fun z12 h14 e13 => ?_)
      obtain ⟨rfl, Mh14, Fh14⟩ := e13
      have Vh14 : am_f2 h h14 n := Vh10.tr (Fh14.f2)
      have hbh14 : h14.1 (n + 1) = some (100, 800, bf, am_N) := (Vh14.2 (n + 1) (by omega) (by omega)).trans hb
      obtain ⟨m0h14, m1h14⟩ := id Mh14
      have Ph14 := Ph10.at hg hl.1
      refine q_blk (lv2 := [(0, vr n)]) (st2 := [vi 42, vi (gm_T bf tl (st i9))]) kX9_term_33 rfl ?_
      refine AQ.ic_ne (tgt := 42) eX9_term_35 (by decide) (by first | assumption | exact ⟨by omega, by omega⟩) ⟨by decide, by decide⟩ (fun br15 => ?_) (fun br15 => ?_)
      · skip
        refine q_blk (lv2 := [(0, vr n)]) (st2 := [vi 0]) kX9_term_42 rfl ?_
        refine q_blk (lv2 := [(0, vr n), (1, vi 0)]) (st2 := [vr n, vr n]) kX9_term_43 rfl ?_
        have hk8 : kd i9 ≠ 42 := fun c => by have := (hch9.2.2.2.2.2 42 (by omega)).mp c; omega
        have hk9 : kd i9 = 47 := (hch9.2.2.2.2.2 47 (by omega)).mpr (by omega)
        have HT := hg.sg hx hT9.1.1 hT9.1.2 (c := 47) (by omega) hk9
        have st9 := hg.st hl.1 hT9.1.1 hT9.1.2
        refine q_gi eX9_term_46 fl_RX9_133 (Or.inl rfl) m0h14 (z := (st i9)) rfl ?_
        refine q_blk (lv2 := [(0, vr n), (1, vi 0)]) (st2 := [vi ((st i9) + 1), vr n]) kX9_term_49 rfl ?_
        refine q_pi eX9_term_51 fl_RX9_133 (fun q hq => by cases hq; exact Or.inl rfl) (Or.inl rfl) m0h14 (Nat.le_of_ble_eq_true rfl) (l2 := [th, 0, bl, tl, ((st i9) + 1), 0, ea, eo, 0, 0, 0, ud, g0, g1, g2, g3, ns9, ne, se, 0]) rfl (fun h16 e17 => ?_)
        have k18 := am_at e17
        have k19 := (am_ne e17 (n + 2) (by omega)).trans m1h14
        have Mw20 : MM h16 n th bl tl ((st i9) + 1) 0 ea eo ud g0 g1 g2 g3 ns9 ne se E9 := ⟨k18, k19⟩
        have Vw20 : am_f2 _ h16 n := (am_fr.st e17 (by omega) (by omega) : am_fr _ _ n (n + 1)).f2
        have Yh16' : am_f2 h h16 n := Vh14.tr Vw20
        have hbh16 : h16.1 (n + 1) = some (100, 800, bf, am_N) := (Yh16'.2 (n + 1) (by omega) (by omega)).trans hb
        obtain ⟨m0h16, m1h16⟩ := id Mw20
        have hp54 : TP tx st N (st i9 + 1) (i9 + 1) := ⟨⟨by omega, by omega⟩, by omega, HT.2.2⟩
        refine q_blk (lv2 := [(0, vr n), (1, vi 0)]) (st2 := [vr n]) kX9_term_54 rfl ?_
        refine AQ.callVv (av := []) (st := []) (hf Mw20 hbh16 hp54 hC9 (by omega)) lk_RX9_203 (by omega) rfl rfl Mw20.ob ⟨_, rfl, rfl⟩ (Nat.le_of_ble_eq_true rfl) eX9_term_55 (fun h23 e22 => ?_)
        rcases e22 with ⟨⟨Lh23, ih23, pxh23, nh23, Eh23, Kh23, ⟨jah23, jbh23⟩, Nh23, Th23, Ch23, Bh23, Mh23⟩ | ⟨eh23, ah23, pxh23, nh23, neh23, Eh23, Kh23, Zh23, Mh23⟩, Vh23⟩
        · skip
          have Yh23' : am_f2 h h23 n := Yh16'.tr Vh23
          have hbh23 : h23.1 (n + 1) = some (100, 800, bf, am_N) := (Yh23'.2 (n + 1) (by omega) (by omega)).trans hb
          obtain ⟨m0h23, m1h23⟩ := id Mh23
          refine q_blk (lv2 := [(0, vr n), (1, vi 0)]) (st2 := [vi 0, vr n]) kX9_term_58 rfl ?_
          refine AQ.of (AS.if_eq_t (tgt := 67) eX9_term_60 (by decide) ⟨by decide, by decide⟩ (by decide)) ?_
          refine q_blk (lv2 := [(0, vr n), (1, vi 0)]) (st2 := [vi 5, vr n]) kX9_term_67 rfl ?_
          have w68 := Ch23.1
          have w69 : 0 ≤ Eh23 5 ∧ Eh23 5 < 1300 := by omega
          refine AQ.callVv (av := [vi 5]) (st := []) (c_X9_emit_g Mh23 w69 (v := 5)) lk_RX9_200 (by omega) rfl rfl Mh23.ob ⟨_, rfl, rfl⟩ (Nat.le_of_ble_eq_true rfl) eX9_term_68 (fun h26 e25 => ?_)
          obtain ⟨Mh26, Vh26⟩ := e25
          have Yh26' : am_f2 h h26 n := Yh23'.tr Vh26
          have hbh26 : h26.1 (n + 1) = some (100, 800, bf, am_N) := (Yh26'.2 (n + 1) (by omega) (by omega)).trans hb
          obtain ⟨m0h26, m1h26⟩ := id Mh26
          refine q_goto (tgt := 4) eX9_term_71 (by decide) ?_
          refine q_sub (lv2 := [(0, vr n)]) [0] rfl ?_
          exact ih4 h26 pxh23 nh23 (gm_em Eh23 5) (Lh23 ++ [(5, 0)]) ih23 (f9 - 1) (⟨by rw [hR9, rJ_b (by omega) hk8 hk9, rB_r Kh23], ⟨by omega, by have := Th23.1.2; omega⟩, by omega, by rw [gm_ed_l1 _ _ (show ¬ (5 : Int) ≤ 1 by decide)]; omega, Th23, Ch23.e1 (5, 0) (show ¬ (5 : Int) ≤ 1 by decide) rfl, hB9.tr (Bh23.tr (Ch23.em _).2), Mh26, Yh26'⟩) (by omega)
        · skip
          have Yh23' : am_f2 h h23 n := Yh16'.tr Vh23
          have hbh23 : h23.1 (n + 1) = some (100, 800, bf, am_N) := (Yh23'.2 (n + 1) (by omega) (by omega)).trans hb
          obtain ⟨m0h23, m1h23⟩ := id Mh23
          refine q_blk (lv2 := [(0, vr n), (1, vi 0)]) (st2 := [vi 0, vr n]) kX9_term_58 rfl ?_
          refine AQ.of (AS.if_eq_t (tgt := 67) eX9_term_60 (by decide) ⟨by decide, by decide⟩ (by decide)) ?_
          refine q_blk (lv2 := [(0, vr n), (1, vi 0)]) (st2 := [vi 5, vr n]) kX9_term_67 rfl ?_
          refine AQ.callVv (av := [vi 5]) (st := []) (c_X9_emit_b Mh23 Zh23 (v := 5)) lk_RX9_200 (by omega) rfl rfl Mh23.ob ⟨_, rfl, rfl⟩ (Nat.le_of_ble_eq_true rfl) eX9_term_68 (fun h29 e28 => ?_)
          subst e28
          refine q_goto (tgt := 4) eX9_term_71 (by decide) ?_
          refine q_blk (lv2 := [(0, vr n), (1, vi 0)]) (st2 := [vr n]) kX9_term_4 rfl ?_
          refine q_Vi (av := []) (st := []) (c_X9_isGood_b Mh23 Zh23) lk_RX9_145 (by omega) rfl rfl Mh23.ob ⟨_, rfl, rfl⟩ (Nat.le_of_ble_eq_true rfl) eX9_term_5 (fun z30 e31 => ?_)
          subst e31
          refine AQ.of (AS.if_eq_t (tgt := 74) eX9_term_8 (by decide) ⟨by decide, by decide⟩ (by decide)) ?_
          exact q_rv rfl eX9_term_74 ⟨rfl, Or.inr ⟨_, _, _, _, _, _, by show (rB (f L i) fun r => rJ kd f 42 47 4 5 800 r.1 r.2) = _; rw [hR9, rJ_b (by omega) hk8 hk9, rB_l Kh23], Zh23, Mh23⟩, Yh23'⟩
      · skip
        refine q_blk (lv2 := [(0, vr n)]) (st2 := [vi 1]) kX9_term_38 rfl ?_
        refine q_goto (tgt := 43) eX9_term_39 (by decide) ?_
        refine q_blk (lv2 := [(0, vr n), (1, vi 1)]) (st2 := [vr n, vr n]) kX9_term_43 rfl ?_
        have hk9 : kd i9 = 42 := (hch9.2.2.2.2.2 42 (by omega)).mpr (by omega)
        have HT := hg.sg hx hT9.1.1 hT9.1.2 (c := 42) (by omega) hk9
        have st9 := hg.st hl.1 hT9.1.1 hT9.1.2
        refine q_gi eX9_term_46 fl_RX9_133 (Or.inl rfl) m0h14 (z := (st i9)) rfl ?_
        refine q_blk (lv2 := [(0, vr n), (1, vi 1)]) (st2 := [vi ((st i9) + 1), vr n]) kX9_term_49 rfl ?_
        refine q_pi eX9_term_51 fl_RX9_133 (fun q hq => by cases hq; exact Or.inl rfl) (Or.inl rfl) m0h14 (Nat.le_of_ble_eq_true rfl) (l2 := [th, 0, bl, tl, ((st i9) + 1), 0, ea, eo, 0, 0, 0, ud, g0, g1, g2, g3, ns9, ne, se, 0]) rfl (fun h32 e33 => ?_)
        have k34 := am_at e33
        have k35 := (am_ne e33 (n + 2) (by omega)).trans m1h14
        have Mw36 : MM h32 n th bl tl ((st i9) + 1) 0 ea eo ud g0 g1 g2 g3 ns9 ne se E9 := ⟨k34, k35⟩
        have Vw36 : am_f2 _ h32 n := (am_fr.st e33 (by omega) (by omega) : am_fr _ _ n (n + 1)).f2
        have Yh32' : am_f2 h h32 n := Vh14.tr Vw36
        have hbh32 : h32.1 (n + 1) = some (100, 800, bf, am_N) := (Yh32'.2 (n + 1) (by omega) (by omega)).trans hb
        obtain ⟨m0h32, m1h32⟩ := id Mw36
        have hp54 : TP tx st N (st i9 + 1) (i9 + 1) := ⟨⟨by omega, by omega⟩, by omega, HT.2.2⟩
        refine q_blk (lv2 := [(0, vr n), (1, vi 1)]) (st2 := [vr n]) kX9_term_54 rfl ?_
        refine AQ.callVv (av := []) (st := []) (hf Mw36 hbh32 hp54 hC9 (by omega)) lk_RX9_203 (by omega) rfl rfl Mw36.ob ⟨_, rfl, rfl⟩ (Nat.le_of_ble_eq_true rfl) eX9_term_55 (fun h39 e38 => ?_)
        rcases e38 with ⟨⟨Lh39, ih39, pxh39, nh39, Eh39, Kh39, ⟨jah39, jbh39⟩, Nh39, Th39, Ch39, Bh39, Mh39⟩ | ⟨eh39, ah39, pxh39, nh39, neh39, Eh39, Kh39, Zh39, Mh39⟩, Vh39⟩
        · skip
          have Yh39' : am_f2 h h39 n := Yh32'.tr Vh39
          have hbh39 : h39.1 (n + 1) = some (100, 800, bf, am_N) := (Yh39'.2 (n + 1) (by omega) (by omega)).trans hb
          obtain ⟨m0h39, m1h39⟩ := id Mh39
          refine q_blk (lv2 := [(0, vr n), (1, vi 1)]) (st2 := [vi 1, vr n]) kX9_term_58 rfl ?_
          refine AQ.of (AS.if_eq_f eX9_term_60 ⟨by decide, by decide⟩ (by decide) (by decide)) ?_
          refine q_blk (lv2 := [(0, vr n), (1, vi 1)]) (st2 := [vi 4, vr n]) kX9_term_63 rfl ?_
          refine q_goto (tgt := 68) eX9_term_64 (by decide) ?_
          have w68 := Ch39.1
          have w69 : 0 ≤ Eh39 5 ∧ Eh39 5 < 1300 := by omega
          refine AQ.callVv (av := [vi 4]) (st := []) (c_X9_emit_g Mh39 w69 (v := 4)) lk_RX9_200 (by omega) rfl rfl Mh39.ob ⟨_, rfl, rfl⟩ (Nat.le_of_ble_eq_true rfl) eX9_term_68 (fun h42 e41 => ?_)
          obtain ⟨Mh42, Vh42⟩ := e41
          have Yh42' : am_f2 h h42 n := Yh39'.tr Vh42
          have hbh42 : h42.1 (n + 1) = some (100, 800, bf, am_N) := (Yh42'.2 (n + 1) (by omega) (by omega)).trans hb
          obtain ⟨m0h42, m1h42⟩ := id Mh42
          refine q_goto (tgt := 4) eX9_term_71 (by decide) ?_
          refine q_sub (lv2 := [(0, vr n)]) [0] rfl ?_
          exact ih4 h42 pxh39 nh39 (gm_em Eh39 4) (Lh39 ++ [(4, 0)]) ih39 (f9 - 1) (⟨by rw [hR9, rJ_a (by omega) hk9, rB_r Kh39], ⟨by omega, by have := Th39.1.2; omega⟩, by omega, by rw [gm_ed_l1 _ _ (show ¬ (4 : Int) ≤ 1 by decide)]; omega, Th39, Ch39.e1 (4, 0) (show ¬ (4 : Int) ≤ 1 by decide) rfl, hB9.tr (Bh39.tr (Ch39.em _).2), Mh42, Yh42'⟩) (by omega)
        · skip
          have Yh39' : am_f2 h h39 n := Yh32'.tr Vh39
          have hbh39 : h39.1 (n + 1) = some (100, 800, bf, am_N) := (Yh39'.2 (n + 1) (by omega) (by omega)).trans hb
          obtain ⟨m0h39, m1h39⟩ := id Mh39
          refine q_blk (lv2 := [(0, vr n), (1, vi 1)]) (st2 := [vi 1, vr n]) kX9_term_58 rfl ?_
          refine AQ.of (AS.if_eq_f eX9_term_60 ⟨by decide, by decide⟩ (by decide) (by decide)) ?_
          refine q_blk (lv2 := [(0, vr n), (1, vi 1)]) (st2 := [vi 4, vr n]) kX9_term_63 rfl ?_
          refine q_goto (tgt := 68) eX9_term_64 (by decide) ?_
          refine AQ.callVv (av := [vi 4]) (st := []) (c_X9_emit_b Mh39 Zh39 (v := 4)) lk_RX9_200 (by omega) rfl rfl Mh39.ob ⟨_, rfl, rfl⟩ (Nat.le_of_ble_eq_true rfl) eX9_term_68 (fun h45 e44 => ?_)
          subst e44
          refine q_goto (tgt := 4) eX9_term_71 (by decide) ?_
          refine q_blk (lv2 := [(0, vr n), (1, vi 1)]) (st2 := [vr n]) kX9_term_4 rfl ?_
          refine q_Vi (av := []) (st := []) (c_X9_isGood_b Mh39 Zh39) lk_RX9_145 (by omega) rfl rfl Mh39.ob ⟨_, rfl, rfl⟩ (Nat.le_of_ble_eq_true rfl) eX9_term_5 (fun z46 e47 => ?_)
          subst e47
          refine AQ.of (AS.if_eq_t (tgt := 74) eX9_term_8 (by decide) ⟨by decide, by decide⟩ (by decide)) ?_
          exact q_rv rfl eX9_term_74 ⟨rfl, Or.inr ⟨_, _, _, _, _, _, by show (rB (f L i) fun r => rJ kd f 42 47 4 5 800 r.1 r.2) = _; rw [hR9, rJ_a (by omega) hk9, rB_l Kh39], Zh39, Mh39⟩, Yh39'⟩
    · skip
      refine q_blk (lv2 := [(0, vr n)]) (st2 := [vr n]) kX9_term_20 rfl ?_
      refine AQ.callVi (av := []) (st := []) (c_X9_next Mh10 hbh10 hl hx hg Ph10) lk_RX9_149 (by omega) rfl rfl Mh10.ob ⟨_, rfl, rfl⟩ (Nat.le_of_ble_eq_true rfl) eX9_term_21 (fun z48 h50 e49 => ?_)
      obtain ⟨rfl, Mh50, Fh50⟩ := e49
      have Vh50 : am_f2 h h50 n := Vh10.tr (Fh50.f2)
      have hbh50 : h50.1 (n + 1) = some (100, 800, bf, am_N) := (Vh50.2 (n + 1) (by omega) (by omega)).trans hb
      obtain ⟨m0h50, m1h50⟩ := id Mh50
      have Ph50 := Ph10.at hg hl.1
      refine q_blk (lv2 := [(0, vr n)]) (st2 := [vi 47, vi (gm_T bf tl (st i9))]) kX9_term_24 rfl ?_
      refine AQ.ic_ne (tgt := 74) eX9_term_26 (by decide) (by first | assumption | exact ⟨by omega, by omega⟩) ⟨by decide, by decide⟩ (fun br51 => ?_) (fun br51 => ?_)
      · skip
        exact q_rv rfl eX9_term_74 ⟨rfl, Or.inl ⟨L9, i9, _, _, _, by show (rB (f L i) fun r => rJ kd f 42 47 4 5 800 r.1 r.2) = _; rw [hR9]; exact rJ_n (fun c => by have := (hch9.2.2.2.2.2 42 (by omega)).mp c; omega) (fun c => by have := (hch9.2.2.2.2.2 47 (by omega)).mp c; omega), ⟨by omega, by omega⟩, by omega, Ph50, hC9, hB9, Mh50⟩, Vh50⟩
      · skip
        refine q_blk (lv2 := [(0, vr n)]) (st2 := [vr n]) kX9_term_29 rfl ?_
        refine AQ.callVi (av := []) (st := []) (c_X9_next Mh50 hbh50 hl hx hg Ph50) lk_RX9_149 (by omega) rfl rfl Mh50.ob ⟨_, rfl, rfl⟩ (Nat.le_of_ble_eq_true rfl) eX9_term_30 (fun z52 h54 e53 => ?_)
        obtain ⟨rfl, Mh54, Fh54⟩ := e53
        have Vh54 : am_f2 h h54 n := Vh50.tr (Fh54.f2)
        have hbh54 : h54.1 (n + 1) = some (100, 800, bf, am_N) := (Vh54.2 (n + 1) (by omega) (by omega)).trans hb
        obtain ⟨m0h54, m1h54⟩ := id Mh54
        have Ph54 := Ph50.at hg hl.1
        refine q_blk (lv2 := [(0, vr n)]) (st2 := [vi 42, vi (gm_T bf tl (st i9))]) kX9_term_33 rfl ?_
        refine AQ.ic_ne (tgt := 42) eX9_term_35 (by decide) (by first | assumption | exact ⟨by omega, by omega⟩) ⟨by decide, by decide⟩ (fun br55 => ?_) (fun br55 => ?_)
        · skip
          refine q_blk (lv2 := [(0, vr n)]) (st2 := [vi 0]) kX9_term_42 rfl ?_
          refine q_blk (lv2 := [(0, vr n), (1, vi 0)]) (st2 := [vr n, vr n]) kX9_term_43 rfl ?_
          have hk8 : kd i9 ≠ 42 := fun c => by have := (hch9.2.2.2.2.2 42 (by omega)).mp c; omega
          have hk9 : kd i9 = 47 := (hch9.2.2.2.2.2 47 (by omega)).mpr (by omega)
          have HT := hg.sg hx hT9.1.1 hT9.1.2 (c := 47) (by omega) hk9
          have st9 := hg.st hl.1 hT9.1.1 hT9.1.2
          refine q_gi eX9_term_46 fl_RX9_133 (Or.inl rfl) m0h54 (z := (st i9)) rfl ?_
          refine q_blk (lv2 := [(0, vr n), (1, vi 0)]) (st2 := [vi ((st i9) + 1), vr n]) kX9_term_49 rfl ?_
          refine q_pi eX9_term_51 fl_RX9_133 (fun q hq => by cases hq; exact Or.inl rfl) (Or.inl rfl) m0h54 (Nat.le_of_ble_eq_true rfl) (l2 := [th, 0, bl, tl, ((st i9) + 1), 0, ea, eo, 0, 0, 0, ud, g0, g1, g2, g3, ns9, ne, se, 0]) rfl (fun h56 e57 => ?_)
          have k58 := am_at e57
          have k59 := (am_ne e57 (n + 2) (by omega)).trans m1h54
          have Mw60 : MM h56 n th bl tl ((st i9) + 1) 0 ea eo ud g0 g1 g2 g3 ns9 ne se E9 := ⟨k58, k59⟩
          have Vw60 : am_f2 _ h56 n := (am_fr.st e57 (by omega) (by omega) : am_fr _ _ n (n + 1)).f2
          have Yh56' : am_f2 h h56 n := Vh54.tr Vw60
          have hbh56 : h56.1 (n + 1) = some (100, 800, bf, am_N) := (Yh56'.2 (n + 1) (by omega) (by omega)).trans hb
          obtain ⟨m0h56, m1h56⟩ := id Mw60
          have hp54 : TP tx st N (st i9 + 1) (i9 + 1) := ⟨⟨by omega, by omega⟩, by omega, HT.2.2⟩
          refine q_blk (lv2 := [(0, vr n), (1, vi 0)]) (st2 := [vr n]) kX9_term_54 rfl ?_
          refine AQ.callVv (av := []) (st := []) (hf Mw60 hbh56 hp54 hC9 (by omega)) lk_RX9_203 (by omega) rfl rfl Mw60.ob ⟨_, rfl, rfl⟩ (Nat.le_of_ble_eq_true rfl) eX9_term_55 (fun h63 e62 => ?_)
          rcases e62 with ⟨⟨Lh63, ih63, pxh63, nh63, Eh63, Kh63, ⟨jah63, jbh63⟩, Nh63, Th63, Ch63, Bh63, Mh63⟩ | ⟨eh63, ah63, pxh63, nh63, neh63, Eh63, Kh63, Zh63, Mh63⟩, Vh63⟩
          · skip
            have Yh63' : am_f2 h h63 n := Yh56'.tr Vh63
            have hbh63 : h63.1 (n + 1) = some (100, 800, bf, am_N) := (Yh63'.2 (n + 1) (by omega) (by omega)).trans hb
            obtain ⟨m0h63, m1h63⟩ := id Mh63
            refine q_blk (lv2 := [(0, vr n), (1, vi 0)]) (st2 := [vi 0, vr n]) kX9_term_58 rfl ?_
            refine AQ.of (AS.if_eq_t (tgt := 67) eX9_term_60 (by decide) ⟨by decide, by decide⟩ (by decide)) ?_
            refine q_blk (lv2 := [(0, vr n), (1, vi 0)]) (st2 := [vi 5, vr n]) kX9_term_67 rfl ?_
            have w68 := Ch63.1
            have w69 : 0 ≤ Eh63 5 ∧ Eh63 5 < 1300 := by omega
            refine AQ.callVv (av := [vi 5]) (st := []) (c_X9_emit_g Mh63 w69 (v := 5)) lk_RX9_200 (by omega) rfl rfl Mh63.ob ⟨_, rfl, rfl⟩ (Nat.le_of_ble_eq_true rfl) eX9_term_68 (fun h66 e65 => ?_)
            obtain ⟨Mh66, Vh66⟩ := e65
            have Yh66' : am_f2 h h66 n := Yh63'.tr Vh66
            have hbh66 : h66.1 (n + 1) = some (100, 800, bf, am_N) := (Yh66'.2 (n + 1) (by omega) (by omega)).trans hb
            obtain ⟨m0h66, m1h66⟩ := id Mh66
            refine q_goto (tgt := 4) eX9_term_71 (by decide) ?_
            refine q_sub (lv2 := [(0, vr n)]) [0] rfl ?_
            exact ih4 h66 pxh63 nh63 (gm_em Eh63 5) (Lh63 ++ [(5, 0)]) ih63 (f9 - 1) (⟨by rw [hR9, rJ_b (by omega) hk8 hk9, rB_r Kh63], ⟨by omega, by have := Th63.1.2; omega⟩, by omega, by rw [gm_ed_l1 _ _ (show ¬ (5 : Int) ≤ 1 by decide)]; omega, Th63, Ch63.e1 (5, 0) (show ¬ (5 : Int) ≤ 1 by decide) rfl, hB9.tr (Bh63.tr (Ch63.em _).2), Mh66, Yh66'⟩) (by omega)
          · skip
            have Yh63' : am_f2 h h63 n := Yh56'.tr Vh63
            have hbh63 : h63.1 (n + 1) = some (100, 800, bf, am_N) := (Yh63'.2 (n + 1) (by omega) (by omega)).trans hb
            obtain ⟨m0h63, m1h63⟩ := id Mh63
            refine q_blk (lv2 := [(0, vr n), (1, vi 0)]) (st2 := [vi 0, vr n]) kX9_term_58 rfl ?_
            refine AQ.of (AS.if_eq_t (tgt := 67) eX9_term_60 (by decide) ⟨by decide, by decide⟩ (by decide)) ?_
            refine q_blk (lv2 := [(0, vr n), (1, vi 0)]) (st2 := [vi 5, vr n]) kX9_term_67 rfl ?_
            refine AQ.callVv (av := [vi 5]) (st := []) (c_X9_emit_b Mh63 Zh63 (v := 5)) lk_RX9_200 (by omega) rfl rfl Mh63.ob ⟨_, rfl, rfl⟩ (Nat.le_of_ble_eq_true rfl) eX9_term_68 (fun h69 e68 => ?_)
            subst e68
            refine q_goto (tgt := 4) eX9_term_71 (by decide) ?_
            refine q_blk (lv2 := [(0, vr n), (1, vi 0)]) (st2 := [vr n]) kX9_term_4 rfl ?_
            refine q_Vi (av := []) (st := []) (c_X9_isGood_b Mh63 Zh63) lk_RX9_145 (by omega) rfl rfl Mh63.ob ⟨_, rfl, rfl⟩ (Nat.le_of_ble_eq_true rfl) eX9_term_5 (fun z70 e71 => ?_)
            subst e71
            refine AQ.of (AS.if_eq_t (tgt := 74) eX9_term_8 (by decide) ⟨by decide, by decide⟩ (by decide)) ?_
            exact q_rv rfl eX9_term_74 ⟨rfl, Or.inr ⟨_, _, _, _, _, _, by show (rB (f L i) fun r => rJ kd f 42 47 4 5 800 r.1 r.2) = _; rw [hR9, rJ_b (by omega) hk8 hk9, rB_l Kh63], Zh63, Mh63⟩, Yh63'⟩
        · skip
          refine q_blk (lv2 := [(0, vr n)]) (st2 := [vi 1]) kX9_term_38 rfl ?_
          refine q_goto (tgt := 43) eX9_term_39 (by decide) ?_
          refine q_blk (lv2 := [(0, vr n), (1, vi 1)]) (st2 := [vr n, vr n]) kX9_term_43 rfl ?_
          have hk9 : kd i9 = 42 := (hch9.2.2.2.2.2 42 (by omega)).mpr (by omega)
          have HT := hg.sg hx hT9.1.1 hT9.1.2 (c := 42) (by omega) hk9
          have st9 := hg.st hl.1 hT9.1.1 hT9.1.2
          refine q_gi eX9_term_46 fl_RX9_133 (Or.inl rfl) m0h54 (z := (st i9)) rfl ?_
          refine q_blk (lv2 := [(0, vr n), (1, vi 1)]) (st2 := [vi ((st i9) + 1), vr n]) kX9_term_49 rfl ?_
          refine q_pi eX9_term_51 fl_RX9_133 (fun q hq => by cases hq; exact Or.inl rfl) (Or.inl rfl) m0h54 (Nat.le_of_ble_eq_true rfl) (l2 := [th, 0, bl, tl, ((st i9) + 1), 0, ea, eo, 0, 0, 0, ud, g0, g1, g2, g3, ns9, ne, se, 0]) rfl (fun h72 e73 => ?_)
          have k74 := am_at e73
          have k75 := (am_ne e73 (n + 2) (by omega)).trans m1h54
          have Mw76 : MM h72 n th bl tl ((st i9) + 1) 0 ea eo ud g0 g1 g2 g3 ns9 ne se E9 := ⟨k74, k75⟩
          have Vw76 : am_f2 _ h72 n := (am_fr.st e73 (by omega) (by omega) : am_fr _ _ n (n + 1)).f2
          have Yh72' : am_f2 h h72 n := Vh54.tr Vw76
          have hbh72 : h72.1 (n + 1) = some (100, 800, bf, am_N) := (Yh72'.2 (n + 1) (by omega) (by omega)).trans hb
          obtain ⟨m0h72, m1h72⟩ := id Mw76
          have hp54 : TP tx st N (st i9 + 1) (i9 + 1) := ⟨⟨by omega, by omega⟩, by omega, HT.2.2⟩
          refine q_blk (lv2 := [(0, vr n), (1, vi 1)]) (st2 := [vr n]) kX9_term_54 rfl ?_
          refine AQ.callVv (av := []) (st := []) (hf Mw76 hbh72 hp54 hC9 (by omega)) lk_RX9_203 (by omega) rfl rfl Mw76.ob ⟨_, rfl, rfl⟩ (Nat.le_of_ble_eq_true rfl) eX9_term_55 (fun h79 e78 => ?_)
          rcases e78 with ⟨⟨Lh79, ih79, pxh79, nh79, Eh79, Kh79, ⟨jah79, jbh79⟩, Nh79, Th79, Ch79, Bh79, Mh79⟩ | ⟨eh79, ah79, pxh79, nh79, neh79, Eh79, Kh79, Zh79, Mh79⟩, Vh79⟩
          · skip
            have Yh79' : am_f2 h h79 n := Yh72'.tr Vh79
            have hbh79 : h79.1 (n + 1) = some (100, 800, bf, am_N) := (Yh79'.2 (n + 1) (by omega) (by omega)).trans hb
            obtain ⟨m0h79, m1h79⟩ := id Mh79
            refine q_blk (lv2 := [(0, vr n), (1, vi 1)]) (st2 := [vi 1, vr n]) kX9_term_58 rfl ?_
            refine AQ.of (AS.if_eq_f eX9_term_60 ⟨by decide, by decide⟩ (by decide) (by decide)) ?_
            refine q_blk (lv2 := [(0, vr n), (1, vi 1)]) (st2 := [vi 4, vr n]) kX9_term_63 rfl ?_
            refine q_goto (tgt := 68) eX9_term_64 (by decide) ?_
            have w68 := Ch79.1
            have w69 : 0 ≤ Eh79 5 ∧ Eh79 5 < 1300 := by omega
            refine AQ.callVv (av := [vi 4]) (st := []) (c_X9_emit_g Mh79 w69 (v := 4)) lk_RX9_200 (by omega) rfl rfl Mh79.ob ⟨_, rfl, rfl⟩ (Nat.le_of_ble_eq_true rfl) eX9_term_68 (fun h82 e81 => ?_)
            obtain ⟨Mh82, Vh82⟩ := e81
            have Yh82' : am_f2 h h82 n := Yh79'.tr Vh82
            have hbh82 : h82.1 (n + 1) = some (100, 800, bf, am_N) := (Yh82'.2 (n + 1) (by omega) (by omega)).trans hb
            obtain ⟨m0h82, m1h82⟩ := id Mh82
            refine q_goto (tgt := 4) eX9_term_71 (by decide) ?_
            refine q_sub (lv2 := [(0, vr n)]) [0] rfl ?_
            exact ih4 h82 pxh79 nh79 (gm_em Eh79 4) (Lh79 ++ [(4, 0)]) ih79 (f9 - 1) (⟨by rw [hR9, rJ_a (by omega) hk9, rB_r Kh79], ⟨by omega, by have := Th79.1.2; omega⟩, by omega, by rw [gm_ed_l1 _ _ (show ¬ (4 : Int) ≤ 1 by decide)]; omega, Th79, Ch79.e1 (4, 0) (show ¬ (4 : Int) ≤ 1 by decide) rfl, hB9.tr (Bh79.tr (Ch79.em _).2), Mh82, Yh82'⟩) (by omega)
          · skip
            have Yh79' : am_f2 h h79 n := Yh72'.tr Vh79
            have hbh79 : h79.1 (n + 1) = some (100, 800, bf, am_N) := (Yh79'.2 (n + 1) (by omega) (by omega)).trans hb
            obtain ⟨m0h79, m1h79⟩ := id Mh79
            refine q_blk (lv2 := [(0, vr n), (1, vi 1)]) (st2 := [vi 1, vr n]) kX9_term_58 rfl ?_
            refine AQ.of (AS.if_eq_f eX9_term_60 ⟨by decide, by decide⟩ (by decide) (by decide)) ?_
            refine q_blk (lv2 := [(0, vr n), (1, vi 1)]) (st2 := [vi 4, vr n]) kX9_term_63 rfl ?_
            refine q_goto (tgt := 68) eX9_term_64 (by decide) ?_
            refine AQ.callVv (av := [vi 4]) (st := []) (c_X9_emit_b Mh79 Zh79 (v := 4)) lk_RX9_200 (by omega) rfl rfl Mh79.ob ⟨_, rfl, rfl⟩ (Nat.le_of_ble_eq_true rfl) eX9_term_68 (fun h85 e84 => ?_)
            subst e84
            refine q_goto (tgt := 4) eX9_term_71 (by decide) ?_
            refine q_blk (lv2 := [(0, vr n), (1, vi 1)]) (st2 := [vr n]) kX9_term_4 rfl ?_
            refine q_Vi (av := []) (st := []) (c_X9_isGood_b Mh79 Zh79) lk_RX9_145 (by omega) rfl rfl Mh79.ob ⟨_, rfl, rfl⟩ (Nat.le_of_ble_eq_true rfl) eX9_term_5 (fun z86 e87 => ?_)
            subst e87
            refine AQ.of (AS.if_eq_t (tgt := 74) eX9_term_8 (by decide) ⟨by decide, by decide⟩ (by decide)) ?_
            exact q_rv rfl eX9_term_74 ⟨rfl, Or.inr ⟨_, _, _, _, _, _, by show (rB (f L i) fun r => rJ kd f 42 47 4 5 800 r.1 r.2) = _; rw [hR9, rJ_a (by omega) hk9, rB_l Kh79], Zh79, Mh79⟩, Yh79'⟩
  · skip
    have Yh3' : am_f2 h h3 n := Vh3
    have hbh3 : h3.1 (n + 1) = some (100, 800, bf, am_N) := (Yh3'.2 (n + 1) (by omega) (by omega)).trans hb
    obtain ⟨m0h3, m1h3⟩ := id Mh3
    refine q_blk (lv2 := [(0, vr n)]) (st2 := [vr n]) kX9_term_4 rfl ?_
    refine q_Vi (av := []) (st := []) (c_X9_isGood_b Mh3 Zh3) lk_RX9_145 (by omega) rfl rfl Mh3.ob ⟨_, rfl, rfl⟩ (Nat.le_of_ble_eq_true rfl) eX9_term_5 (fun z88 e89 => ?_)
    subst e89
    refine AQ.of (AS.if_eq_t (tgt := 74) eX9_term_8 (by decide) ⟨by decide, by decide⟩ (by decide)) ?_
    exact q_rv rfl eX9_term_74 ⟨rfl, Or.inr ⟨_, _, _, _, _, _, by show (rB (f L i) fun r => rJ kd f 42 47 4 5 800 r.1 r.2) = _; rw [rB_l Kh3], Zh3, Mh3⟩, Yh3'⟩

set_option maxHeartbeats 8000000 in
theorem c_X9_sum {w : am_w} {bf tx kd st vl : Int → Int} {tl N : Int} (hl : 0 ≤ tl ∧ tl ≤ 800) (hx : BX bf tx tl) (hg : TG tx kd st vl tl N) (hN : N ≤ 800) {d : Nat} (hd : 5 ≤ d) {f : GL → Int → GRL} {ne : Int} (hf : PAC w m_X9_term d f ne bf tx kd st vl tl N)  : PAC w m_X9_sum (d + 1) ((fun L i => rB (f L i) fun r => rJ kd f 43 45 2 3 800 r.1 r.2)) ne bf tx kd st vl tl N := by
  intro h n th bl ps ea eo ud g0 g1 g2 g3 ns se E L i hm hb hp hE hL
  refine AE.of wf_X9_sum (Nat.le_of_ble_eq_true rfl) am_ok_v ?_
  obtain ⟨m0, m1⟩ := id hm
  obtain ⟨hi0, hi1⟩ := id hp.1
  have hch := hg.ch hx hp.1.1 hp.1.2
  have hk5 := hg.k5 hp.1.1 hp.1.2
  have hE5 := hE.1
  refine q_blk (lv2 := [(0, vr n)]) (st2 := [vr n]) kX9_sum_0 rfl ?_
  refine AQ.callVv (av := []) (st := []) (hf hm hb hp hE (by omega)) lk_RX9_206 (by omega) rfl rfl hm.ob ⟨_, rfl, rfl⟩ (Nat.le_of_ble_eq_true rfl) eX9_sum_1 (fun h3 e2 => ?_)
  rcases e2 with ⟨⟨Lh3, ih3, pxh3, nh3, Eh3, Kh3, ⟨jah3, jbh3⟩, Nh3, Th3, Ch3, Bh3, Mh3⟩ | ⟨eh3, ah3, pxh3, nh3, neh3, Eh3, Kh3, Zh3, Mh3⟩, Vh3⟩
  · skip
    have Yh3' : am_f2 h h3 n := Vh3
    have hbh3 : h3.1 (n + 1) = some (100, 800, bf, am_N) := (Yh3'.2 (n + 1) (by omega) (by omega)).trans hb
    obtain ⟨m0h3, m1h3⟩ := id Mh3
    refine am_lp7 (I := fun  (hh : AH) (px9 : Int) (ns9 : Int) (E9 : Int → Int) (L9 : GL) (i9 : Int) (f9 : Nat) => (rB (f L i) fun r => rJ kd f 43 45 2 3 800 r.1 r.2) = rJ kd f 43 45 2 3 f9 L9 i9 ∧ (i < i9 ∧ i9 ≤ N) ∧ N - i9 ≤ (f9 : Int) ∧ 2 * ((gm_ed L9).length : Int) ≤ 2 * ((gm_ed L).length : Int) + 3 * (i9 - i) + 1 ∧ TP tx st N px9 i9 ∧ CE E9 (gm_ed L9) ∧ gm_bd E E9 ∧ MM hh n th bl tl px9 0 ea eo ud g0 g1 g2 g3 ns9 ne se E9 ∧ am_f2 h hh n) (μ := fun  (hh : AH) (px9 : Int) (ns9 : Int) (E9 : Int → Int) (L9 : GL) (i9 : Int) (f9 : Nat) => (N - i9).toNat) (G := fun  (hh : AH) (px9 : Int) (ns9 : Int) (E9 : Int → Int) (L9 : GL) (i9 : Int) (f9 : Nat) => AQ w m_X9_sum (d + 1) 4 [(0, vr n)] [] hh (am_unit (PAQ bf tx kd st vl tl N ((fun L i => rB (f L i) fun r => rJ kd f 43 45 2 3 800 r.1 r.2) L i) h n th bl ps ea eo ud g0 g1 g2 g3 ns ne se E L i))) ?_ h3 pxh3 nh3 Eh3 Lh3 ih3 800 (⟨by rw [rB_r Kh3], ⟨by omega, by omega⟩, by omega, by omega, Th3, Ch3, Bh3, Mh3, Yh3'⟩)
    intro hh px9 ns9 E9 L9 i9 f9 hI5 ih4
    obtain ⟨hR9, ⟨i90, i91⟩, hf99, hln9, hT9, hC9, hB9, hm9, hf9⟩ := hI5
    obtain ⟨m0', m1'⟩ := id hm9
    have hb9 := (hf9.2 (n + 1) (by omega) (by omega)).trans hb
    have hch9 := hg.ch hx hT9.1.1 hT9.1.2
    have hE59 := hC9.1
    refine q_blk (lv2 := [(0, vr n)]) (st2 := [vr n]) kX9_sum_4 rfl ?_
    refine q_Vi (av := []) (st := []) (c_X9_isGood_g hm9) lk_RX9_145 (by omega) rfl rfl hm9.ob ⟨_, rfl, rfl⟩ (Nat.le_of_ble_eq_true rfl) eX9_sum_5 (fun z6 e7 => ?_)
    subst e7
    refine AQ.of (AS.if_eq_f eX9_sum_8 ⟨by decide, by decide⟩ (by decide) (by decide)) ?_
    refine q_blk (lv2 := [(0, vr n)]) (st2 := [vr n]) kX9_sum_11 rfl ?_
    refine AQ.callVi (av := []) (st := []) (c_X9_next hm9 hb9 hl hx hg hT9) lk_RX9_149 (by omega) rfl rfl hm9.ob ⟨_, rfl, rfl⟩ (Nat.le_of_ble_eq_true rfl) eX9_sum_12 (fun z8 h10 e9 => ?_)
    obtain ⟨rfl, Mh10, Fh10⟩ := e9
    have Vh10 : am_f2 h h10 n := hf9.tr (Fh10.f2)
    have hbh10 : h10.1 (n + 1) = some (100, 800, bf, am_N) := (Vh10.2 (n + 1) (by omega) (by omega)).trans hb
    obtain ⟨m0h10, m1h10⟩ := id Mh10
    have Ph10 := hT9.at hg hl.1
    refine q_blk (lv2 := [(0, vr n)]) (st2 := [vi 43, vi (gm_T bf tl (st i9))]) kX9_sum_15 rfl ?_
    refine AQ.ic_eq (tgt := 29) eX9_sum_17 (by decide) (by first | assumption | exact ⟨by omega, by omega⟩) ⟨by decide, by decide⟩ (fun br11 => ?_) (fun br11 => ?_)
    · skip
      refine q_blk (lv2 := [(0, vr n)]) (st2 := [vr n]) kX9_sum_29 rfl ?_
      refine AQ.callVi (av := []) (st := []) (c_X9_next Mh10 hbh10 hl hx hg Ph10) lk_RX9_149 (by omega) rfl rfl Mh10.ob ⟨_, rfl, rfl⟩ (Nat.le_of_ble_eq_true rfl) eX9_sum_30 (fun z12 h14 e13 => ?_)
      obtain ⟨rfl, Mh14, Fh14⟩ := e13
      have Vh14 : am_f2 h h14 n := Vh10.tr (Fh14.f2)
      have hbh14 : h14.1 (n + 1) = some (100, 800, bf, am_N) := (Vh14.2 (n + 1) (by omega) (by omega)).trans hb
      obtain ⟨m0h14, m1h14⟩ := id Mh14
      have Ph14 := Ph10.at hg hl.1
      refine q_blk (lv2 := [(0, vr n)]) (st2 := [vi 43, vi (gm_T bf tl (st i9))]) kX9_sum_33 rfl ?_
      refine AQ.ic_ne (tgt := 42) eX9_sum_35 (by decide) (by first | assumption | exact ⟨by omega, by omega⟩) ⟨by decide, by decide⟩ (fun br15 => ?_) (fun br15 => ?_)
      · skip
        refine q_blk (lv2 := [(0, vr n)]) (st2 := [vi 0]) kX9_sum_42 rfl ?_
        refine q_blk (lv2 := [(0, vr n), (1, vi 0)]) (st2 := [vr n, vr n]) kX9_sum_43 rfl ?_
        have hk8 : kd i9 ≠ 43 := fun c => by have := (hch9.2.2.2.2.2 43 (by omega)).mp c; omega
        have hk9 : kd i9 = 45 := (hch9.2.2.2.2.2 45 (by omega)).mpr (by omega)
        have HT := hg.sg hx hT9.1.1 hT9.1.2 (c := 45) (by omega) hk9
        have st9 := hg.st hl.1 hT9.1.1 hT9.1.2
        refine q_gi eX9_sum_46 fl_RX9_133 (Or.inl rfl) m0h14 (z := (st i9)) rfl ?_
        refine q_blk (lv2 := [(0, vr n), (1, vi 0)]) (st2 := [vi ((st i9) + 1), vr n]) kX9_sum_49 rfl ?_
        refine q_pi eX9_sum_51 fl_RX9_133 (fun q hq => by cases hq; exact Or.inl rfl) (Or.inl rfl) m0h14 (Nat.le_of_ble_eq_true rfl) (l2 := [th, 0, bl, tl, ((st i9) + 1), 0, ea, eo, 0, 0, 0, ud, g0, g1, g2, g3, ns9, ne, se, 0]) rfl (fun h16 e17 => ?_)
        have k18 := am_at e17
        have k19 := (am_ne e17 (n + 2) (by omega)).trans m1h14
        have Mw20 : MM h16 n th bl tl ((st i9) + 1) 0 ea eo ud g0 g1 g2 g3 ns9 ne se E9 := ⟨k18, k19⟩
        have Vw20 : am_f2 _ h16 n := (am_fr.st e17 (by omega) (by omega) : am_fr _ _ n (n + 1)).f2
        have Yh16' : am_f2 h h16 n := Vh14.tr Vw20
        have hbh16 : h16.1 (n + 1) = some (100, 800, bf, am_N) := (Yh16'.2 (n + 1) (by omega) (by omega)).trans hb
        obtain ⟨m0h16, m1h16⟩ := id Mw20
        have hp54 : TP tx st N (st i9 + 1) (i9 + 1) := ⟨⟨by omega, by omega⟩, by omega, HT.2.2⟩
        refine q_blk (lv2 := [(0, vr n), (1, vi 0)]) (st2 := [vr n]) kX9_sum_54 rfl ?_
        refine AQ.callVv (av := []) (st := []) (hf Mw20 hbh16 hp54 hC9 (by omega)) lk_RX9_206 (by omega) rfl rfl Mw20.ob ⟨_, rfl, rfl⟩ (Nat.le_of_ble_eq_true rfl) eX9_sum_55 (fun h23 e22 => ?_)
        rcases e22 with ⟨⟨Lh23, ih23, pxh23, nh23, Eh23, Kh23, ⟨jah23, jbh23⟩, Nh23, Th23, Ch23, Bh23, Mh23⟩ | ⟨eh23, ah23, pxh23, nh23, neh23, Eh23, Kh23, Zh23, Mh23⟩, Vh23⟩
        · skip
          have Yh23' : am_f2 h h23 n := Yh16'.tr Vh23
          have hbh23 : h23.1 (n + 1) = some (100, 800, bf, am_N) := (Yh23'.2 (n + 1) (by omega) (by omega)).trans hb
          obtain ⟨m0h23, m1h23⟩ := id Mh23
          refine q_blk (lv2 := [(0, vr n), (1, vi 0)]) (st2 := [vi 0, vr n]) kX9_sum_58 rfl ?_
          refine AQ.of (AS.if_eq_t (tgt := 67) eX9_sum_60 (by decide) ⟨by decide, by decide⟩ (by decide)) ?_
          refine q_blk (lv2 := [(0, vr n), (1, vi 0)]) (st2 := [vi 3, vr n]) kX9_sum_67 rfl ?_
          have w68 := Ch23.1
          have w69 : 0 ≤ Eh23 5 ∧ Eh23 5 < 1300 := by omega
          refine AQ.callVv (av := [vi 3]) (st := []) (c_X9_emit_g Mh23 w69 (v := 3)) lk_RX9_200 (by omega) rfl rfl Mh23.ob ⟨_, rfl, rfl⟩ (Nat.le_of_ble_eq_true rfl) eX9_sum_68 (fun h26 e25 => ?_)
          obtain ⟨Mh26, Vh26⟩ := e25
          have Yh26' : am_f2 h h26 n := Yh23'.tr Vh26
          have hbh26 : h26.1 (n + 1) = some (100, 800, bf, am_N) := (Yh26'.2 (n + 1) (by omega) (by omega)).trans hb
          obtain ⟨m0h26, m1h26⟩ := id Mh26
          refine q_goto (tgt := 4) eX9_sum_71 (by decide) ?_
          refine q_sub (lv2 := [(0, vr n)]) [0] rfl ?_
          exact ih4 h26 pxh23 nh23 (gm_em Eh23 3) (Lh23 ++ [(3, 0)]) ih23 (f9 - 1) (⟨by rw [hR9, rJ_b (by omega) hk8 hk9, rB_r Kh23], ⟨by omega, by have := Th23.1.2; omega⟩, by omega, by rw [gm_ed_l1 _ _ (show ¬ (3 : Int) ≤ 1 by decide)]; omega, Th23, Ch23.e1 (3, 0) (show ¬ (3 : Int) ≤ 1 by decide) rfl, hB9.tr (Bh23.tr (Ch23.em _).2), Mh26, Yh26'⟩) (by omega)
        · skip
          have Yh23' : am_f2 h h23 n := Yh16'.tr Vh23
          have hbh23 : h23.1 (n + 1) = some (100, 800, bf, am_N) := (Yh23'.2 (n + 1) (by omega) (by omega)).trans hb
          obtain ⟨m0h23, m1h23⟩ := id Mh23
          refine q_blk (lv2 := [(0, vr n), (1, vi 0)]) (st2 := [vi 0, vr n]) kX9_sum_58 rfl ?_
          refine AQ.of (AS.if_eq_t (tgt := 67) eX9_sum_60 (by decide) ⟨by decide, by decide⟩ (by decide)) ?_
          refine q_blk (lv2 := [(0, vr n), (1, vi 0)]) (st2 := [vi 3, vr n]) kX9_sum_67 rfl ?_
          refine AQ.callVv (av := [vi 3]) (st := []) (c_X9_emit_b Mh23 Zh23 (v := 3)) lk_RX9_200 (by omega) rfl rfl Mh23.ob ⟨_, rfl, rfl⟩ (Nat.le_of_ble_eq_true rfl) eX9_sum_68 (fun h29 e28 => ?_)
          subst e28
          refine q_goto (tgt := 4) eX9_sum_71 (by decide) ?_
          refine q_blk (lv2 := [(0, vr n), (1, vi 0)]) (st2 := [vr n]) kX9_sum_4 rfl ?_
          refine q_Vi (av := []) (st := []) (c_X9_isGood_b Mh23 Zh23) lk_RX9_145 (by omega) rfl rfl Mh23.ob ⟨_, rfl, rfl⟩ (Nat.le_of_ble_eq_true rfl) eX9_sum_5 (fun z30 e31 => ?_)
          subst e31
          refine AQ.of (AS.if_eq_t (tgt := 74) eX9_sum_8 (by decide) ⟨by decide, by decide⟩ (by decide)) ?_
          exact q_rv rfl eX9_sum_74 ⟨rfl, Or.inr ⟨_, _, _, _, _, _, by show (rB (f L i) fun r => rJ kd f 43 45 2 3 800 r.1 r.2) = _; rw [hR9, rJ_b (by omega) hk8 hk9, rB_l Kh23], Zh23, Mh23⟩, Yh23'⟩
      · skip
        refine q_blk (lv2 := [(0, vr n)]) (st2 := [vi 1]) kX9_sum_38 rfl ?_
        refine q_goto (tgt := 43) eX9_sum_39 (by decide) ?_
        refine q_blk (lv2 := [(0, vr n), (1, vi 1)]) (st2 := [vr n, vr n]) kX9_sum_43 rfl ?_
        have hk9 : kd i9 = 43 := (hch9.2.2.2.2.2 43 (by omega)).mpr (by omega)
        have HT := hg.sg hx hT9.1.1 hT9.1.2 (c := 43) (by omega) hk9
        have st9 := hg.st hl.1 hT9.1.1 hT9.1.2
        refine q_gi eX9_sum_46 fl_RX9_133 (Or.inl rfl) m0h14 (z := (st i9)) rfl ?_
        refine q_blk (lv2 := [(0, vr n), (1, vi 1)]) (st2 := [vi ((st i9) + 1), vr n]) kX9_sum_49 rfl ?_
        refine q_pi eX9_sum_51 fl_RX9_133 (fun q hq => by cases hq; exact Or.inl rfl) (Or.inl rfl) m0h14 (Nat.le_of_ble_eq_true rfl) (l2 := [th, 0, bl, tl, ((st i9) + 1), 0, ea, eo, 0, 0, 0, ud, g0, g1, g2, g3, ns9, ne, se, 0]) rfl (fun h32 e33 => ?_)
        have k34 := am_at e33
        have k35 := (am_ne e33 (n + 2) (by omega)).trans m1h14
        have Mw36 : MM h32 n th bl tl ((st i9) + 1) 0 ea eo ud g0 g1 g2 g3 ns9 ne se E9 := ⟨k34, k35⟩
        have Vw36 : am_f2 _ h32 n := (am_fr.st e33 (by omega) (by omega) : am_fr _ _ n (n + 1)).f2
        have Yh32' : am_f2 h h32 n := Vh14.tr Vw36
        have hbh32 : h32.1 (n + 1) = some (100, 800, bf, am_N) := (Yh32'.2 (n + 1) (by omega) (by omega)).trans hb
        obtain ⟨m0h32, m1h32⟩ := id Mw36
        have hp54 : TP tx st N (st i9 + 1) (i9 + 1) := ⟨⟨by omega, by omega⟩, by omega, HT.2.2⟩
        refine q_blk (lv2 := [(0, vr n), (1, vi 1)]) (st2 := [vr n]) kX9_sum_54 rfl ?_
        refine AQ.callVv (av := []) (st := []) (hf Mw36 hbh32 hp54 hC9 (by omega)) lk_RX9_206 (by omega) rfl rfl Mw36.ob ⟨_, rfl, rfl⟩ (Nat.le_of_ble_eq_true rfl) eX9_sum_55 (fun h39 e38 => ?_)
        rcases e38 with ⟨⟨Lh39, ih39, pxh39, nh39, Eh39, Kh39, ⟨jah39, jbh39⟩, Nh39, Th39, Ch39, Bh39, Mh39⟩ | ⟨eh39, ah39, pxh39, nh39, neh39, Eh39, Kh39, Zh39, Mh39⟩, Vh39⟩
        · skip
          have Yh39' : am_f2 h h39 n := Yh32'.tr Vh39
          have hbh39 : h39.1 (n + 1) = some (100, 800, bf, am_N) := (Yh39'.2 (n + 1) (by omega) (by omega)).trans hb
          obtain ⟨m0h39, m1h39⟩ := id Mh39
          refine q_blk (lv2 := [(0, vr n), (1, vi 1)]) (st2 := [vi 1, vr n]) kX9_sum_58 rfl ?_
          refine AQ.of (AS.if_eq_f eX9_sum_60 ⟨by decide, by decide⟩ (by decide) (by decide)) ?_
          refine q_blk (lv2 := [(0, vr n), (1, vi 1)]) (st2 := [vi 2, vr n]) kX9_sum_63 rfl ?_
          refine q_goto (tgt := 68) eX9_sum_64 (by decide) ?_
          have w68 := Ch39.1
          have w69 : 0 ≤ Eh39 5 ∧ Eh39 5 < 1300 := by omega
          refine AQ.callVv (av := [vi 2]) (st := []) (c_X9_emit_g Mh39 w69 (v := 2)) lk_RX9_200 (by omega) rfl rfl Mh39.ob ⟨_, rfl, rfl⟩ (Nat.le_of_ble_eq_true rfl) eX9_sum_68 (fun h42 e41 => ?_)
          obtain ⟨Mh42, Vh42⟩ := e41
          have Yh42' : am_f2 h h42 n := Yh39'.tr Vh42
          have hbh42 : h42.1 (n + 1) = some (100, 800, bf, am_N) := (Yh42'.2 (n + 1) (by omega) (by omega)).trans hb
          obtain ⟨m0h42, m1h42⟩ := id Mh42
          refine q_goto (tgt := 4) eX9_sum_71 (by decide) ?_
          refine q_sub (lv2 := [(0, vr n)]) [0] rfl ?_
          exact ih4 h42 pxh39 nh39 (gm_em Eh39 2) (Lh39 ++ [(2, 0)]) ih39 (f9 - 1) (⟨by rw [hR9, rJ_a (by omega) hk9, rB_r Kh39], ⟨by omega, by have := Th39.1.2; omega⟩, by omega, by rw [gm_ed_l1 _ _ (show ¬ (2 : Int) ≤ 1 by decide)]; omega, Th39, Ch39.e1 (2, 0) (show ¬ (2 : Int) ≤ 1 by decide) rfl, hB9.tr (Bh39.tr (Ch39.em _).2), Mh42, Yh42'⟩) (by omega)
        · skip
          have Yh39' : am_f2 h h39 n := Yh32'.tr Vh39
          have hbh39 : h39.1 (n + 1) = some (100, 800, bf, am_N) := (Yh39'.2 (n + 1) (by omega) (by omega)).trans hb
          obtain ⟨m0h39, m1h39⟩ := id Mh39
          refine q_blk (lv2 := [(0, vr n), (1, vi 1)]) (st2 := [vi 1, vr n]) kX9_sum_58 rfl ?_
          refine AQ.of (AS.if_eq_f eX9_sum_60 ⟨by decide, by decide⟩ (by decide) (by decide)) ?_
          refine q_blk (lv2 := [(0, vr n), (1, vi 1)]) (st2 := [vi 2, vr n]) kX9_sum_63 rfl ?_
          refine q_goto (tgt := 68) eX9_sum_64 (by decide) ?_
          refine AQ.callVv (av := [vi 2]) (st := []) (c_X9_emit_b Mh39 Zh39 (v := 2)) lk_RX9_200 (by omega) rfl rfl Mh39.ob ⟨_, rfl, rfl⟩ (Nat.le_of_ble_eq_true rfl) eX9_sum_68 (fun h45 e44 => ?_)
          subst e44
          refine q_goto (tgt := 4) eX9_sum_71 (by decide) ?_
          refine q_blk (lv2 := [(0, vr n), (1, vi 1)]) (st2 := [vr n]) kX9_sum_4 rfl ?_
          refine q_Vi (av := []) (st := []) (c_X9_isGood_b Mh39 Zh39) lk_RX9_145 (by omega) rfl rfl Mh39.ob ⟨_, rfl, rfl⟩ (Nat.le_of_ble_eq_true rfl) eX9_sum_5 (fun z46 e47 => ?_)
          subst e47
          refine AQ.of (AS.if_eq_t (tgt := 74) eX9_sum_8 (by decide) ⟨by decide, by decide⟩ (by decide)) ?_
          exact q_rv rfl eX9_sum_74 ⟨rfl, Or.inr ⟨_, _, _, _, _, _, by show (rB (f L i) fun r => rJ kd f 43 45 2 3 800 r.1 r.2) = _; rw [hR9, rJ_a (by omega) hk9, rB_l Kh39], Zh39, Mh39⟩, Yh39'⟩
    · skip
      refine q_blk (lv2 := [(0, vr n)]) (st2 := [vr n]) kX9_sum_20 rfl ?_
      refine AQ.callVi (av := []) (st := []) (c_X9_next Mh10 hbh10 hl hx hg Ph10) lk_RX9_149 (by omega) rfl rfl Mh10.ob ⟨_, rfl, rfl⟩ (Nat.le_of_ble_eq_true rfl) eX9_sum_21 (fun z48 h50 e49 => ?_)
      obtain ⟨rfl, Mh50, Fh50⟩ := e49
      have Vh50 : am_f2 h h50 n := Vh10.tr (Fh50.f2)
      have hbh50 : h50.1 (n + 1) = some (100, 800, bf, am_N) := (Vh50.2 (n + 1) (by omega) (by omega)).trans hb
      obtain ⟨m0h50, m1h50⟩ := id Mh50
      have Ph50 := Ph10.at hg hl.1
      refine q_blk (lv2 := [(0, vr n)]) (st2 := [vi 45, vi (gm_T bf tl (st i9))]) kX9_sum_24 rfl ?_
      refine AQ.ic_ne (tgt := 74) eX9_sum_26 (by decide) (by first | assumption | exact ⟨by omega, by omega⟩) ⟨by decide, by decide⟩ (fun br51 => ?_) (fun br51 => ?_)
      · skip
        exact q_rv rfl eX9_sum_74 ⟨rfl, Or.inl ⟨L9, i9, _, _, _, by show (rB (f L i) fun r => rJ kd f 43 45 2 3 800 r.1 r.2) = _; rw [hR9]; exact rJ_n (fun c => by have := (hch9.2.2.2.2.2 43 (by omega)).mp c; omega) (fun c => by have := (hch9.2.2.2.2.2 45 (by omega)).mp c; omega), ⟨by omega, by omega⟩, by omega, Ph50, hC9, hB9, Mh50⟩, Vh50⟩
      · skip
        refine q_blk (lv2 := [(0, vr n)]) (st2 := [vr n]) kX9_sum_29 rfl ?_
        refine AQ.callVi (av := []) (st := []) (c_X9_next Mh50 hbh50 hl hx hg Ph50) lk_RX9_149 (by omega) rfl rfl Mh50.ob ⟨_, rfl, rfl⟩ (Nat.le_of_ble_eq_true rfl) eX9_sum_30 (fun z52 h54 e53 => ?_)
        obtain ⟨rfl, Mh54, Fh54⟩ := e53
        have Vh54 : am_f2 h h54 n := Vh50.tr (Fh54.f2)
        have hbh54 : h54.1 (n + 1) = some (100, 800, bf, am_N) := (Vh54.2 (n + 1) (by omega) (by omega)).trans hb
        obtain ⟨m0h54, m1h54⟩ := id Mh54
        have Ph54 := Ph50.at hg hl.1
        refine q_blk (lv2 := [(0, vr n)]) (st2 := [vi 43, vi (gm_T bf tl (st i9))]) kX9_sum_33 rfl ?_
        refine AQ.ic_ne (tgt := 42) eX9_sum_35 (by decide) (by first | assumption | exact ⟨by omega, by omega⟩) ⟨by decide, by decide⟩ (fun br55 => ?_) (fun br55 => ?_)
        · skip
          refine q_blk (lv2 := [(0, vr n)]) (st2 := [vi 0]) kX9_sum_42 rfl ?_
          refine q_blk (lv2 := [(0, vr n), (1, vi 0)]) (st2 := [vr n, vr n]) kX9_sum_43 rfl ?_
          have hk8 : kd i9 ≠ 43 := fun c => by have := (hch9.2.2.2.2.2 43 (by omega)).mp c; omega
          have hk9 : kd i9 = 45 := (hch9.2.2.2.2.2 45 (by omega)).mpr (by omega)
          have HT := hg.sg hx hT9.1.1 hT9.1.2 (c := 45) (by omega) hk9
          have st9 := hg.st hl.1 hT9.1.1 hT9.1.2
          refine q_gi eX9_sum_46 fl_RX9_133 (Or.inl rfl) m0h54 (z := (st i9)) rfl ?_
          refine q_blk (lv2 := [(0, vr n), (1, vi 0)]) (st2 := [vi ((st i9) + 1), vr n]) kX9_sum_49 rfl ?_
          refine q_pi eX9_sum_51 fl_RX9_133 (fun q hq => by cases hq; exact Or.inl rfl) (Or.inl rfl) m0h54 (Nat.le_of_ble_eq_true rfl) (l2 := [th, 0, bl, tl, ((st i9) + 1), 0, ea, eo, 0, 0, 0, ud, g0, g1, g2, g3, ns9, ne, se, 0]) rfl (fun h56 e57 => ?_)
          have k58 := am_at e57
          have k59 := (am_ne e57 (n + 2) (by omega)).trans m1h54
          have Mw60 : MM h56 n th bl tl ((st i9) + 1) 0 ea eo ud g0 g1 g2 g3 ns9 ne se E9 := ⟨k58, k59⟩
          have Vw60 : am_f2 _ h56 n := (am_fr.st e57 (by omega) (by omega) : am_fr _ _ n (n + 1)).f2
          have Yh56' : am_f2 h h56 n := Vh54.tr Vw60
          have hbh56 : h56.1 (n + 1) = some (100, 800, bf, am_N) := (Yh56'.2 (n + 1) (by omega) (by omega)).trans hb
          obtain ⟨m0h56, m1h56⟩ := id Mw60
          have hp54 : TP tx st N (st i9 + 1) (i9 + 1) := ⟨⟨by omega, by omega⟩, by omega, HT.2.2⟩
          refine q_blk (lv2 := [(0, vr n), (1, vi 0)]) (st2 := [vr n]) kX9_sum_54 rfl ?_
          refine AQ.callVv (av := []) (st := []) (hf Mw60 hbh56 hp54 hC9 (by omega)) lk_RX9_206 (by omega) rfl rfl Mw60.ob ⟨_, rfl, rfl⟩ (Nat.le_of_ble_eq_true rfl) eX9_sum_55 (fun h63 e62 => ?_)
          rcases e62 with ⟨⟨Lh63, ih63, pxh63, nh63, Eh63, Kh63, ⟨jah63, jbh63⟩, Nh63, Th63, Ch63, Bh63, Mh63⟩ | ⟨eh63, ah63, pxh63, nh63, neh63, Eh63, Kh63, Zh63, Mh63⟩, Vh63⟩
          · skip
            have Yh63' : am_f2 h h63 n := Yh56'.tr Vh63
            have hbh63 : h63.1 (n + 1) = some (100, 800, bf, am_N) := (Yh63'.2 (n + 1) (by omega) (by omega)).trans hb
            obtain ⟨m0h63, m1h63⟩ := id Mh63
            refine q_blk (lv2 := [(0, vr n), (1, vi 0)]) (st2 := [vi 0, vr n]) kX9_sum_58 rfl ?_
            refine AQ.of (AS.if_eq_t (tgt := 67) eX9_sum_60 (by decide) ⟨by decide, by decide⟩ (by decide)) ?_
            refine q_blk (lv2 := [(0, vr n), (1, vi 0)]) (st2 := [vi 3, vr n]) kX9_sum_67 rfl ?_
            have w68 := Ch63.1
            have w69 : 0 ≤ Eh63 5 ∧ Eh63 5 < 1300 := by omega
            refine AQ.callVv (av := [vi 3]) (st := []) (c_X9_emit_g Mh63 w69 (v := 3)) lk_RX9_200 (by omega) rfl rfl Mh63.ob ⟨_, rfl, rfl⟩ (Nat.le_of_ble_eq_true rfl) eX9_sum_68 (fun h66 e65 => ?_)
            obtain ⟨Mh66, Vh66⟩ := e65
            have Yh66' : am_f2 h h66 n := Yh63'.tr Vh66
            have hbh66 : h66.1 (n + 1) = some (100, 800, bf, am_N) := (Yh66'.2 (n + 1) (by omega) (by omega)).trans hb
            obtain ⟨m0h66, m1h66⟩ := id Mh66
            refine q_goto (tgt := 4) eX9_sum_71 (by decide) ?_
            refine q_sub (lv2 := [(0, vr n)]) [0] rfl ?_
            exact ih4 h66 pxh63 nh63 (gm_em Eh63 3) (Lh63 ++ [(3, 0)]) ih63 (f9 - 1) (⟨by rw [hR9, rJ_b (by omega) hk8 hk9, rB_r Kh63], ⟨by omega, by have := Th63.1.2; omega⟩, by omega, by rw [gm_ed_l1 _ _ (show ¬ (3 : Int) ≤ 1 by decide)]; omega, Th63, Ch63.e1 (3, 0) (show ¬ (3 : Int) ≤ 1 by decide) rfl, hB9.tr (Bh63.tr (Ch63.em _).2), Mh66, Yh66'⟩) (by omega)
          · skip
            have Yh63' : am_f2 h h63 n := Yh56'.tr Vh63
            have hbh63 : h63.1 (n + 1) = some (100, 800, bf, am_N) := (Yh63'.2 (n + 1) (by omega) (by omega)).trans hb
            obtain ⟨m0h63, m1h63⟩ := id Mh63
            refine q_blk (lv2 := [(0, vr n), (1, vi 0)]) (st2 := [vi 0, vr n]) kX9_sum_58 rfl ?_
            refine AQ.of (AS.if_eq_t (tgt := 67) eX9_sum_60 (by decide) ⟨by decide, by decide⟩ (by decide)) ?_
            refine q_blk (lv2 := [(0, vr n), (1, vi 0)]) (st2 := [vi 3, vr n]) kX9_sum_67 rfl ?_
            refine AQ.callVv (av := [vi 3]) (st := []) (c_X9_emit_b Mh63 Zh63 (v := 3)) lk_RX9_200 (by omega) rfl rfl Mh63.ob ⟨_, rfl, rfl⟩ (Nat.le_of_ble_eq_true rfl) eX9_sum_68 (fun h69 e68 => ?_)
            subst e68
            refine q_goto (tgt := 4) eX9_sum_71 (by decide) ?_
            refine q_blk (lv2 := [(0, vr n), (1, vi 0)]) (st2 := [vr n]) kX9_sum_4 rfl ?_
            refine q_Vi (av := []) (st := []) (c_X9_isGood_b Mh63 Zh63) lk_RX9_145 (by omega) rfl rfl Mh63.ob ⟨_, rfl, rfl⟩ (Nat.le_of_ble_eq_true rfl) eX9_sum_5 (fun z70 e71 => ?_)
            subst e71
            refine AQ.of (AS.if_eq_t (tgt := 74) eX9_sum_8 (by decide) ⟨by decide, by decide⟩ (by decide)) ?_
            exact q_rv rfl eX9_sum_74 ⟨rfl, Or.inr ⟨_, _, _, _, _, _, by show (rB (f L i) fun r => rJ kd f 43 45 2 3 800 r.1 r.2) = _; rw [hR9, rJ_b (by omega) hk8 hk9, rB_l Kh63], Zh63, Mh63⟩, Yh63'⟩
        · skip
          refine q_blk (lv2 := [(0, vr n)]) (st2 := [vi 1]) kX9_sum_38 rfl ?_
          refine q_goto (tgt := 43) eX9_sum_39 (by decide) ?_
          refine q_blk (lv2 := [(0, vr n), (1, vi 1)]) (st2 := [vr n, vr n]) kX9_sum_43 rfl ?_
          have hk9 : kd i9 = 43 := (hch9.2.2.2.2.2 43 (by omega)).mpr (by omega)
          have HT := hg.sg hx hT9.1.1 hT9.1.2 (c := 43) (by omega) hk9
          have st9 := hg.st hl.1 hT9.1.1 hT9.1.2
          refine q_gi eX9_sum_46 fl_RX9_133 (Or.inl rfl) m0h54 (z := (st i9)) rfl ?_
          refine q_blk (lv2 := [(0, vr n), (1, vi 1)]) (st2 := [vi ((st i9) + 1), vr n]) kX9_sum_49 rfl ?_
          refine q_pi eX9_sum_51 fl_RX9_133 (fun q hq => by cases hq; exact Or.inl rfl) (Or.inl rfl) m0h54 (Nat.le_of_ble_eq_true rfl) (l2 := [th, 0, bl, tl, ((st i9) + 1), 0, ea, eo, 0, 0, 0, ud, g0, g1, g2, g3, ns9, ne, se, 0]) rfl (fun h72 e73 => ?_)
          have k74 := am_at e73
          have k75 := (am_ne e73 (n + 2) (by omega)).trans m1h54
          have Mw76 : MM h72 n th bl tl ((st i9) + 1) 0 ea eo ud g0 g1 g2 g3 ns9 ne se E9 := ⟨k74, k75⟩
          have Vw76 : am_f2 _ h72 n := (am_fr.st e73 (by omega) (by omega) : am_fr _ _ n (n + 1)).f2
          have Yh72' : am_f2 h h72 n := Vh54.tr Vw76
          have hbh72 : h72.1 (n + 1) = some (100, 800, bf, am_N) := (Yh72'.2 (n + 1) (by omega) (by omega)).trans hb
          obtain ⟨m0h72, m1h72⟩ := id Mw76
          have hp54 : TP tx st N (st i9 + 1) (i9 + 1) := ⟨⟨by omega, by omega⟩, by omega, HT.2.2⟩
          refine q_blk (lv2 := [(0, vr n), (1, vi 1)]) (st2 := [vr n]) kX9_sum_54 rfl ?_
          refine AQ.callVv (av := []) (st := []) (hf Mw76 hbh72 hp54 hC9 (by omega)) lk_RX9_206 (by omega) rfl rfl Mw76.ob ⟨_, rfl, rfl⟩ (Nat.le_of_ble_eq_true rfl) eX9_sum_55 (fun h79 e78 => ?_)
          rcases e78 with ⟨⟨Lh79, ih79, pxh79, nh79, Eh79, Kh79, ⟨jah79, jbh79⟩, Nh79, Th79, Ch79, Bh79, Mh79⟩ | ⟨eh79, ah79, pxh79, nh79, neh79, Eh79, Kh79, Zh79, Mh79⟩, Vh79⟩
          · skip
            have Yh79' : am_f2 h h79 n := Yh72'.tr Vh79
            have hbh79 : h79.1 (n + 1) = some (100, 800, bf, am_N) := (Yh79'.2 (n + 1) (by omega) (by omega)).trans hb
            obtain ⟨m0h79, m1h79⟩ := id Mh79
            refine q_blk (lv2 := [(0, vr n), (1, vi 1)]) (st2 := [vi 1, vr n]) kX9_sum_58 rfl ?_
            refine AQ.of (AS.if_eq_f eX9_sum_60 ⟨by decide, by decide⟩ (by decide) (by decide)) ?_
            refine q_blk (lv2 := [(0, vr n), (1, vi 1)]) (st2 := [vi 2, vr n]) kX9_sum_63 rfl ?_
            refine q_goto (tgt := 68) eX9_sum_64 (by decide) ?_
            have w68 := Ch79.1
            have w69 : 0 ≤ Eh79 5 ∧ Eh79 5 < 1300 := by omega
            refine AQ.callVv (av := [vi 2]) (st := []) (c_X9_emit_g Mh79 w69 (v := 2)) lk_RX9_200 (by omega) rfl rfl Mh79.ob ⟨_, rfl, rfl⟩ (Nat.le_of_ble_eq_true rfl) eX9_sum_68 (fun h82 e81 => ?_)
            obtain ⟨Mh82, Vh82⟩ := e81
            have Yh82' : am_f2 h h82 n := Yh79'.tr Vh82
            have hbh82 : h82.1 (n + 1) = some (100, 800, bf, am_N) := (Yh82'.2 (n + 1) (by omega) (by omega)).trans hb
            obtain ⟨m0h82, m1h82⟩ := id Mh82
            refine q_goto (tgt := 4) eX9_sum_71 (by decide) ?_
            refine q_sub (lv2 := [(0, vr n)]) [0] rfl ?_
            exact ih4 h82 pxh79 nh79 (gm_em Eh79 2) (Lh79 ++ [(2, 0)]) ih79 (f9 - 1) (⟨by rw [hR9, rJ_a (by omega) hk9, rB_r Kh79], ⟨by omega, by have := Th79.1.2; omega⟩, by omega, by rw [gm_ed_l1 _ _ (show ¬ (2 : Int) ≤ 1 by decide)]; omega, Th79, Ch79.e1 (2, 0) (show ¬ (2 : Int) ≤ 1 by decide) rfl, hB9.tr (Bh79.tr (Ch79.em _).2), Mh82, Yh82'⟩) (by omega)
          · skip
            have Yh79' : am_f2 h h79 n := Yh72'.tr Vh79
            have hbh79 : h79.1 (n + 1) = some (100, 800, bf, am_N) := (Yh79'.2 (n + 1) (by omega) (by omega)).trans hb
            obtain ⟨m0h79, m1h79⟩ := id Mh79
            refine q_blk (lv2 := [(0, vr n), (1, vi 1)]) (st2 := [vi 1, vr n]) kX9_sum_58 rfl ?_
            refine AQ.of (AS.if_eq_f eX9_sum_60 ⟨by decide, by decide⟩ (by decide) (by decide)) ?_
            refine q_blk (lv2 := [(0, vr n), (1, vi 1)]) (st2 := [vi 2, vr n]) kX9_sum_63 rfl ?_
            refine q_goto (tgt := 68) eX9_sum_64 (by decide) ?_
            refine AQ.callVv (av := [vi 2]) (st := []) (c_X9_emit_b Mh79 Zh79 (v := 2)) lk_RX9_200 (by omega) rfl rfl Mh79.ob ⟨_, rfl, rfl⟩ (Nat.le_of_ble_eq_true rfl) eX9_sum_68 (fun h85 e84 => ?_)
            subst e84
            refine q_goto (tgt := 4) eX9_sum_71 (by decide) ?_
            refine q_blk (lv2 := [(0, vr n), (1, vi 1)]) (st2 := [vr n]) kX9_sum_4 rfl ?_
            refine q_Vi (av := []) (st := []) (c_X9_isGood_b Mh79 Zh79) lk_RX9_145 (by omega) rfl rfl Mh79.ob ⟨_, rfl, rfl⟩ (Nat.le_of_ble_eq_true rfl) eX9_sum_5 (fun z86 e87 => ?_)
            subst e87
            refine AQ.of (AS.if_eq_t (tgt := 74) eX9_sum_8 (by decide) ⟨by decide, by decide⟩ (by decide)) ?_
            exact q_rv rfl eX9_sum_74 ⟨rfl, Or.inr ⟨_, _, _, _, _, _, by show (rB (f L i) fun r => rJ kd f 43 45 2 3 800 r.1 r.2) = _; rw [hR9, rJ_a (by omega) hk9, rB_l Kh79], Zh79, Mh79⟩, Yh79'⟩
  · skip
    have Yh3' : am_f2 h h3 n := Vh3
    have hbh3 : h3.1 (n + 1) = some (100, 800, bf, am_N) := (Yh3'.2 (n + 1) (by omega) (by omega)).trans hb
    obtain ⟨m0h3, m1h3⟩ := id Mh3
    refine q_blk (lv2 := [(0, vr n)]) (st2 := [vr n]) kX9_sum_4 rfl ?_
    refine q_Vi (av := []) (st := []) (c_X9_isGood_b Mh3 Zh3) lk_RX9_145 (by omega) rfl rfl Mh3.ob ⟨_, rfl, rfl⟩ (Nat.le_of_ble_eq_true rfl) eX9_sum_5 (fun z88 e89 => ?_)
    subst e89
    refine AQ.of (AS.if_eq_t (tgt := 74) eX9_sum_8 (by decide) ⟨by decide, by decide⟩ (by decide)) ?_
    exact q_rv rfl eX9_sum_74 ⟨rfl, Or.inr ⟨_, _, _, _, _, _, by show (rB (f L i) fun r => rJ kd f 43 45 2 3 800 r.1 r.2) = _; rw [rB_l Kh3], Zh3, Mh3⟩, Yh3'⟩
