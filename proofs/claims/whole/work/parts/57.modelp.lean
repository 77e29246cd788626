/-! CornerClaimsModel: the score of a polygon, the points of a player. -/
theorem STK.psh {fg sk : Int → Int} {L A : GL} {o : Int × Int} {r : GL} {l : List Int} {i top : Int} (h : STK fg sk L A (o :: r) l i top) (hF : ∀ i, 0 ≤ i → i ≤ 4 → gm_lt (fg i)) (ho : o.1 = 0 ∨ o.1 = 1) {v : Int} (hv : v = if o.1 = 0 then o.2 else fg o.2) : STK fg (am_uI sk top v) L (A ++ [o]) r (gm_s1 fg o l) (i + 1 + 1) (top + 1) := by
  obtain ⟨h1, h2, h3, h4, h5, h6, h7, h8⟩ := id h
  have e : gm_s1 fg o l = v :: l := by
    unfold gm_s1
    rcases ho with q | q
    · rw [if_pos q, hv, if_pos q]
    · rw [if_neg (by omega), if_pos q, hv, if_neg (by omega)]
  refine h.next hF (by rw [if_pos (by omega)]; omega) ?_ ?_
  · rw [e, List.length_cons]; omega
  · rw [e, h4]; exact h5.push
theorem STK.two {fg sk : Int → Int} {L A : GL} {o : Int × Int} {r : GL} {l : List Int} {i top : Int} (h : STK fg sk L A (o :: r) l i top) (ho : 2 ≤ o.1) : ∃ b a l', l = b :: a :: l' ∧ sk (top + (-1)) = b ∧ sk (top + (-1) - 1) = a ∧ gm_lt a ∧ gm_lt b ∧ 2 ≤ top := by
  obtain ⟨h1, h2, h3, h4, h5, ⟨h6, h6'⟩, h7, h8⟩ := id h
  match l, h4, h5, h6', h7 with
  | [], h4, h5, h6', h7 => simp at h6'; omega
  | [_], h4, h5, h6', h7 => simp at h6'; omega
  | b :: a :: l', h4, h5, h6', h7 =>
    obtain ⟨q1, q2⟩ := h5.pop
    obtain ⟨q3, q4⟩ := q2.pop
    simp only [List.length_cons] at h4 q1
    exact ⟨b, a, l', rfl, by rw [← q1]; exact congrArg sk (by omega), by rw [← q3]; exact congrArg sk (by omega), h7 a (by simp), h7 b (by simp), by omega⟩
theorem STK.op {fg sk : Int → Int} {L A : GL} {o : Int × Int} {r : GL} {l : List Int} {i top : Int} (h : STK fg sk L A (o :: r) l i top) (hF : ∀ i, 0 ≤ i → i ≤ 4 → gm_lt (fg i)) (ho : 2 ≤ o.1) {v : Int} (hv : v = gm_li 1000000 (gm_op o.1 (sk (top + (-1) - 1)) (sk (top + (-1))))) : STK fg (am_uI sk (top + (-1) - 1) v) L (A ++ [o]) r (gm_s1 fg o l) (i + 1) (top + (-1)) := by
  obtain ⟨b, a, l', rfl, hb, ha, -, -, -⟩ := h.two ho
  obtain ⟨h1, h2, h3, h4, h5, h6, h7, h8⟩ := id h
  have e : gm_s1 fg o (b :: a :: l') = v :: l' := by
    unfold gm_s1
    rw [if_neg (by omega), if_neg (by omega), hv, ha, hb]
  simp only [List.length_cons] at h4
  refine h.next hF (by rw [if_neg (by omega)]) ?_ ?_
  · rw [e, List.length_cons]; omega
  · rw [e, show top + (-1) - 1 = (l'.length : Int) by omega]
    exact (h5.pop.2.pop.2).push
theorem STK.ib {fg sk : Int → Int} {D : Int → Int} {L A r : GL} {l : List Int} {i top : Int} (h : STK fg sk L A r l i top) (hC : CO D L) (h4 : D 4 = 1) : i ≤ 1300 := by
  obtain ⟨h1, h2, -⟩ := id h
  rcases hC with ⟨c1, c2, c3⟩ | ⟨c1, c2, c3, c4, c5⟩
  · omega
  · rw [h1, gm_ed_app, List.length_append] at c3
    omega
theorem STK.i2 {fg sk : Int → Int} {D : Int → Int} {L A r : GL} {o : Int × Int} {l : List Int} {i top : Int} (h : STK fg sk L A (o :: r) l i top) (hC : CO D L) (h4 : D 4 = 1) (ho : o.1 ≤ 1) : i + 2 ≤ 1300 := by
  obtain ⟨h1, h2, -⟩ := id h
  rcases hC with ⟨c1, c2, c3⟩ | ⟨c1, c2, c3, c4, c5⟩
  · omega
  · rw [h1, gm_ed_app, List.length_append] at c3
    have e : gm_ed (o :: r) = [o.1, o.2] ++ gm_ed r := by
      show (if o.1 ≤ 1 then [o.1, o.2] else [o.1]) ++ gm_ed r = _
      rw [if_pos ho]
    rw [e, List.length_append] at c3
    simp only [List.length_cons, List.length_nil] at c3
    omega
theorem MM.keep13 {h h1 : AH} {n : Nat} {th bl tl ps er ea eo ud g0 g1 g2 g3 ns ne se : Int} {D : Int → Int} (k : MM h n th bl tl ps er ea eo ud g0 g1 g2 g3 ns ne se D) (f : am_fr h h1 (n + 13) (n + 14)) : MM h1 n th bl tl ps er ea eo ud g0 g1 g2 g3 ns ne se D := k.kept f (by omega)
theorem gm_sc_x {fg sk : Int → Int} {D : Int → Int} {L A r : GL} {l : List Int} {i top za s : Int} (hC : CO D L) (h : (D 5 = 0 ∧ i = 0 ∧ sk 0 = za + s) ∨ (D 4 = 1 ∧ STK fg sk L A r l i top)) (hi : D 5 ≤ i) (ha : fg 0 = za) (hs : fg 1 = s) (r1 : 0 ≤ za ∧ za ≤ 21600) (r2 : 0 ≤ s ∧ s ≤ 1980) : sk 0 = (gm_rn fg L []).headD 0 ∧ gm_lt (sk 0) := by
  rcases h with ⟨h1, h2, h3⟩ | ⟨h1, h2⟩
  · rcases hC with ⟨c1, c2, c3⟩ | ⟨c1, c2, c3, c4, c5⟩
    · rw [c3, gm_pln_rn, ha, hs, h3]
      have e : gm_li 1000000 (za + s) = za + s := gm_li_in ⟨by omega, by omega⟩
      rw [e]
      exact ⟨rfl, by unfold gm_lt; omega⟩
    · exfalso
      cases L with
      | nil => have c4 : (0 : Nat) = 1 := c4; omega
      | cons o r' =>
        have : 1 ≤ (gm_ed (o :: r')).length := by
          show 1 ≤ ((if o.1 ≤ 1 then [o.1, o.2] else [o.1]) ++ gm_ed r').length
          split <;> simp <;> omega
        omega
  · rcases hC with ⟨c1, c2, c3⟩ | ⟨c1, c2, c3, c4, c5⟩
    · omega
    · obtain ⟨v, v1, v2, v3⟩ := h2.done (by omega)
      rw [v1, v2]
      exact ⟨rfl, v3⟩

set_option maxHeartbeats 4000000 in
theorem c_X9_scoreOf {w : am_w} {h : AH} {n : Nat} {th bl tl ps er ea eo ud g0 g1 g2 g3 ns ne se : Int} {D : Int → Int} (hm : MM h n th bl tl ps er ea eo ud g0 g1 g2 g3 ns ne se D) (hD : VD D) {p : Int} (p0 : 0 ≤ p) (p1 : p < D 3) {cm : Int → Int} (hM : CMS D cm) {sk : Int → Int} (hk : h.1 (n + 13) = some (102, 1300, sk, am_N)) {L : GL} (hC : CO D L)  : AE w m_X9_scoreOf 9 [vr n, vi p] h (am_int (fun z h1 => z = gm_msc D cm L p ∧ -99999 ≤ z ∧ z ≤ 99999 ∧ (∃ sk', h1.1 (n + 13) = some (102, 1300, sk', am_N)) ∧ am_fr h h1 (n + 13) (n + 14))) := by
  refine AE.of wf_X9_scoreOf (Nat.le_of_ble_eq_true rfl) (am_ok_i) ?_
  obtain ⟨m0, m1⟩ := id hm
  have d0 := hD.1
  have d1 := hD.2.1
  have d2 := hD.2.2.1
  have d3 := hD.2.2.2.1
  have hn := hD.n p0 p1
  have hcl := hD.cl p0 p1
  refine q_blk (lv2 := [(0, vr n), (1, vi p), (2, vi 0)]) (st2 := [vi p, vr n]) kX9_scoreOf_0 rfl ?_
  refine q_Vi (av := [vi p]) (st := []) (c_X9_areaOf hm hD (by omega) (by omega)) lk_RX9_264 (by decide) rfl rfl hm.ob ⟨_, rfl, rfl⟩ (Nat.le_of_ble_eq_true rfl) eX9_scoreOf_4 (fun z1 e2 => ?_)
  have ab9 := e2.2
  obtain ⟨za, hza⟩ : ∃ q, q = z1 := ⟨_, rfl⟩
  have az := e2.1
  rw [← hza] at az ab9 ⊢
  refine q_blk (lv2 := [(0, vr n), (1, vi p), (2, vi 0), (3, vi za), (4, vi 0)]) (st2 := [vi p, vr n]) kX9_scoreOf_7 rfl ?_
  refine q_Vi (av := [vi p]) (st := []) (c_X9_dentsOf hm hD (by omega) (by omega)) lk_RX9_281 (by decide) rfl rfl hm.ob ⟨_, rfl, rfl⟩ (Nat.le_of_ble_eq_true rfl) eX9_scoreOf_13 (fun z3 e4 => ?_)
  have de9 := e4.2
  obtain ⟨zd, hzd⟩ : ∃ q, q = z3 := ⟨_, rfl⟩
  have dz := e4.1
  rw [← hzd] at dz de9 ⊢
  refine q_blk (lv2 := [(0, vr n), (1, vi p), (2, vi 0), (3, vi za), (4, vi 0), (5, vi zd)]) (st2 := [vr n]) kX9_scoreOf_16 rfl ?_
  have hD5 : 0 ≤ D 5 ∧ D 5 ≤ 1300 := by rcases hC with q | q; omega; omega
  have hD4 : 0 ≤ D 4 ∧ D 4 ≤ 1 := by rcases hC with q | q; omega; omega
  refine q_gr eX9_scoreOf_19 fl_RX9_17 (Or.inr ⟨_, rfl⟩) m0 rfl ?_
  refine q_blk (lv2 := [(0, vr n), (1, vi p), (2, vi 0), (3, vi za), (4, vi 0), (5, vi zd)]) (st2 := [vi 4, vr (n + 2)]) kX9_scoreOf_22 rfl ?_
  refine q_ia eX9_scoreOf_23 m1 (by decide) (by omega) (by omega) (z := (D 4)) rfl ?_
  refine q_blk (lv2 := [(0, vr n), (1, vi p), (2, vi 0), (3, vi za), (4, vi 0), (5, vi zd)]) (st2 := [vi 1, vi (D 4)]) kX9_scoreOf_24 rfl ?_
  have jn38 : ∀ (zi : Int), (D 4 = 1 → zi = gm_ca D p 2) ∧ (0 ≤ zi ∧ zi ≤ 961) → AQ w m_X9_scoreOf 9 38 [(0, vr n), (1, vi p), (2, vi 0), (3, vi za), (4, vi 0), (5, vi zd)] [vi zi] h (am_int (fun z h1 => z = gm_msc D cm L p ∧ -99999 ≤ z ∧ z ≤ 99999 ∧ (∃ sk', h1.1 (n + 13) = some (102, 1300, sk', am_N)) ∧ am_fr h h1 (n + 13) (n + 14))) := by
    intro zi hzi
    refine q_blk (lv2 := [(0, vr n), (1, vi p), (2, vi 0), (3, vi za), (4, vi 0), (5, vi zd), (6, vi zi), (7, vi 0)]) (st2 := []) kX9_scoreOf_38 rfl ?_
    refine am_lp2 (I := fun (s : Int) (k : Int) => (0 ≤ k ∧ k ≤ D 2) ∧ s = gm_sm (gm_if cm p (sV D)) k.toNat ∧ (0 ≤ s ∧ s ≤ 99 * k)) (μ := fun (s : Int) (k : Int) => (D 2 - k).toNat) (G := fun (s : Int) (k : Int) => AQ w m_X9_scoreOf 9 43 [(0, vr n), (1, vi p), (2, vi 0), (3, vi za), (4, vi s), (5, vi zd), (6, vi zi), (7, vi k)] [] h (am_int (fun z h1 => z = gm_msc D cm L p ∧ -99999 ≤ z ∧ z ≤ 99999 ∧ (∃ sk', h1.1 (n + 13) = some (102, 1300, sk', am_N)) ∧ am_fr h h1 (n + 13) (n + 14)))) ?_ 0 0 (⟨⟨by omega, by omega⟩, rfl, by omega⟩)
    intro s k hI6 ih5
    obtain ⟨⟨k0, k1⟩, hs, hr⟩ := hI6
    refine q_blk (lv2 := [(0, vr n), (1, vi p), (2, vi 0), (3, vi za), (4, vi s), (5, vi zd), (6, vi zi), (7, vi k)]) (st2 := [vr n, vi k]) kX9_scoreOf_43 rfl ?_
    refine q_gr eX9_scoreOf_46 fl_RX9_17 (Or.inr ⟨_, rfl⟩) m0 rfl ?_
    refine q_blk (lv2 := [(0, vr n), (1, vi p), (2, vi 0), (3, vi za), (4, vi s), (5, vi zd), (6, vi zi), (7, vi k)]) (st2 := [vi 2, vr (n + 2), vi k]) kX9_scoreOf_49 rfl ?_
    refine q_ia eX9_scoreOf_50 m1 (by decide) (by omega) (by omega) (z := (D 2)) rfl ?_
    refine AQ.ic_ge (tgt := 93) eX9_scoreOf_51 (by decide) (by first | assumption | exact ⟨by omega, by omega⟩) (by first | assumption | exact ⟨by omega, by omega⟩) (fun br7 => ?_) (fun br7 => ?_)
    · skip
      refine q_blk (lv2 := [(0, vr n), (1, vi p), (2, vi 0), (3, vi za), (4, vi s), (5, vi zd), (6, vi zi), (7, vi k)]) (st2 := [vr n]) kX9_scoreOf_93 rfl ?_
      have hs1 : s = gm_sm (gm_if cm p (sV D)) (D 2).toNat := by rw [hs, show k = D 2 by omega]
      obtain ⟨s1, es1⟩ : ∃ q, q = s := ⟨_, rfl⟩
      have hr1 : 0 ≤ s ∧ s ≤ 1980 := by omega
      refine q_gr eX9_scoreOf_94 fl_RX9_28 (Or.inr ⟨_, rfl⟩) m0 rfl ?_
      refine q_blk (lv2 := [(0, vr n), (1, vi p), (2, vi 0), (3, vi za), (4, vi s), (5, vi zd), (6, vi zi), (7, vi k)]) (st2 := [vi (za + s), vi 0, vr (n + 13)]) kX9_scoreOf_97 rfl ?_
      refine AQ.of (AS.i2l eX9_scoreOf_102 (by first | assumption | exact ⟨by omega, by omega⟩)) ?_
      refine q_ls eX9_scoreOf_103 hk (by omega) (by omega) (fun h8 e9 => ?_)
      have k10 := (am_ne e9 n (by omega)).trans m0
      have k11 := (am_ne e9 (n + 2) (by omega)).trans m1
      have k12 := am_at e9
      refine q_blk (lv2 := [(0, vr n), (1, vi p), (2, vi 0), (3, vi za), (4, vi s), (5, vi zd), (6, vi zi), (7, vi 0)]) (st2 := []) kX9_scoreOf_104 rfl ?_
      refine am_lp7 (I := fun (tp : Int) (i : Int) (hh : AH) (s9 : Int → Int) (A9 : GL) (r9 : GL) (l9 : List Int) => (0 ≤ i ∧ 0 ≤ tp) ∧ am_fr h hh (n + 13) (n + 14) ∧ hh.1 (n + 13) = some (102, 1300, s9, am_N) ∧ ((D 5 = 0 ∧ i = 0 ∧ s9 0 = za + s) ∨ (D 4 = 1 ∧ STK (gm_fgm D cm p) s9 L A9 r9 l9 i tp))) (μ := fun (tp : Int) (i : Int) (hh : AH) (s9 : Int → Int) (A9 : GL) (r9 : GL) (l9 : List Int) => (D 5 - i).toNat) (G := fun (tp : Int) (i : Int) (hh : AH) (s9 : Int → Int) (A9 : GL) (r9 : GL) (l9 : List Int) => AQ w m_X9_scoreOf 9 107 [(0, vr n), (1, vi p), (2, vi tp), (3, vi za), (4, vi s), (5, vi zd), (6, vi zi), (7, vi i)] [] hh (am_int (fun z h1 => z = gm_msc D cm L p ∧ -99999 ≤ z ∧ z ≤ 99999 ∧ (∃ sk', h1.1 (n + 13) = some (102, 1300, sk', am_N)) ∧ am_fr h h1 (n + 13) (n + 14)))) ?_ 0 0 h8 (am_uI sk 0 (za + s)) [] L [] (⟨⟨by omega, by omega⟩, am_fr.st e9 (by omega) (by omega), k12, by
    rcases hC with ⟨c1, c2, c3⟩ | ⟨c1, c2, c3, c4, c5⟩
    · exact Or.inl ⟨c2, rfl, am_uI_at _ _ _⟩
    · exact Or.inr ⟨c1, rfl, rfl, rfl, rfl, fun k v q => by simp at q, c4, fun v q => by simp at q, by decide⟩⟩)
      intro tp i hh s9 A9 r9 l9 hI14 ih13
      obtain ⟨i0, hf9, hk9, hI9⟩ := hI14
      obtain ⟨m0', m1'⟩ := id (hm.kept hf9 (by omega))
      have hib : i ≤ 1300 := by rcases hI9 with q | ⟨q', q⟩; omega; exact q.ib hC (by omega)
      refine q_blk (lv2 := [(0, vr n), (1, vi p), (2, vi tp), (3, vi za), (4, vi s), (5, vi zd), (6, vi zi), (7, vi i)]) (st2 := [vr n, vi i]) kX9_scoreOf_107 rfl ?_
      refine q_gr eX9_scoreOf_110 fl_RX9_17 (Or.inr ⟨_, rfl⟩) m0' rfl ?_
      refine q_blk (lv2 := [(0, vr n), (1, vi p), (2, vi tp), (3, vi za), (4, vi s), (5, vi zd), (6, vi zi), (7, vi i)]) (st2 := [vi 5, vr (n + 2), vi i]) kX9_scoreOf_113 rfl ?_
      refine q_ia eX9_scoreOf_114 m1' (by decide) (by omega) (by omega) (z := (D 5)) rfl ?_
      refine AQ.ic_ge (tgt := 264) eX9_scoreOf_115 (by decide) (by first | assumption | exact ⟨by omega, by omega⟩) (by first | assumption | exact ⟨by omega, by omega⟩) (fun br15 => ?_) (fun br15 => ?_)
      · skip
        refine q_blk (lv2 := [(0, vr n), (1, vi p), (2, vi tp), (3, vi za), (4, vi s), (5, vi zd), (6, vi zi), (7, vi i)]) (st2 := [vr n]) kX9_scoreOf_264 rfl ?_
        refine q_gr eX9_scoreOf_265 fl_RX9_28 (Or.inr ⟨_, rfl⟩) m0' rfl ?_
        have hV := gm_sc_x (fg := gm_fgm D cm p) hC hI9 (by omega) (show gm_fgm D cm p 0 = za by unfold gm_fgm; rw [if_pos rfl]; omega) (show gm_fgm D cm p 1 = s by unfold gm_fgm; rw [if_neg (by decide), if_pos rfl]; omega) (by omega) (by omega)
        have hV2 := hV.2
        unfold gm_lt at hV2
        refine q_blk (lv2 := [(0, vr n), (1, vi p), (2, vi tp), (3, vi za), (4, vi s), (5, vi zd), (6, vi zi), (7, vi i)]) (st2 := [vi 0, vr (n + 13)]) kX9_scoreOf_268 rfl ?_
        refine q_la eX9_scoreOf_269 hk9 (by omega) (by omega) (z := (s9 0)) rfl ?_
        refine AQ.of (AS.ldc2 (z := (-99999)) eX9_scoreOf_270 (am_gw 1551 (by decide +kernel) (by decide +kernel))) ?_
        refine AQ.of (AS.lcmp eX9_scoreOf_273 (by first | assumption | exact ⟨by omega, by omega⟩) (by first | assumption | exact ⟨by omega, by omega⟩)) ?_
        have c16 := am_cmp_r (s9 0) (-99999)
        refine AQ.if_ge (tgt := 283) eX9_scoreOf_274 (by decide) (by first | assumption | exact ⟨by omega, by omega⟩) (fun br17 => ?_) (fun br17 => ?_)
        · skip
          refine q_blk (lv2 := [(0, vr n), (1, vi p), (2, vi tp), (3, vi za), (4, vi s), (5, vi zd), (6, vi zi), (7, vi i)]) (st2 := [vr n]) kX9_scoreOf_283 rfl ?_
          refine q_gr eX9_scoreOf_284 fl_RX9_28 (Or.inr ⟨_, rfl⟩) m0' rfl ?_
          refine q_blk (lv2 := [(0, vr n), (1, vi p), (2, vi tp), (3, vi za), (4, vi s), (5, vi zd), (6, vi zi), (7, vi i)]) (st2 := [vi 0, vr (n + 13)]) kX9_scoreOf_287 rfl ?_
          refine q_la eX9_scoreOf_288 hk9 (by omega) (by omega) (z := (s9 0)) rfl ?_
          refine AQ.of (AS.ldc2 (z := 99999) eX9_scoreOf_289 (am_gw 1553 (by decide +kernel) (by decide +kernel))) ?_
          refine AQ.of (AS.lcmp eX9_scoreOf_292 (by first | assumption | exact ⟨by omega, by omega⟩) (by first | assumption | exact ⟨by omega, by omega⟩)) ?_
          have c18 := am_cmp_r (s9 0) 99999
          refine AQ.if_le (tgt := 302) eX9_scoreOf_293 (by decide) (by first | assumption | exact ⟨by omega, by omega⟩) (fun br19 => ?_) (fun br19 => ?_)
          · skip
            refine q_blk (lv2 := [(0, vr n), (1, vi p), (2, vi tp), (3, vi za), (4, vi s), (5, vi zd), (6, vi zi), (7, vi i)]) (st2 := [vr n]) kX9_scoreOf_302 rfl ?_
            refine q_gr eX9_scoreOf_303 fl_RX9_28 (Or.inr ⟨_, rfl⟩) m0' rfl ?_
            refine q_blk (lv2 := [(0, vr n), (1, vi p), (2, vi tp), (3, vi za), (4, vi s), (5, vi zd), (6, vi zi), (7, vi i)]) (st2 := [vi 0, vr (n + 13)]) kX9_scoreOf_306 rfl ?_
            refine q_la eX9_scoreOf_307 hk9 (by omega) (by omega) (z := (s9 0)) rfl ?_
            refine AQ.of (AS.l2i eX9_scoreOf_308) ?_
            exact q_ri rfl eX9_scoreOf_309 ⟨(s9 0), rfl, (by unfold gm_msc; rw [← hV.1]; unfold gm_li; (repeat' split) <;> omega), by omega, by omega, ⟨_, hk9⟩, hf9⟩
          · skip
            refine AQ.of (AS.ldcw (z := 99999) eX9_scoreOf_296 (am_gw 1554 (by decide +kernel) (by decide +kernel))) ?_
            refine q_goto (tgt := 309) eX9_scoreOf_299 (by decide) ?_
            exact q_ri rfl eX9_scoreOf_309 ⟨99999, rfl, (by unfold gm_msc; rw [← hV.1]; unfold gm_li; (repeat' split) <;> omega), by omega, by omega, ⟨_, hk9⟩, hf9⟩
        · skip
          refine AQ.of (AS.ldcw (z := (-99999)) eX9_scoreOf_277 (am_gw 1552 (by decide +kernel) (by decide +kernel))) ?_
          refine q_goto (tgt := 309) eX9_scoreOf_280 (by decide) ?_
          exact q_ri rfl eX9_scoreOf_309 ⟨(-99999), rfl, (by unfold gm_msc; rw [← hV.1]; unfold gm_li; (repeat' split) <;> omega), by omega, by omega, ⟨_, hk9⟩, hf9⟩
      · skip
        refine q_blk (lv2 := [(0, vr n), (1, vi p), (2, vi tp), (3, vi za), (4, vi s), (5, vi zd), (6, vi zi), (7, vi i)]) (st2 := [vr n]) kX9_scoreOf_118 rfl ?_
        obtain ⟨q41, hST⟩ := hI9.resolve_left (fun q => by have := q.1; have := q.2.1; omega)
        obtain ⟨c1, c2, c3, c4, c5⟩ := hC.resolve_left (fun q => by have := q.1; omega)
        obtain ⟨o9, r8, er, ho1, ho2, hok⟩ := hST.here (by omega) c5
        subst er
        have ht9 := hST.2.2.2.1
        have h16 := hST.2.2.2.2.2.2.2
        have zi9 := hzi.1 q41
        have hF9 : ∀ i, 0 ≤ i → i ≤ 4 → gm_lt (gm_fgm D cm p i) := fun i q0 q1 => by unfold gm_fgm gm_lt; (repeat' split) <;> omega
        have hok' : (o9.1 = 0 ∧ 0 ≤ o9.2 ∧ o9.2 ≤ 9999) ∨ (o9.1 = 1 ∧ 0 ≤ o9.2 ∧ o9.2 ≤ 4) ∨ (2 ≤ o9.1 ∧ o9.1 ≤ 5) := hok
        refine q_gr eX9_scoreOf_119 fl_RX9_17 (Or.inr ⟨_, rfl⟩) m0' rfl ?_
        refine q_blk (lv2 := [(0, vr n), (1, vi p), (2, vi tp), (3, vi za), (4, vi s), (5, vi zd), (6, vi zi), (7, vi i)]) (st2 := [vi (228 + i), vr (n + 2)]) kX9_scoreOf_122 rfl ?_
        refine q_ia eX9_scoreOf_128 m1' (by decide) (by omega) (by omega) (z := (D (228 + i))) rfl ?_
        refine q_blk (lv2 := [(0, vr n), (1, vi p), (2, vi tp), (3, vi za), (4, vi s), (5, vi zd), (6, vi zi), (7, vi i), (8, vi (D (228 + i)))]) (st2 := [vi 1, vi (D (228 + i))]) kX9_scoreOf_129 rfl ?_
        refine AQ.ic_gt (tgt := 228) eX9_scoreOf_134 (by decide) (by first | assumption | exact ⟨by omega, by omega⟩) ⟨by decide, by decide⟩ (fun br20 => ?_) (fun br20 => ?_)
        · skip
          refine q_blk (lv2 := [(0, vr n), (1, vi p), (2, vi (tp + (-1))), (3, vi za), (4, vi s), (5, vi zd), (6, vi zi), (7, vi i), (8, vi (D (228 + i)))]) (st2 := [vr n]) kX9_scoreOf_228 rfl ?_
          refine q_gr eX9_scoreOf_232 fl_RX9_28 (Or.inr ⟨_, rfl⟩) m0' rfl ?_
          refine q_blk (lv2 := [(0, vr n), (1, vi p), (2, vi (tp + (-1))), (3, vi za), (4, vi s), (5, vi zd), (6, vi zi), (7, vi i), (8, vi (D (228 + i)))]) (st2 := [vr n, vi (D (228 + i)), vi ((tp + (-1)) - 1), vr (n + 13)]) kX9_scoreOf_235 rfl ?_
          obtain ⟨b9, a9, l8, el, hb9, ha9, lt1, lt2, tp2⟩ := hST.two (by omega)
          rw [← ha9] at lt1
          rw [← hb9] at lt2
          refine q_gr eX9_scoreOf_241 fl_RX9_28 (Or.inr ⟨_, rfl⟩) m0' rfl ?_
          refine q_blk (lv2 := [(0, vr n), (1, vi p), (2, vi (tp + (-1))), (3, vi za), (4, vi s), (5, vi zd), (6, vi zi), (7, vi i), (8, vi (D (228 + i)))]) (st2 := [vi ((tp + (-1)) - 1), vr (n + 13), vi (D (228 + i)), vi ((tp + (-1)) - 1), vr (n + 13)]) kX9_scoreOf_244 rfl ?_
          refine q_la eX9_scoreOf_247 hk9 (by omega) (by omega) (z := (s9 ((tp + (-1)) - 1))) rfl ?_
          refine q_blk (lv2 := [(0, vr n), (1, vi p), (2, vi (tp + (-1))), (3, vi za), (4, vi s), (5, vi zd), (6, vi zi), (7, vi i), (8, vi (D (228 + i)))]) (st2 := [vr n, vl (s9 ((tp + (-1)) - 1)), vi (D (228 + i)), vi ((tp + (-1)) - 1), vr (n + 13)]) kX9_scoreOf_248 rfl ?_
          refine q_gr eX9_scoreOf_249 fl_RX9_28 (Or.inr ⟨_, rfl⟩) m0' rfl ?_
          refine q_blk (lv2 := [(0, vr n), (1, vi p), (2, vi (tp + (-1))), (3, vi za), (4, vi s), (5, vi zd), (6, vi zi), (7, vi i), (8, vi (D (228 + i)))]) (st2 := [vi (tp + (-1)), vr (n + 13), vl (s9 ((tp + (-1)) - 1)), vi (D (228 + i)), vi ((tp + (-1)) - 1), vr (n + 13)]) kX9_scoreOf_252 rfl ?_
          refine q_la eX9_scoreOf_253 hk9 (by omega) (by omega) (z := (s9 (tp + (-1)))) rfl ?_
          refine q_Sl (av := [vi (D (228 + i)), vl (s9 ((tp + (-1)) - 1)), vl (s9 (tp + (-1)))]) (st := [vi ((tp + (-1)) - 1), vr (n + 13)]) (c_X9_operate (by omega) lt1 lt2) lk_RX9_287 (by decide) rfl rfl (Nat.le_of_ble_eq_true rfl) eX9_scoreOf_254 (fun z21 e22 => ?_)
          subst e22
          refine q_ls eX9_scoreOf_257 hk9 (by omega) (by omega) (fun h23 e24 => ?_)
          have k25 := (am_ne e24 n (by omega)).trans m0'
          have k26 := (am_ne e24 (n + 2) (by omega)).trans m1'
          have k27 := am_at e24
          refine q_blk (lv2 := [(0, vr n), (1, vi p), (2, vi (tp + (-1))), (3, vi za), (4, vi s), (5, vi zd), (6, vi zi), (7, vi (i + 1)), (8, vi (D (228 + i)))]) (st2 := []) kX9_scoreOf_258 rfl ?_
          refine q_goto (tgt := 107) eX9_scoreOf_261 (by decide) ?_
          refine q_sub (lv2 := [(0, vr n), (1, vi p), (2, vi (tp + (-1))), (3, vi za), (4, vi s), (5, vi zd), (6, vi zi), (7, vi (i + 1))]) [0, 1, 2, 3, 4, 5, 6, 7] rfl ?_
          exact ih13 (tp + (-1)) (i + 1) h23 (am_uI s9 ((tp + (-1)) - 1) (gm_li 1000000 (gm_op (D (228 + i)) (s9 ((tp + (-1)) - 1)) (s9 (tp + (-1)))))) (A9 ++ [o9]) r8 (gm_s1 (gm_fgm D cm p) o9 l9) (⟨⟨by omega, by omega⟩, hf9.tr (am_fr.st e24 (by omega) (by omega)), k27, Or.inr ⟨q41, hST.op hF9 (by omega) (by rw [ho1])⟩⟩) (by omega)
        · skip
          refine q_blk (lv2 := [(0, vr n), (1, vi p), (2, vi tp), (3, vi za), (4, vi s), (5, vi zd), (6, vi zi), (7, vi (i + 1)), (8, vi (D (228 + i)))]) (st2 := [vr n]) kX9_scoreOf_137 rfl ?_
          have ho3 := ho2 (by omega)
          have hi3 := hST.i2 hC q41 (by omega)
          refine q_gr eX9_scoreOf_141 fl_RX9_17 (Or.inr ⟨_, rfl⟩) m0' rfl ?_
          refine q_blk (lv2 := [(0, vr n), (1, vi p), (2, vi tp), (3, vi za), (4, vi s), (5, vi zd), (6, vi zi), (7, vi (i + 1)), (8, vi (D (228 + i)))]) (st2 := [vi (228 + (i + 1)), vr (n + 2)]) kX9_scoreOf_144 rfl ?_
          refine q_ia eX9_scoreOf_150 m1' (by decide) (by omega) (by omega) (z := (D (228 + (i + 1)))) rfl ?_
          refine q_blk (lv2 := [(0, vr n), (1, vi p), (2, vi tp), (3, vi za), (4, vi s), (5, vi zd), (6, vi zi), (7, vi (i + 1)), (8, vi (D (228 + i))), (9, vi (D (228 + (i + 1))))]) (st2 := [vr n]) kX9_scoreOf_151 rfl ?_
          refine q_gr eX9_scoreOf_154 fl_RX9_28 (Or.inr ⟨_, rfl⟩) m0' rfl ?_
          refine q_blk (lv2 := [(0, vr n), (1, vi p), (2, vi tp), (3, vi za), (4, vi s), (5, vi zd), (6, vi zi), (7, vi (i + 1)), (8, vi (D (228 + i))), (9, vi (D (228 + (i + 1))))]) (st2 := [vi (D (228 + i)), vi tp, vr (n + 13)]) kX9_scoreOf_157 rfl ?_
          refine AQ.if_ne (tgt := 169) eX9_scoreOf_160 (by decide) (by first | assumption | exact ⟨by omega, by omega⟩) (fun br28 => ?_) (fun br28 => ?_)
          · skip
            refine q_blk (lv2 := [(0, vr n), (1, vi p), (2, vi tp), (3, vi za), (4, vi s), (5, vi zd), (6, vi zi), (7, vi (i + 1)), (8, vi (D (228 + i))), (9, vi (D (228 + (i + 1))))]) (st2 := [vi (D (228 + (i + 1))), vi tp, vr (n + 13)]) kX9_scoreOf_169 rfl ?_
            refine AQ.if_ne (tgt := 179) eX9_scoreOf_171 (by decide) (by first | assumption | exact ⟨by omega, by omega⟩) (fun br29 => ?_) (fun br29 => ?_)
            · skip
              refine q_blk (lv2 := [(0, vr n), (1, vi p), (2, vi tp), (3, vi za), (4, vi s), (5, vi zd), (6, vi zi), (7, vi (i + 1)), (8, vi (D (228 + i))), (9, vi (D (228 + (i + 1))))]) (st2 := [vi 1, vi (D (228 + (i + 1))), vi tp, vr (n + 13)]) kX9_scoreOf_179 rfl ?_
              refine AQ.ic_ne (tgt := 191) eX9_scoreOf_182 (by decide) (by first | assumption | exact ⟨by omega, by omega⟩) ⟨by decide, by decide⟩ (fun br30 => ?_) (fun br30 => ?_)
              · skip
                refine q_blk (lv2 := [(0, vr n), (1, vi p), (2, vi tp), (3, vi za), (4, vi s), (5, vi zd), (6, vi zi), (7, vi (i + 1)), (8, vi (D (228 + i))), (9, vi (D (228 + (i + 1))))]) (st2 := [vi 2, vi (D (228 + (i + 1))), vi tp, vr (n + 13)]) kX9_scoreOf_191 rfl ?_
                refine AQ.ic_ne (tgt := 206) eX9_scoreOf_194 (by decide) (by first | assumption | exact ⟨by omega, by omega⟩) ⟨by decide, by decide⟩ (fun br31 => ?_) (fun br31 => ?_)
                · skip
                  refine q_blk (lv2 := [(0, vr n), (1, vi p), (2, vi tp), (3, vi za), (4, vi s), (5, vi zd), (6, vi zi), (7, vi (i + 1)), (8, vi (D (228 + i))), (9, vi (D (228 + (i + 1))))]) (st2 := [vi 3, vi (D (228 + (i + 1))), vi tp, vr (n + 13)]) kX9_scoreOf_206 rfl ?_
                  refine AQ.ic_ne (tgt := 218) eX9_scoreOf_209 (by decide) (by first | assumption | exact ⟨by omega, by omega⟩) ⟨by decide, by decide⟩ (fun br32 => ?_) (fun br32 => ?_)
                  · skip
                    refine q_blk (lv2 := [(0, vr n), (1, vi p), (2, vi tp), (3, vi za), (4, vi s), (5, vi zd), (6, vi zi), (7, vi (i + 1)), (8, vi (D (228 + i))), (9, vi (D (228 + (i + 1))))]) (st2 := [vi zi, vi tp, vr (n + 13)]) kX9_scoreOf_218 rfl ?_
                    refine AQ.of (AS.i2l eX9_scoreOf_220 (by first | assumption | exact ⟨by omega, by omega⟩)) ?_
                    refine q_ls eX9_scoreOf_221 hk9 (by omega) (by omega) (fun h33 e34 => ?_)
                    have k35 := (am_ne e34 n (by omega)).trans m0'
                    have k36 := (am_ne e34 (n + 2) (by omega)).trans m1'
                    have k37 := am_at e34
                    refine q_blk (lv2 := [(0, vr n), (1, vi p), (2, vi (tp + 1)), (3, vi za), (4, vi s), (5, vi zd), (6, vi zi), (7, vi (i + 1)), (8, vi (D (228 + i))), (9, vi (D (228 + (i + 1))))]) (st2 := []) kX9_scoreOf_222 rfl ?_
                    refine q_goto (tgt := 258) eX9_scoreOf_225 (by decide) ?_
                    refine q_blk (lv2 := [(0, vr n), (1, vi p), (2, vi (tp + 1)), (3, vi za), (4, vi s), (5, vi zd), (6, vi zi), (7, vi ((i + 1) + 1)), (8, vi (D (228 + i))), (9, vi (D (228 + (i + 1))))]) (st2 := []) kX9_scoreOf_258 rfl ?_
                    refine q_goto (tgt := 107) eX9_scoreOf_261 (by decide) ?_
                    refine q_sub (lv2 := [(0, vr n), (1, vi p), (2, vi (tp + 1)), (3, vi za), (4, vi s), (5, vi zd), (6, vi zi), (7, vi ((i + 1) + 1))]) [0, 1, 2, 3, 4, 5, 6, 7] rfl ?_
                    exact ih13 (tp + 1) ((i + 1) + 1) h33 (am_uI s9 tp zi) (A9 ++ [o9]) r8 (gm_s1 (gm_fgm D cm p) o9 l9) (⟨⟨by omega, by omega⟩, hf9.tr (am_fr.st e34 (by omega) (by omega)), k37, Or.inr ⟨q41, hST.psh hF9 (by omega) (by first | (rw [if_pos (by omega)]; omega) | (rw [if_neg (by omega)]; unfold gm_fgm; first | (rw [if_pos (by omega)]; omega) | (rw [if_neg (by omega), if_pos (by omega)]; omega) | (rw [if_neg (by omega), if_neg (by omega), if_pos (by omega)]) | (rw [if_neg (by omega), if_neg (by omega), if_neg (by omega), if_pos (by omega)]; omega) | (rw [if_neg (by omega), if_neg (by omega), if_neg (by omega), if_neg (by omega)]; omega)))⟩⟩) (by omega)
                  · skip
                    refine q_blk (lv2 := [(0, vr n), (1, vi p), (2, vi tp), (3, vi za), (4, vi s), (5, vi zd), (6, vi zi), (7, vi (i + 1)), (8, vi (D (228 + i))), (9, vi (D (228 + (i + 1))))]) (st2 := [vi zd, vi tp, vr (n + 13)]) kX9_scoreOf_212 rfl ?_
                    refine AQ.of (AS.i2l eX9_scoreOf_214 (by first | assumption | exact ⟨by omega, by omega⟩)) ?_
                    refine q_goto (tgt := 221) eX9_scoreOf_215 (by decide) ?_
                    refine q_ls eX9_scoreOf_221 hk9 (by omega) (by omega) (fun h38 e39 => ?_)
                    have k40 := (am_ne e39 n (by omega)).trans m0'
                    have k41 := (am_ne e39 (n + 2) (by omega)).trans m1'
                    have k42 := am_at e39
                    refine q_blk (lv2 := [(0, vr n), (1, vi p), (2, vi (tp + 1)), (3, vi za), (4, vi s), (5, vi zd), (6, vi zi), (7, vi (i + 1)), (8, vi (D (228 + i))), (9, vi (D (228 + (i + 1))))]) (st2 := []) kX9_scoreOf_222 rfl ?_
                    refine q_goto (tgt := 258) eX9_scoreOf_225 (by decide) ?_
                    refine q_blk (lv2 := [(0, vr n), (1, vi p), (2, vi (tp + 1)), (3, vi za), (4, vi s), (5, vi zd), (6, vi zi), (7, vi ((i + 1) + 1)), (8, vi (D (228 + i))), (9, vi (D (228 + (i + 1))))]) (st2 := []) kX9_scoreOf_258 rfl ?_
                    refine q_goto (tgt := 107) eX9_scoreOf_261 (by decide) ?_
                    refine q_sub (lv2 := [(0, vr n), (1, vi p), (2, vi (tp + 1)), (3, vi za), (4, vi s), (5, vi zd), (6, vi zi), (7, vi ((i + 1) + 1))]) [0, 1, 2, 3, 4, 5, 6, 7] rfl ?_
                    exact ih13 (tp + 1) ((i + 1) + 1) h38 (am_uI s9 tp zd) (A9 ++ [o9]) r8 (gm_s1 (gm_fgm D cm p) o9 l9) (⟨⟨by omega, by omega⟩, hf9.tr (am_fr.st e39 (by omega) (by omega)), k42, Or.inr ⟨q41, hST.psh hF9 (by omega) (by first | (rw [if_pos (by omega)]; omega) | (rw [if_neg (by omega)]; unfold gm_fgm; first | (rw [if_pos (by omega)]; omega) | (rw [if_neg (by omega), if_pos (by omega)]; omega) | (rw [if_neg (by omega), if_neg (by omega), if_pos (by omega)]) | (rw [if_neg (by omega), if_neg (by omega), if_neg (by omega), if_pos (by omega)]; omega) | (rw [if_neg (by omega), if_neg (by omega), if_neg (by omega), if_neg (by omega)]; omega)))⟩⟩) (by omega)
                · skip
                  refine q_blk (lv2 := [(0, vr n), (1, vi p), (2, vi tp), (3, vi za), (4, vi s), (5, vi zd), (6, vi zi), (7, vi (i + 1)), (8, vi (D (228 + i))), (9, vi (D (228 + (i + 1))))]) (st2 := [vi p, vr n, vi tp, vr (n + 13)]) kX9_scoreOf_197 rfl ?_
                  refine q_Vi (av := [vi p]) (st := [vi tp, vr (n + 13)]) (c_X9_countOf (hm.kept hf9 (by omega)) hD (by omega) (by omega)) lk_RX9_39 (by decide) rfl rfl (hm.kept hf9 (by omega)).ob ⟨_, rfl, rfl⟩ (Nat.le_of_ble_eq_true rfl) eX9_scoreOf_199 (fun z43 e44 => ?_)
                  subst e44
                  refine AQ.of (AS.i2l eX9_scoreOf_202 (by first | assumption | exact ⟨by omega, by omega⟩)) ?_
                  refine q_goto (tgt := 221) eX9_scoreOf_203 (by decide) ?_
                  refine q_ls eX9_scoreOf_221 hk9 (by omega) (by omega) (fun h45 e46 => ?_)
                  have k47 := (am_ne e46 n (by omega)).trans m0'
                  have k48 := (am_ne e46 (n + 2) (by omega)).trans m1'
                  have k49 := am_at e46
                  refine q_blk (lv2 := [(0, vr n), (1, vi p), (2, vi (tp + 1)), (3, vi za), (4, vi s), (5, vi zd), (6, vi zi), (7, vi (i + 1)), (8, vi (D (228 + i))), (9, vi (D (228 + (i + 1))))]) (st2 := []) kX9_scoreOf_222 rfl ?_
                  refine q_goto (tgt := 258) eX9_scoreOf_225 (by decide) ?_
                  refine q_blk (lv2 := [(0, vr n), (1, vi p), (2, vi (tp + 1)), (3, vi za), (4, vi s), (5, vi zd), (6, vi zi), (7, vi ((i + 1) + 1)), (8, vi (D (228 + i))), (9, vi (D (228 + (i + 1))))]) (st2 := []) kX9_scoreOf_258 rfl ?_
                  refine q_goto (tgt := 107) eX9_scoreOf_261 (by decide) ?_
                  refine q_sub (lv2 := [(0, vr n), (1, vi p), (2, vi (tp + 1)), (3, vi za), (4, vi s), (5, vi zd), (6, vi zi), (7, vi ((i + 1) + 1))]) [0, 1, 2, 3, 4, 5, 6, 7] rfl ?_
                  exact ih13 (tp + 1) ((i + 1) + 1) h45 (am_uI s9 tp (pN D p)) (A9 ++ [o9]) r8 (gm_s1 (gm_fgm D cm p) o9 l9) (⟨⟨by omega, by omega⟩, hf9.tr (am_fr.st e46 (by omega) (by omega)), k49, Or.inr ⟨q41, hST.psh hF9 (by omega) (by first | (rw [if_pos (by omega)]; omega) | (rw [if_neg (by omega)]; unfold gm_fgm; first | (rw [if_pos (by omega)]; omega) | (rw [if_neg (by omega), if_pos (by omega)]; omega) | (rw [if_neg (by omega), if_neg (by omega), if_pos (by omega)]) | (rw [if_neg (by omega), if_neg (by omega), if_neg (by omega), if_pos (by omega)]; omega) | (rw [if_neg (by omega), if_neg (by omega), if_neg (by omega), if_neg (by omega)]; omega)))⟩⟩) (by omega)
              · skip
                refine q_blk (lv2 := [(0, vr n), (1, vi p), (2, vi tp), (3, vi za), (4, vi s), (5, vi zd), (6, vi zi), (7, vi (i + 1)), (8, vi (D (228 + i))), (9, vi (D (228 + (i + 1))))]) (st2 := [vi s, vi tp, vr (n + 13)]) kX9_scoreOf_185 rfl ?_
                refine AQ.of (AS.i2l eX9_scoreOf_187 (by first | assumption | exact ⟨by omega, by omega⟩)) ?_
                refine q_goto (tgt := 221) eX9_scoreOf_188 (by decide) ?_
                refine q_ls eX9_scoreOf_221 hk9 (by omega) (by omega) (fun h50 e51 => ?_)
                have k52 := (am_ne e51 n (by omega)).trans m0'
                have k53 := (am_ne e51 (n + 2) (by omega)).trans m1'
                have k54 := am_at e51
                refine q_blk (lv2 := [(0, vr n), (1, vi p), (2, vi (tp + 1)), (3, vi za), (4, vi s), (5, vi zd), (6, vi zi), (7, vi (i + 1)), (8, vi (D (228 + i))), (9, vi (D (228 + (i + 1))))]) (st2 := []) kX9_scoreOf_222 rfl ?_
                refine q_goto (tgt := 258) eX9_scoreOf_225 (by decide) ?_
                refine q_blk (lv2 := [(0, vr n), (1, vi p), (2, vi (tp + 1)), (3, vi za), (4, vi s), (5, vi zd), (6, vi zi), (7, vi ((i + 1) + 1)), (8, vi (D (228 + i))), (9, vi (D (228 + (i + 1))))]) (st2 := []) kX9_scoreOf_258 rfl ?_
                refine q_goto (tgt := 107) eX9_scoreOf_261 (by decide) ?_
                refine q_sub (lv2 := [(0, vr n), (1, vi p), (2, vi (tp + 1)), (3, vi za), (4, vi s), (5, vi zd), (6, vi zi), (7, vi ((i + 1) + 1))]) [0, 1, 2, 3, 4, 5, 6, 7] rfl ?_
                exact ih13 (tp + 1) ((i + 1) + 1) h50 (am_uI s9 tp s) (A9 ++ [o9]) r8 (gm_s1 (gm_fgm D cm p) o9 l9) (⟨⟨by omega, by omega⟩, hf9.tr (am_fr.st e51 (by omega) (by omega)), k54, Or.inr ⟨q41, hST.psh hF9 (by omega) (by first | (rw [if_pos (by omega)]; omega) | (rw [if_neg (by omega)]; unfold gm_fgm; first | (rw [if_pos (by omega)]; omega) | (rw [if_neg (by omega), if_pos (by omega)]; omega) | (rw [if_neg (by omega), if_neg (by omega), if_pos (by omega)]) | (rw [if_neg (by omega), if_neg (by omega), if_neg (by omega), if_pos (by omega)]; omega) | (rw [if_neg (by omega), if_neg (by omega), if_neg (by omega), if_neg (by omega)]; omega)))⟩⟩) (by omega)
            · skip
              refine q_blk (lv2 := [(0, vr n), (1, vi p), (2, vi tp), (3, vi za), (4, vi s), (5, vi zd), (6, vi zi), (7, vi (i + 1)), (8, vi (D (228 + i))), (9, vi (D (228 + (i + 1))))]) (st2 := [vi za, vi tp, vr (n + 13)]) kX9_scoreOf_174 rfl ?_
              refine AQ.of (AS.i2l eX9_scoreOf_175 (by first | assumption | exact ⟨by omega, by omega⟩)) ?_
              refine q_goto (tgt := 221) eX9_scoreOf_176 (by decide) ?_
              refine q_ls eX9_scoreOf_221 hk9 (by omega) (by omega) (fun h55 e56 => ?_)
              have k57 := (am_ne e56 n (by omega)).trans m0'
              have k58 := (am_ne e56 (n + 2) (by omega)).trans m1'
              have k59 := am_at e56
              refine q_blk (lv2 := [(0, vr n), (1, vi p), (2, vi (tp + 1)), (3, vi za), (4, vi s), (5, vi zd), (6, vi zi), (7, vi (i + 1)), (8, vi (D (228 + i))), (9, vi (D (228 + (i + 1))))]) (st2 := []) kX9_scoreOf_222 rfl ?_
              refine q_goto (tgt := 258) eX9_scoreOf_225 (by decide) ?_
              refine q_blk (lv2 := [(0, vr n), (1, vi p), (2, vi (tp + 1)), (3, vi za), (4, vi s), (5, vi zd), (6, vi zi), (7, vi ((i + 1) + 1)), (8, vi (D (228 + i))), (9, vi (D (228 + (i + 1))))]) (st2 := []) kX9_scoreOf_258 rfl ?_
              refine q_goto (tgt := 107) eX9_scoreOf_261 (by decide) ?_
              refine q_sub (lv2 := [(0, vr n), (1, vi p), (2, vi (tp + 1)), (3, vi za), (4, vi s), (5, vi zd), (6, vi zi), (7, vi ((i + 1) + 1))]) [0, 1, 2, 3, 4, 5, 6, 7] rfl ?_
              exact ih13 (tp + 1) ((i + 1) + 1) h55 (am_uI s9 tp za) (A9 ++ [o9]) r8 (gm_s1 (gm_fgm D cm p) o9 l9) (⟨⟨by omega, by omega⟩, hf9.tr (am_fr.st e56 (by omega) (by omega)), k59, Or.inr ⟨q41, hST.psh hF9 (by omega) (by first | (rw [if_pos (by omega)]; omega) | (rw [if_neg (by omega)]; unfold gm_fgm; first | (rw [if_pos (by omega)]; omega) | (rw [if_neg (by omega), if_pos (by omega)]; omega) | (rw [if_neg (by omega), if_neg (by omega), if_pos (by omega)]) | (rw [if_neg (by omega), if_neg (by omega), if_neg (by omega), if_pos (by omega)]; omega) | (rw [if_neg (by omega), if_neg (by omega), if_neg (by omega), if_neg (by omega)]; omega)))⟩⟩) (by omega)
          · skip
            refine q_blk (lv2 := [(0, vr n), (1, vi p), (2, vi tp), (3, vi za), (4, vi s), (5, vi zd), (6, vi zi), (7, vi (i + 1)), (8, vi (D (228 + i))), (9, vi (D (228 + (i + 1))))]) (st2 := [vi (D (228 + (i + 1))), vi tp, vr (n + 13)]) kX9_scoreOf_163 rfl ?_
            refine AQ.of (AS.i2l eX9_scoreOf_165 (by first | assumption | exact ⟨by omega, by omega⟩)) ?_
            refine q_goto (tgt := 221) eX9_scoreOf_166 (by decide) ?_
            refine q_ls eX9_scoreOf_221 hk9 (by omega) (by omega) (fun h60 e61 => ?_)
            have k62 := (am_ne e61 n (by omega)).trans m0'
            have k63 := (am_ne e61 (n + 2) (by omega)).trans m1'
            have k64 := am_at e61
            refine q_blk (lv2 := [(0, vr n), (1, vi p), (2, vi (tp + 1)), (3, vi za), (4, vi s), (5, vi zd), (6, vi zi), (7, vi (i + 1)), (8, vi (D (228 + i))), (9, vi (D (228 + (i + 1))))]) (st2 := []) kX9_scoreOf_222 rfl ?_
            refine q_goto (tgt := 258) eX9_scoreOf_225 (by decide) ?_
            refine q_blk (lv2 := [(0, vr n), (1, vi p), (2, vi (tp + 1)), (3, vi za), (4, vi s), (5, vi zd), (6, vi zi), (7, vi ((i + 1) + 1)), (8, vi (D (228 + i))), (9, vi (D (228 + (i + 1))))]) (st2 := []) kX9_scoreOf_258 rfl ?_
            refine q_goto (tgt := 107) eX9_scoreOf_261 (by decide) ?_
            refine q_sub (lv2 := [(0, vr n), (1, vi p), (2, vi (tp + 1)), (3, vi za), (4, vi s), (5, vi zd), (6, vi zi), (7, vi ((i + 1) + 1))]) [0, 1, 2, 3, 4, 5, 6, 7] rfl ?_
            exact ih13 (tp + 1) ((i + 1) + 1) h60 (am_uI s9 tp (D (228 + (i + 1)))) (A9 ++ [o9]) r8 (gm_s1 (gm_fgm D cm p) o9 l9) (⟨⟨by omega, by omega⟩, hf9.tr (am_fr.st e61 (by omega) (by omega)), k64, Or.inr ⟨q41, hST.psh hF9 (by omega) (by first | (rw [if_pos (by omega)]; omega) | (rw [if_neg (by omega)]; unfold gm_fgm; first | (rw [if_pos (by omega)]; omega) | (rw [if_neg (by omega), if_pos (by omega)]; omega) | (rw [if_neg (by omega), if_neg (by omega), if_pos (by omega)]) | (rw [if_neg (by omega), if_neg (by omega), if_neg (by omega), if_pos (by omega)]; omega) | (rw [if_neg (by omega), if_neg (by omega), if_neg (by omega), if_neg (by omega)]; omega)))⟩⟩) (by omega)
    · skip
      refine q_blk (lv2 := [(0, vr n), (1, vi p), (2, vi 0), (3, vi za), (4, vi s), (5, vi zd), (6, vi zi), (7, vi k)]) (st2 := [vi k, vr n, vi s]) kX9_scoreOf_54 rfl ?_
      have hsv := hD.2.2.2.2.1 k k0 (by omega)
      refine q_Vi (av := [vi k]) (st := [vi s]) (c_X9_claimerOf hm hD (by omega) (by omega)) lk_RX9_270 (by decide) rfl rfl hm.ob ⟨_, rfl, rfl⟩ (Nat.le_of_ble_eq_true rfl) eX9_scoreOf_59 (fun z65 e66 => ?_)
      have cr9 := e66.2
      have ck9 := gm_cmk hM (k := k) (by omega) (by omega) e66.1
      refine q_blk (lv2 := [(0, vr n), (1, vi p), (2, vi 0), (3, vi za), (4, vi s), (5, vi zd), (6, vi zi), (7, vi k)]) (st2 := [vi p, vi z65, vi s]) kX9_scoreOf_62 rfl ?_
      refine AQ.ic_ne (tgt := 83) eX9_scoreOf_63 (by decide) (by first | assumption | exact ⟨by omega, by omega⟩) (by first | assumption | exact ⟨by omega, by omega⟩) (fun br67 => ?_) (fun br67 => ?_)
      · skip
        refine q_blk (lv2 := [(0, vr n), (1, vi p), (2, vi 0), (3, vi za), (4, vi s), (5, vi zd), (6, vi zi), (7, vi k)]) (st2 := [vi 0, vi s]) kX9_scoreOf_83 rfl ?_
        refine q_blk (lv2 := [(0, vr n), (1, vi p), (2, vi 0), (3, vi za), (4, vi (s + 0)), (5, vi zd), (6, vi zi), (7, vi (k + 1))]) (st2 := []) kX9_scoreOf_84 rfl ?_
        refine q_goto (tgt := 43) eX9_scoreOf_90 (by decide) ?_
        exact ih5 (s + 0) (k + 1) (⟨⟨by omega, by omega⟩, by rw [gm_sm_s _ k0, ← hs]; unfold gm_if; first | (rw [if_pos (by omega)]) | (rw [if_neg (by omega)]), by have := hsv.2.2; omega⟩) (by omega)
      · skip
        refine q_blk (lv2 := [(0, vr n), (1, vi p), (2, vi 0), (3, vi za), (4, vi s), (5, vi zd), (6, vi zi), (7, vi k)]) (st2 := [vr n, vi s]) kX9_scoreOf_66 rfl ?_
        refine q_gr eX9_scoreOf_67 fl_RX9_17 (Or.inr ⟨_, rfl⟩) m0 rfl ?_
        refine q_blk (lv2 := [(0, vr n), (1, vi p), (2, vi 0), (3, vi za), (4, vi s), (5, vi zd), (6, vi zi), (7, vi k)]) (st2 := [vi ((6 + (3 * k)) + 2), vr (n + 2), vi s]) kX9_scoreOf_70 rfl ?_
        refine q_ia eX9_scoreOf_79 m1 (by decide) (by omega) (by omega) (z := (sV D k)) (congrArg D (by omega)) ?_
        refine q_goto (tgt := 84) eX9_scoreOf_80 (by decide) ?_
        refine q_blk (lv2 := [(0, vr n), (1, vi p), (2, vi 0), (3, vi za), (4, vi (s + (sV D k))), (5, vi zd), (6, vi zi), (7, vi (k + 1))]) (st2 := []) kX9_scoreOf_84 rfl ?_
        refine q_goto (tgt := 43) eX9_scoreOf_90 (by decide) ?_
        exact ih5 (s + (sV D k)) (k + 1) (⟨⟨by omega, by omega⟩, by rw [gm_sm_s _ k0, ← hs]; unfold gm_if; first | (rw [if_pos (by omega)]) | (rw [if_neg (by omega)]), by have := hsv.2.2; omega⟩) (by omega)
  refine AQ.ic_ne (tgt := 37) eX9_scoreOf_25 (by decide) (by first | assumption | exact ⟨by omega, by omega⟩) ⟨by decide, by decide⟩ (fun br68 => ?_) (fun br68 => ?_)
  · skip
    refine q_blk (lv2 := [(0, vr n), (1, vi p), (2, vi 0), (3, vi za), (4, vi 0), (5, vi zd)]) (st2 := [vi 0]) kX9_scoreOf_37 rfl ?_
    exact jn38 0 (⟨fun q => by omega, by omega⟩)
  · skip
    refine q_blk (lv2 := [(0, vr n), (1, vi p), (2, vi 0), (3, vi za), (4, vi 0), (5, vi zd)]) (st2 := [vi 2, vi p, vr n]) kX9_scoreOf_28 rfl ?_
    refine q_Vi (av := [vi p, vi 2]) (st := []) (c_X9_countAll hm hD (by omega) (by omega) (sd := 2) (by first | assumption | exact ⟨by omega, by omega⟩)) lk_RX9_284 (by decide) rfl rfl hm.ob ⟨_, rfl, rfl⟩ (Nat.le_of_ble_eq_true rfl) eX9_scoreOf_31 (fun z69 e70 => ?_)
    have ca9 := e70.2
    refine q_goto (tgt := 38) eX9_scoreOf_34 (by decide) ?_
    exact jn38 z69 (⟨fun _ => e70.1, by omega⟩)

/-! the points of a player -/
noncomputable def gm_mpp (D cm : Int → Int) (L : GL) (pl p : Int) : Int := if pC D p = 1 ∧ pO D p = pl then gm_msc D cm L p else 0
noncomputable def gm_mpt (D cm : Int → Int) (L : GL) (pl : Int) : Int := gm_sm (gm_mpp D cm L pl) (D 3).toNat
theorem gm_msc_r (D cm : Int → Int) (L : GL) (p : Int) : -99999 ≤ gm_msc D cm L p ∧ gm_msc D cm L p ≤ 99999 := by
  unfold gm_msc gm_li
  (repeat' split) <;> omega
theorem gm_mpp_t {D cm : Int → Int} {L : GL} {pl p : Int} (h : pC D p = 1) (h' : pO D p = pl) : gm_mpp D cm L pl p = gm_msc D cm L p := if_pos ⟨h, h'⟩
theorem gm_mpp_f {D cm : Int → Int} {L : GL} {pl p : Int} (h : ¬ (pC D p = 1 ∧ pO D p = pl)) : gm_mpp D cm L pl p = 0 := if_neg h

set_option maxHeartbeats 1000000 in
theorem c_X9_pointsOf {w : am_w} {h : AH} {n : Nat} {th bl tl ps er ea eo ud g0 g1 g2 g3 ns ne se : Int} {D : Int → Int} (hm : MM h n th bl tl ps er ea eo ud g0 g1 g2 g3 ns ne se D) (hD : VD D) {pl : Int} (r_pl : am_r pl) {cm : Int → Int} (hM : CMS D cm) {sk : Int → Int} (hk : h.1 (n + 13) = some (102, 1300, sk, am_N)) {L : GL} (hC : CO D L)  : AE w m_X9_pointsOf 10 [vr n, vi pl] h (am_int (fun z h1 => z = gm_mpt D cm L pl ∧ -600000 ≤ z ∧ z ≤ 600000 ∧ (∃ sk', h1.1 (n + 13) = some (102, 1300, sk', am_N)) ∧ am_fr h h1 (n + 13) (n + 14))) := by
  refine AE.of wf_X9_pointsOf (Nat.le_of_ble_eq_true rfl) (am_ok_i) ?_
  obtain ⟨m0, m1⟩ := id hm
  have d0 := hD.1
  have d1 := hD.2.1
  have d2 := hD.2.2.1
  have d3 := hD.2.2.2.1
  refine q_blk (lv2 := [(0, vr n), (1, vi pl), (2, vi 0), (3, vi 0)]) (st2 := []) kX9_pointsOf_0 rfl ?_
  refine am_lp4 (I := fun (s : Int) (p : Int) (hh : AH) (s9 : Int → Int) => (0 ≤ p ∧ p ≤ D 3) ∧ am_fr h hh (n + 13) (n + 14) ∧ hh.1 (n + 13) = some (102, 1300, s9, am_N) ∧ s = gm_sm (gm_mpp D cm L pl) p.toNat ∧ (-99999 * p ≤ s ∧ s ≤ 99999 * p)) (μ := fun (s : Int) (p : Int) (hh : AH) (s9 : Int → Int) => (D 3 - p).toNat) (G := fun (s : Int) (p : Int) (hh : AH) (s9 : Int → Int) => AQ w m_X9_pointsOf 10 4 [(0, vr n), (1, vi pl), (2, vi s), (3, vi p)] [] hh (am_int (fun z h1 => z = gm_mpt D cm L pl ∧ -600000 ≤ z ∧ z ≤ 600000 ∧ (∃ sk', h1.1 (n + 13) = some (102, 1300, sk', am_N)) ∧ am_fr h h1 (n + 13) (n + 14)))) ?_ 0 0 h sk (⟨⟨by omega, by omega⟩, am_fr.rf, hk, rfl, by omega⟩)
  intro s p hh s9 hI2 ih1
  obtain ⟨⟨p0, p1⟩, hf9, hk9, hs, hr⟩ := hI2
  have hm9 := hm.keep13 hf9
  obtain ⟨m0', m1'⟩ := id hm9
  refine q_blk (lv2 := [(0, vr n), (1, vi pl), (2, vi s), (3, vi p)]) (st2 := [vr n, vi p]) kX9_pointsOf_4 rfl ?_
  refine q_gr eX9_pointsOf_6 fl_RX9_17 (Or.inr ⟨_, rfl⟩) m0' rfl ?_
  refine q_blk (lv2 := [(0, vr n), (1, vi pl), (2, vi s), (3, vi p)]) (st2 := [vi 3, vr (n + 2), vi p]) kX9_pointsOf_9 rfl ?_
  refine q_ia eX9_pointsOf_10 m1' (by decide) (by omega) (by omega) (z := (D 3)) rfl ?_
  refine AQ.ic_ge (tgt := 53) eX9_pointsOf_11 (by decide) (by first | assumption | exact ⟨by omega, by omega⟩) (by first | assumption | exact ⟨by omega, by omega⟩) (fun br3 => ?_) (fun br3 => ?_)
  · skip
    refine q_blk (lv2 := [(0, vr n), (1, vi pl), (2, vi s), (3, vi p)]) (st2 := [vi s]) kX9_pointsOf_53 rfl ?_
    exact q_ri rfl eX9_pointsOf_54 ⟨s, rfl, (by unfold gm_mpt; rw [hs, show p = D 3 by omega]), by omega, by omega, ⟨_, hk9⟩, hf9⟩
  · skip
    have hp0 := hD.2.2.2.2.2 p p0 (by omega)
    refine q_blk (lv2 := [(0, vr n), (1, vi pl), (2, vi s), (3, vi p)]) (st2 := [vi p, vr n, vi s]) kX9_pointsOf_14 rfl ?_
    have hp0 := hD.2.2.2.2.2 p p0 (by omega)
    refine q_Vi (av := [vi p]) (st := [vi s]) (c_X9_isClosed hm9 hD (by omega) (by omega)) lk_RX9_42 (by decide) rfl rfl hm9.ob ⟨_, rfl, rfl⟩ (Nat.le_of_ble_eq_true rfl) eX9_pointsOf_17 (fun z4 e5 => ?_)
    rcases e5 with ⟨rfl, e5⟩ | ⟨rfl, e5⟩
    · skip
      refine AQ.of (AS.if_eq_f eX9_pointsOf_20 ⟨by decide, by decide⟩ (by decide) (by decide)) ?_
      refine q_blk (lv2 := [(0, vr n), (1, vi pl), (2, vi s), (3, vi p)]) (st2 := [vr n, vi s]) kX9_pointsOf_23 rfl ?_
      refine q_gr eX9_pointsOf_24 fl_RX9_17 (Or.inr ⟨_, rfl⟩) m0' rfl ?_
      refine q_blk (lv2 := [(0, vr n), (1, vi pl), (2, vi s), (3, vi p)]) (st2 := [vi p, vr (n + 2), vi s]) kX9_pointsOf_27 rfl ?_
      refine q_Si (av := [vi p]) (st := [vr (n + 2), vi s]) c_X9_at lk_RX9_35 (by decide) rfl rfl (Nat.le_of_ble_eq_true rfl) eX9_pointsOf_28 (fun z6 e7 => ?_)
      subst e7
      refine q_ia eX9_pointsOf_31 m1' (by decide) (by omega) (by omega) (z := (pO D p)) rfl ?_
      refine q_blk (lv2 := [(0, vr n), (1, vi pl), (2, vi s), (3, vi p)]) (st2 := [vi pl, vi (pO D p), vi s]) kX9_pointsOf_32 rfl ?_
      refine AQ.ic_ne (tgt := 44) eX9_pointsOf_33 (by decide) (by first | assumption | exact ⟨by omega, by omega⟩) (by first | assumption | exact ⟨by omega, by omega⟩) (fun br8 => ?_) (fun br8 => ?_)
      · skip
        refine q_blk (lv2 := [(0, vr n), (1, vi pl), (2, vi s), (3, vi p)]) (st2 := [vi 0, vi s]) kX9_pointsOf_44 rfl ?_
        refine q_blk (lv2 := [(0, vr n), (1, vi pl), (2, vi (s + 0)), (3, vi (p + 1))]) (st2 := []) kX9_pointsOf_45 rfl ?_
        refine q_goto (tgt := 4) eX9_pointsOf_50 (by decide) ?_
        exact ih1 (s + 0) (p + 1) hh s9 (⟨⟨by omega, by omega⟩, hf9, hk9, by rw [gm_sm_s _ p0, ← hs]; rw [gm_mpp_f (fun q => by omega)], by have := gm_msc_r D cm L p; omega⟩) (by omega)
      · skip
        refine q_blk (lv2 := [(0, vr n), (1, vi pl), (2, vi s), (3, vi p)]) (st2 := [vi p, vr n, vi s]) kX9_pointsOf_36 rfl ?_
        refine AQ.callVi (av := [vi p]) (st := [vi s]) (c_X9_scoreOf hm9 hD p0 (by omega) hM hk9 hC) lk_RX9_297 (by decide) rfl rfl hm9.ob ⟨_, rfl, rfl⟩ (Nat.le_of_ble_eq_true rfl) eX9_pointsOf_38 (fun z9 h11 e10 => ?_)
        obtain ⟨zh11, yh11, xh11, ⟨sh11, kh11⟩, Fh11⟩ := e10
        subst zh11
        have Mh11 := hm9.keep13 Fh11
        obtain ⟨m0h11, m1h11⟩ := id Mh11
        refine q_goto (tgt := 45) eX9_pointsOf_41 (by decide) ?_
        refine q_blk (lv2 := [(0, vr n), (1, vi pl), (2, vi (s + (gm_msc D cm L p))), (3, vi (p + 1))]) (st2 := []) kX9_pointsOf_45 rfl ?_
        refine q_goto (tgt := 4) eX9_pointsOf_50 (by decide) ?_
        exact ih1 (s + (gm_msc D cm L p)) (p + 1) h11 sh11 (⟨⟨by omega, by omega⟩, hf9.tr Fh11, kh11, by rw [gm_sm_s _ p0, ← hs]; rw [gm_mpp_t (by assumption) (by assumption)], by have := gm_msc_r D cm L p; omega⟩) (by omega)
    · skip
      refine AQ.of (AS.if_eq_t (tgt := 44) eX9_pointsOf_20 (by decide) ⟨by decide, by decide⟩ (by decide)) ?_
      refine q_blk (lv2 := [(0, vr n), (1, vi pl), (2, vi s), (3, vi p)]) (st2 := [vi 0, vi s]) kX9_pointsOf_44 rfl ?_
      refine q_blk (lv2 := [(0, vr n), (1, vi pl), (2, vi (s + 0)), (3, vi (p + 1))]) (st2 := []) kX9_pointsOf_45 rfl ?_
      refine q_goto (tgt := 4) eX9_pointsOf_50 (by decide) ?_
      exact ih1 (s + 0) (p + 1) hh s9 (⟨⟨by omega, by omega⟩, hf9, hk9, by rw [gm_sm_s _ p0, ← hs]; rw [gm_mpp_f (fun q => by omega)], by have := gm_msc_r D cm L p; omega⟩) (by omega)
