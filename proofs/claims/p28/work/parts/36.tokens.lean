/-! CornerClaims$Setup: the text's bytes, runs of them. -/
def gm_dg (x : Int) : Prop := 48 ≤ x ∧ x ≤ 57
/-- where a run of bytes from a to b ends -/
def gm_er (tx : Int → Int) (len a b s z : Int) : Prop := (s ≤ z ∧ z ≤ len) ∧ (∀ k, s ≤ k → k < z → a ≤ tx k ∧ tx k ≤ b) ∧ (z = len ∨ ¬ (a ≤ tx z ∧ tx z ≤ b))
theorem gm_er_one {tx : Int → Int} {len a b s z z' : Int} (h : gm_er tx len a b s z) (h' : gm_er tx len a b s z') : z = z' := by
  obtain ⟨⟨a1, a2⟩, a3, a4⟩ := h
  obtain ⟨⟨b1, b2⟩, b3, b4⟩ := h'
  rcases Int.lt_trichotomy z z' with q | q | q
  · have := b3 z a1 q; omega
  · exact q
  · have := a3 z' b1 q; omega
def gm_va (tx : Int → Int) (s : Int) : Nat → Int
  | 0 => 0
  | k + 1 => if 10000 < 10 * gm_va tx s k + tx (s + k) - 48 then 10000 else 10 * gm_va tx s k + tx (s + k) - 48
theorem gm_va_r {tx : Int → Int} {s : Int} : ∀ {n : Nat}, (∀ k, s ≤ k → k < s + n → gm_dg (tx k)) → 0 ≤ gm_va tx s n ∧ gm_va tx s n ≤ 10000
  | 0, _ => by simp [gm_va]
  | n + 1, h => by
    have h1 := gm_va_r (n := n) fun k k0 k1 => h k k0 (by omega)
    have h2 := h (s + n) (by omega) (by omega)
    unfold gm_dg at h2
    simp only [gm_va]
    split <;> omega
def gm_ks (x : Int) : Int := if x = 40 ∨ x = 41 ∨ x = 42 ∨ x = 43 ∨ x = 45 ∨ x = 47 ∨ x = 59 then x else 1
/-- the reader while it splits the text -/
def ST (h : AH) (t u b j : Nat) (kd st vl : Int → Int) (tc he nu px cl hs er ea : Int) (cd : Int → Int) : Prop := h.1 t = some (5, 15, am_L [0, 0, 0, 0, 0, 0, 0, tc, he, nu, px, cl, hs, er, ea], am_G [some u, some b, some j, some (t + 3), some (t + 4), some (t + 5), some (t + 6), none, none, none, none, none, none, none, none]) ∧ h.1 (t + 3) = some (100, 801, kd, am_N) ∧ h.1 (t + 4) = some (100, 801, st, am_N) ∧ h.1 (t + 5) = some (100, 801, vl, am_N) ∧ h.1 (t + 6) = some (100, 800, cd, am_N) ∧ j = t + 1 ∧ h.1 j = some (2, 2, am_L [], am_G [some b, some (t + 2)]) ∧ LJ h (t + 2)
theorem ST.ob {h : AH} {t u b j : Nat} {kd st vl : Int → Int} {tc he nu px cl hs er ea : Int} {cd : Int → Int} (hS : ST h t u b j kd st vl tc he nu px cl hs er ea cd) : am_ob h t 5 := ⟨_, _, _, hS.1⟩
theorem ST.su {h : AH} {t u b j : Nat} {kd st vl : Int → Int} {tc he nu px cl hs er ea : Int} {cd : Int → Int} (hS : ST h t u b j kd st vl tc he nu px cl hs er ea cd) : SU h t u b j kd st vl he nu px cl hs er ea cd := ⟨tc, hS⟩
def GTX (h : AH) (u : Nat) (tx : Int → Int) : Prop := h.1 u = some (101, 800, tx, am_N)

set_option maxHeartbeats 1000000 in
theorem c_X6_byteAt {w : am_w} {h : AH} {t u b j : Nat} {kd st vl : Int → Int} {tc he nu px cl hs er ea : Int} {cd : Int → Int} (hS : ST h t u b j kd st vl tc he nu px cl hs er ea cd) {tx : Int → Int} (hX : GTX h u tx) (xr : ∀ i, -128 ≤ tx i ∧ tx i ≤ 127) {i : Int} (i0 : 0 ≤ i) (i1 : i < 800)  : AE w m_X6_byteAt 1 [vr t, vi i] h (am_intp h (fun z => z = tx i)) := by
  refine AE.of wf_X6_byteAt (Nat.le_of_ble_eq_true rfl) (am_ok_ip) ?_
  obtain ⟨c0, c1, c2, c3, c4, cj, c5, cL⟩ := id hS
  have hX0 := id hX
  unfold GTX at hX0
  refine q_blk (lv2 := [(0, vr t), (1, vi i)]) (st2 := [vi i]) kX6_byteAt_0 rfl ?_
  refine AQ.of (AS.if_lt_f eX6_byteAt_1 (by first | assumption | exact ⟨by omega, by omega⟩) (by omega) (by decide)) ?_
  refine q_blk (lv2 := [(0, vr t), (1, vi i)]) (st2 := [vr t, vi i]) kX6_byteAt_4 rfl ?_
  refine q_gr eX6_byteAt_6 fl_RX6_50 (Or.inr ⟨_, rfl⟩) c0 rfl ?_
  refine q_al eX6_byteAt_9 hX0 (by decide) ?_
  refine AQ.of (AS.ic_ge_f eX6_byteAt_10 (by first | assumption | exact ⟨by omega, by omega⟩) ⟨by decide, by decide⟩ (by omega) (by decide)) ?_
  refine q_blk (lv2 := [(0, vr t), (1, vi i)]) (st2 := [vr t]) kX6_byteAt_13 rfl ?_
  refine q_gr eX6_byteAt_14 fl_RX6_50 (Or.inr ⟨_, rfl⟩) c0 rfl ?_
  refine q_blk (lv2 := [(0, vr t), (1, vi i)]) (st2 := [vi i, vr u]) kX6_byteAt_17 rfl ?_
  refine q_ba eX6_byteAt_18 hX0 (by decide) (by omega) (by omega) (z := (tx i)) rfl ?_
  refine q_goto (tgt := 23) eX6_byteAt_19 (by decide) ?_
  exact q_ri rfl eX6_byteAt_23 ⟨(tx i), rfl, rfl, rfl⟩

set_option maxHeartbeats 1000000 in
theorem c_X6_isDigit {w : am_w} {h : AH} {x : Int} (x0 : -200 ≤ x) (x1 : x ≤ 200)  : AE w m_X6_isDigit 1 [vi x] h (am_intp h (fun z => am_b z (gm_dg x))) := by
  refine AE.of wf_X6_isDigit (Nat.le_of_ble_eq_true rfl) (am_ok_zp (fun z q => am_bz q)) ?_
  refine q_blk (lv2 := [(0, vi x)]) (st2 := [vi 48, vi x]) kX6_isDigit_0 rfl ?_
  refine AQ.ic_lt (tgt := 16) eX6_isDigit_3 (by decide) (by first | assumption | exact ⟨by omega, by omega⟩) ⟨by decide, by decide⟩ (fun br1 => ?_) (fun br1 => ?_)
  · skip
    refine q_blk (lv2 := [(0, vi x)]) (st2 := [vi 0]) kX6_isDigit_16 rfl ?_
    exact q_rz rfl eX6_isDigit_17 (by decide) ⟨0, rfl, Or.inr ⟨rfl, by unfold gm_dg; omega⟩, rfl⟩
  · skip
    refine q_blk (lv2 := [(0, vi x)]) (st2 := [vi 57, vi x]) kX6_isDigit_6 rfl ?_
    refine AQ.ic_gt (tgt := 16) eX6_isDigit_9 (by decide) (by first | assumption | exact ⟨by omega, by omega⟩) ⟨by decide, by decide⟩ (fun br2 => ?_) (fun br2 => ?_)
    · skip
      refine q_blk (lv2 := [(0, vi x)]) (st2 := [vi 0]) kX6_isDigit_16 rfl ?_
      exact q_rz rfl eX6_isDigit_17 (by decide) ⟨0, rfl, Or.inr ⟨rfl, by unfold gm_dg; omega⟩, rfl⟩
    · skip
      refine q_blk (lv2 := [(0, vi x)]) (st2 := [vi 1]) kX6_isDigit_12 rfl ?_
      refine q_goto (tgt := 17) eX6_isDigit_13 (by decide) ?_
      exact q_rz rfl eX6_isDigit_17 (by decide) ⟨1, rfl, Or.inl ⟨rfl, by unfold gm_dg; omega⟩, rfl⟩

set_option maxHeartbeats 1000000 in
theorem c_X6_endOfRun {w : am_w} {h : AH} {t u b j : Nat} {kd st vl : Int → Int} {tc he nu px cl hs er ea : Int} {cd : Int → Int} (hS : ST h t u b j kd st vl tc he nu px cl hs er ea cd) {tx : Int → Int} (hX : GTX h u tx) (xr : ∀ i, -128 ≤ tx i ∧ tx i ≤ 127) {s len a b9 : Int} (s0 : 0 ≤ s) (s1 : s ≤ len) (l1 : len ≤ 800) (a0 : 0 ≤ a) (a1 : a ≤ 200) (b0 : 0 ≤ b9) (b1 : b9 ≤ 200)  : AE w m_X6_endOfRun 2 [vr t, vi s, vi len, vi a, vi b9] h (am_intp h (fun z => gm_er tx len a b9 s z)) := by
  refine AE.of wf_X6_endOfRun (Nat.le_of_ble_eq_true rfl) (am_ok_ip) ?_
  obtain ⟨c0, c1, c2, c3, c4, cj, c5, cL⟩ := id hS
  have hX0 := id hX
  unfold GTX at hX0
  refine q_blk (lv2 := [(0, vr t), (1, vi s), (2, vi len), (3, vi a), (4, vi b9), (5, vi s), (6, vi 0)]) (st2 := []) kX6_endOfRun_0 rfl ?_
  refine am_lp2 (I := fun (e : Int) (i : Int) => (0 ≤ i ∧ i ≤ 800) ∧ (e = s + i ∧ e ≤ len) ∧ ∀ k, s ≤ k → k < e → a ≤ tx k ∧ tx k ≤ b9) (μ := fun (e : Int) (i : Int) => (800 - i).toNat) (G := fun (e : Int) (i : Int) => AQ w m_X6_endOfRun 2 6 [(0, vr t), (1, vi s), (2, vi len), (3, vi a), (4, vi b9), (5, vi e), (6, vi i)] [] h (am_intp h (fun z => gm_er tx len a b9 s z))) ?_ s 0 (⟨⟨by omega, by omega⟩, ⟨by omega, by omega⟩, fun k k0 k1 => by omega⟩)
  intro e i hI2 ih1
  obtain ⟨⟨i0, i1⟩, ⟨e0, e1⟩, hr⟩ := hI2
  refine q_blk (lv2 := [(0, vr t), (1, vi s), (2, vi len), (3, vi a), (4, vi b9), (5, vi e), (6, vi i)]) (st2 := [vi 800, vi i]) kX6_endOfRun_6 rfl ?_
  refine AQ.ic_ge (tgt := 53) eX6_endOfRun_11 (by decide) (by first | assumption | exact ⟨by omega, by omega⟩) ⟨by decide, by decide⟩ (fun br3 => ?_) (fun br3 => ?_)
  · skip
    refine q_blk (lv2 := [(0, vr t), (1, vi s), (2, vi len), (3, vi a), (4, vi b9), (5, vi e), (6, vi i)]) (st2 := [vi e]) kX6_endOfRun_53 rfl ?_
    exact q_ri rfl eX6_endOfRun_55 ⟨e, rfl, ⟨⟨by omega, by omega⟩, hr, by omega⟩, rfl⟩
  · skip
    refine q_blk (lv2 := [(0, vr t), (1, vi s), (2, vi len), (3, vi a), (4, vi b9), (5, vi e), (6, vi i)]) (st2 := [vi len, vi e]) kX6_endOfRun_14 rfl ?_
    refine AQ.ic_ge (tgt := 53) eX6_endOfRun_17 (by decide) (by first | assumption | exact ⟨by omega, by omega⟩) (by first | assumption | exact ⟨by omega, by omega⟩) (fun br4 => ?_) (fun br4 => ?_)
    · skip
      refine q_blk (lv2 := [(0, vr t), (1, vi s), (2, vi len), (3, vi a), (4, vi b9), (5, vi e), (6, vi i)]) (st2 := [vi e]) kX6_endOfRun_53 rfl ?_
      exact q_ri rfl eX6_endOfRun_55 ⟨e, rfl, ⟨⟨by omega, by omega⟩, hr, by omega⟩, rfl⟩
    · skip
      have xe := xr e
      refine q_blk (lv2 := [(0, vr t), (1, vi s), (2, vi len), (3, vi a), (4, vi b9), (5, vi e), (6, vi i)]) (st2 := [vi e, vr t]) kX6_endOfRun_20 rfl ?_
      refine q_Vi (av := [vi e]) (st := []) (c_X6_byteAt hS hX xr (by omega) (by omega)) lk_RX6_87 (by decide) rfl rfl hS.ob ⟨_, rfl, rfl⟩ (Nat.le_of_ble_eq_true rfl) eX6_endOfRun_23 (fun z5 e6 => ?_)
      subst e6
      refine q_blk (lv2 := [(0, vr t), (1, vi s), (2, vi len), (3, vi a), (4, vi b9), (5, vi e), (6, vi i), (7, vi (tx e))]) (st2 := [vi a, vi (tx e)]) kX6_endOfRun_26 rfl ?_
      refine AQ.ic_lt (tgt := 41) eX6_endOfRun_31 (by decide) (by first | assumption | exact ⟨by omega, by omega⟩) (by first | assumption | exact ⟨by omega, by omega⟩) (fun br7 => ?_) (fun br7 => ?_)
      · skip
        refine q_blk (lv2 := [(0, vr t), (1, vi s), (2, vi len), (3, vi a), (4, vi b9), (5, vi e), (6, vi i), (7, vi (tx e))]) (st2 := [vi e]) kX6_endOfRun_41 rfl ?_
        exact q_ri rfl eX6_endOfRun_43 ⟨e, rfl, ⟨⟨by omega, by omega⟩, hr, by omega⟩, rfl⟩
      · skip
        refine q_blk (lv2 := [(0, vr t), (1, vi s), (2, vi len), (3, vi a), (4, vi b9), (5, vi e), (6, vi i), (7, vi (tx e))]) (st2 := [vi b9, vi (tx e)]) kX6_endOfRun_34 rfl ?_
        refine AQ.ic_le (tgt := 44) eX6_endOfRun_38 (by decide) (by first | assumption | exact ⟨by omega, by omega⟩) (by first | assumption | exact ⟨by omega, by omega⟩) (fun br8 => ?_) (fun br8 => ?_)
        · skip
          refine q_blk (lv2 := [(0, vr t), (1, vi s), (2, vi len), (3, vi a), (4, vi b9), (5, vi (e + 1)), (6, vi (i + 1)), (7, vi (tx e))]) (st2 := []) kX6_endOfRun_44 rfl ?_
          refine q_goto (tgt := 6) eX6_endOfRun_50 (by decide) ?_
          refine q_sub (lv2 := [(0, vr t), (1, vi s), (2, vi len), (3, vi a), (4, vi b9), (5, vi (e + 1)), (6, vi (i + 1))]) [0, 1, 2, 3, 4, 5, 6] rfl ?_
          exact ih1 (e + 1) (i + 1) (⟨⟨by omega, by omega⟩, ⟨by omega, by omega⟩, fun k k0 k1 => by
      by_cases c : k = e
      · subst c; omega
      · exact hr k k0 (by omega)⟩) (by omega)
        · skip
          refine q_blk (lv2 := [(0, vr t), (1, vi s), (2, vi len), (3, vi a), (4, vi b9), (5, vi e), (6, vi i), (7, vi (tx e))]) (st2 := [vi e]) kX6_endOfRun_41 rfl ?_
          exact q_ri rfl eX6_endOfRun_43 ⟨e, rfl, ⟨⟨by omega, by omega⟩, hr, by omega⟩, rfl⟩

set_option maxHeartbeats 1000000 in
theorem c_X6_valueOf {w : am_w} {h : AH} {t u b j : Nat} {kd st vl : Int → Int} {tc he nu px cl hs er ea : Int} {cd : Int → Int} (hS : ST h t u b j kd st vl tc he nu px cl hs er ea cd) {tx : Int → Int} (hX : GTX h u tx) (xr : ∀ i, -128 ≤ tx i ∧ tx i ≤ 127) {s e : Int} (s0 : 0 ≤ s) (s1 : s ≤ e) (l1 : e ≤ 800) (hdg : ∀ k, s ≤ k → k < e → gm_dg (tx k))  : AE w m_X6_valueOf 2 [vr t, vi s, vi e] h (am_intp h (fun z => z = gm_va tx s (e - s).toNat)) := by
  refine AE.of wf_X6_valueOf (Nat.le_of_ble_eq_true rfl) (am_ok_ip) ?_
  obtain ⟨c0, c1, c2, c3, c4, cj, c5, cL⟩ := id hS
  have hX0 := id hX
  unfold GTX at hX0
  refine q_blk (lv2 := [(0, vr t), (1, vi s), (2, vi e), (3, vi 0), (4, vi s)]) (st2 := []) kX6_valueOf_0 rfl ?_
  refine am_lp2 (I := fun (v : Int) (k : Int) => (s ≤ k ∧ k ≤ e) ∧ v = gm_va tx s (k - s).toNat) (μ := fun (v : Int) (k : Int) => (e - k).toNat) (G := fun (v : Int) (k : Int) => AQ w m_X6_valueOf 2 5 [(0, vr t), (1, vi s), (2, vi e), (3, vi v), (4, vi k)] [] h (am_intp h (fun z => z = gm_va tx s (e - s).toNat))) ?_ 0 s (⟨⟨by omega, by omega⟩, by rw [Int.sub_self]; rfl⟩)
  intro v k hI2 ih1
  obtain ⟨⟨k0, k1⟩, hv⟩ := hI2
  refine q_blk (lv2 := [(0, vr t), (1, vi s), (2, vi e), (3, vi v), (4, vi k)]) (st2 := [vi e, vi k]) kX6_valueOf_5 rfl ?_
  refine AQ.ic_ge (tgt := 38) eX6_valueOf_8 (by decide) (by first | assumption | exact ⟨by omega, by omega⟩) (by first | assumption | exact ⟨by omega, by omega⟩) (fun br3 => ?_) (fun br3 => ?_)
  · skip
    refine q_blk (lv2 := [(0, vr t), (1, vi s), (2, vi e), (3, vi v), (4, vi k)]) (st2 := [vi v]) kX6_valueOf_38 rfl ?_
    exact q_ri rfl eX6_valueOf_39 ⟨v, rfl, by rw [hv, show k = e by omega], rfl⟩
  · skip
    have vr9 := gm_va_r (tx := tx) (s := s) (n := (k - s).toNat) (fun q q0 q1 => hdg q q0 (by omega))
    have xk := hdg k k0 (by omega)
    unfold gm_dg at xk
    rw [← hv] at vr9
    refine q_blk (lv2 := [(0, vr t), (1, vi s), (2, vi e), (3, vi v), (4, vi k)]) (st2 := [vi k, vr t, vi (10 * v)]) kX6_valueOf_11 rfl ?_
    refine q_Vi (av := [vi k]) (st := [vi (10 * v)]) (c_X6_byteAt hS hX xr (by omega) (by omega)) lk_RX6_87 (by decide) rfl rfl hS.ob ⟨_, rfl, rfl⟩ (Nat.le_of_ble_eq_true rfl) eX6_valueOf_18 (fun z4 e5 => ?_)
    subst e5
    refine q_blk (lv2 := [(0, vr t), (1, vi s), (2, vi e), (3, vi v), (4, vi k)]) (st2 := [vi 10000, vi (((10 * v) + (tx k)) - 48)]) kX6_valueOf_21 rfl ?_
    refine AQ.of (AS.mmin eX6_valueOf_28 (by first | assumption | exact ⟨by omega, by omega⟩) ⟨by decide, by decide⟩ (am_gw 731 (by decide +kernel) (by decide +kernel)) (am_gw 570 (by decide +kernel) (by decide +kernel)) (am_gw 53 (by decide +kernel) (by decide +kernel)) (am_gw 571 (by decide +kernel) (by decide +kernel)) (by decide) (Nat.le_of_ble_eq_true rfl)) ?_
    obtain ⟨z6, e7⟩ : ∃ q : Int, q = (if 10000 < (((10 * v) + (tx k)) - 48) then 10000 else (((10 * v) + (tx k)) - 48)) := ⟨_, rfl⟩
    rw [← e7]
    refine q_blk (lv2 := [(0, vr t), (1, vi s), (2, vi e), (3, vi z6), (4, vi (k + 1))]) (st2 := []) kX6_valueOf_31 rfl ?_
    refine q_goto (tgt := 5) eX6_valueOf_35 (by decide) ?_
    exact ih1 z6 (k + 1) (⟨⟨by omega, by omega⟩, by rw [show (k + 1 - s).toNat = (k - s).toNat + 1 by omega]; simp only [gm_va]; rw [show s + (((k - s).toNat : Nat) : Int) = k by omega, ← hv]; exact e7⟩) (by omega)

set_option maxHeartbeats 1000000 in
theorem c_X6_kindOfSign {w : am_w} {h : AH} {x : Int} (x0 : -200 ≤ x) (x1 : x ≤ 200)  : AE w m_X6_kindOfSign 1 [vi x] h (am_intp h (fun z => z = gm_ks x)) := by
  refine AE.of wf_X6_kindOfSign (Nat.le_of_ble_eq_true rfl) (am_ok_ip) ?_
  refine q_blk (lv2 := [(0, vi x)]) (st2 := [vi x]) kX6_kindOfSign_0 rfl ?_
  rcases (show x = 40 ∨ x = 41 ∨ x = 42 ∨ x = 43 ∨ x = 44 ∨ x = 45 ∨ x = 46 ∨ x = 47 ∨ x = 48 ∨ x = 49 ∨ x = 50 ∨ x = 51 ∨ x = 52 ∨ x = 53 ∨ x = 54 ∨ x = 55 ∨ x = 56 ∨ x = 57 ∨ x = 58 ∨ x = 59 ∨ (x < 40 ∨ 59 < x) by omega) with sw1 | sw1 | sw1 | sw1 | sw1 | sw1 | sw1 | sw1 | sw1 | sw1 | sw1 | sw1 | sw1 | sw1 | sw1 | sw1 | sw1 | sw1 | sw1 | sw1 | sw1
  · skip
    refine AQ.of (AS.tabIn (z := x) (off := 95) (tgt := 96) eX6_kindOfSign_1 (by first | assumption | exact ⟨by omega, by omega⟩) (by omega) (by omega) (by rw [sw1]; rfl) (by decide)) ?_
    refine q_blk (lv2 := [(0, vi x)]) (st2 := [vi x]) kX6_kindOfSign_96 rfl ?_
    exact q_ri rfl eX6_kindOfSign_97 ⟨x, rfl, by unfold gm_ks; rw [if_pos (by omega)], rfl⟩
  · skip
    refine AQ.of (AS.tabIn (z := x) (off := 95) (tgt := 96) eX6_kindOfSign_1 (by first | assumption | exact ⟨by omega, by omega⟩) (by omega) (by omega) (by rw [sw1]; rfl) (by decide)) ?_
    refine q_blk (lv2 := [(0, vi x)]) (st2 := [vi x]) kX6_kindOfSign_96 rfl ?_
    exact q_ri rfl eX6_kindOfSign_97 ⟨x, rfl, by unfold gm_ks; rw [if_pos (by omega)], rfl⟩
  · skip
    refine AQ.of (AS.tabIn (z := x) (off := 95) (tgt := 96) eX6_kindOfSign_1 (by first | assumption | exact ⟨by omega, by omega⟩) (by omega) (by omega) (by rw [sw1]; rfl) (by decide)) ?_
    refine q_blk (lv2 := [(0, vi x)]) (st2 := [vi x]) kX6_kindOfSign_96 rfl ?_
    exact q_ri rfl eX6_kindOfSign_97 ⟨x, rfl, by unfold gm_ks; rw [if_pos (by omega)], rfl⟩
  · skip
    refine AQ.of (AS.tabIn (z := x) (off := 95) (tgt := 96) eX6_kindOfSign_1 (by first | assumption | exact ⟨by omega, by omega⟩) (by omega) (by omega) (by rw [sw1]; rfl) (by decide)) ?_
    refine q_blk (lv2 := [(0, vi x)]) (st2 := [vi x]) kX6_kindOfSign_96 rfl ?_
    exact q_ri rfl eX6_kindOfSign_97 ⟨x, rfl, by unfold gm_ks; rw [if_pos (by omega)], rfl⟩
  · skip
    refine AQ.of (AS.tabIn (z := x) (off := 97) (tgt := 98) eX6_kindOfSign_1 (by first | assumption | exact ⟨by omega, by omega⟩) (by omega) (by omega) (by rw [sw1]; rfl) (by decide)) ?_
    refine q_blk (lv2 := [(0, vi x)]) (st2 := [vi 1]) kX6_kindOfSign_98 rfl ?_
    exact q_ri rfl eX6_kindOfSign_99 ⟨1, rfl, by unfold gm_ks; rw [if_neg (by omega)], rfl⟩
  · skip
    refine AQ.of (AS.tabIn (z := x) (off := 95) (tgt := 96) eX6_kindOfSign_1 (by first | assumption | exact ⟨by omega, by omega⟩) (by omega) (by omega) (by rw [sw1]; rfl) (by decide)) ?_
    refine q_blk (lv2 := [(0, vi x)]) (st2 := [vi x]) kX6_kindOfSign_96 rfl ?_
    exact q_ri rfl eX6_kindOfSign_97 ⟨x, rfl, by unfold gm_ks; rw [if_pos (by omega)], rfl⟩
  · skip
    refine AQ.of (AS.tabIn (z := x) (off := 97) (tgt := 98) eX6_kindOfSign_1 (by first | assumption | exact ⟨by omega, by omega⟩) (by omega) (by omega) (by rw [sw1]; rfl) (by decide)) ?_
    refine q_blk (lv2 := [(0, vi x)]) (st2 := [vi 1]) kX6_kindOfSign_98 rfl ?_
    exact q_ri rfl eX6_kindOfSign_99 ⟨1, rfl, by unfold gm_ks; rw [if_neg (by omega)], rfl⟩
  · skip
    refine AQ.of (AS.tabIn (z := x) (off := 95) (tgt := 96) eX6_kindOfSign_1 (by first | assumption | exact ⟨by omega, by omega⟩) (by omega) (by omega) (by rw [sw1]; rfl) (by decide)) ?_
    refine q_blk (lv2 := [(0, vi x)]) (st2 := [vi x]) kX6_kindOfSign_96 rfl ?_
    exact q_ri rfl eX6_kindOfSign_97 ⟨x, rfl, by unfold gm_ks; rw [if_pos (by omega)], rfl⟩
  · skip
    refine AQ.of (AS.tabIn (z := x) (off := 97) (tgt := 98) eX6_kindOfSign_1 (by first | assumption | exact ⟨by omega, by omega⟩) (by omega) (by omega) (by rw [sw1]; rfl) (by decide)) ?_
    refine q_blk (lv2 := [(0, vi x)]) (st2 := [vi 1]) kX6_kindOfSign_98 rfl ?_
    exact q_ri rfl eX6_kindOfSign_99 ⟨1, rfl, by unfold gm_ks; rw [if_neg (by omega)], rfl⟩
  · skip
    refine AQ.of (AS.tabIn (z := x) (off := 97) (tgt := 98) eX6_kindOfSign_1 (by first | assumption | exact ⟨by omega, by omega⟩) (by omega) (by omega) (by rw [sw1]; rfl) (by decide)) ?_
    refine q_blk (lv2 := [(0, vi x)]) (st2 := [vi 1]) kX6_kindOfSign_98 rfl ?_
    exact q_ri rfl eX6_kindOfSign_99 ⟨1, rfl, by unfold gm_ks; rw [if_neg (by omega)], rfl⟩
  · skip
    refine AQ.of (AS.tabIn (z := x) (off := 97) (tgt := 98) eX6_kindOfSign_1 (by first | assumption | exact ⟨by omega, by omega⟩) (by omega) (by omega) (by rw [sw1]; rfl) (by decide)) ?_
    refine q_blk (lv2 := [(0, vi x)]) (st2 := [vi 1]) kX6_kindOfSign_98 rfl ?_
    exact q_ri rfl eX6_kindOfSign_99 ⟨1, rfl, by unfold gm_ks; rw [if_neg (by omega)], rfl⟩
  · skip
    refine AQ.of (AS.tabIn (z := x) (off := 97) (tgt := 98) eX6_kindOfSign_1 (by first | assumption | exact ⟨by omega, by omega⟩) (by omega) (by omega) (by rw [sw1]; rfl) (by decide)) ?_
    refine q_blk (lv2 := [(0, vi x)]) (st2 := [vi 1]) kX6_kindOfSign_98 rfl ?_
    exact q_ri rfl eX6_kindOfSign_99 ⟨1, rfl, by unfold gm_ks; rw [if_neg (by omega)], rfl⟩
  · skip
    refine AQ.of (AS.tabIn (z := x) (off := 97) (tgt := 98) eX6_kindOfSign_1 (by first | assumption | exact ⟨by omega, by omega⟩) (by omega) (by omega) (by rw [sw1]; rfl) (by decide)) ?_
    refine q_blk (lv2 := [(0, vi x)]) (st2 := [vi 1]) kX6_kindOfSign_98 rfl ?_
    exact q_ri rfl eX6_kindOfSign_99 ⟨1, rfl, by unfold gm_ks; rw [if_neg (by omega)], rfl⟩
  · skip
    refine AQ.of (AS.tabIn (z := x) (off := 97) (tgt := 98) eX6_kindOfSign_1 (by first | assumption | exact ⟨by omega, by omega⟩) (by omega) (by omega) (by rw [sw1]; rfl) (by decide)) ?_
    refine q_blk (lv2 := [(0, vi x)]) (st2 := [vi 1]) kX6_kindOfSign_98 rfl ?_
    exact q_ri rfl eX6_kindOfSign_99 ⟨1, rfl, by unfold gm_ks; rw [if_neg (by omega)], rfl⟩
  · skip
    refine AQ.of (AS.tabIn (z := x) (off := 97) (tgt := 98) eX6_kindOfSign_1 (by first | assumption | exact ⟨by omega, by omega⟩) (by omega) (by omega) (by rw [sw1]; rfl) (by decide)) ?_
    refine q_blk (lv2 := [(0, vi x)]) (st2 := [vi 1]) kX6_kindOfSign_98 rfl ?_
    exact q_ri rfl eX6_kindOfSign_99 ⟨1, rfl, by unfold gm_ks; rw [if_neg (by omega)], rfl⟩
  · skip
    refine AQ.of (AS.tabIn (z := x) (off := 97) (tgt := 98) eX6_kindOfSign_1 (by first | assumption | exact ⟨by omega, by omega⟩) (by omega) (by omega) (by rw [sw1]; rfl) (by decide)) ?_
    refine q_blk (lv2 := [(0, vi x)]) (st2 := [vi 1]) kX6_kindOfSign_98 rfl ?_
    exact q_ri rfl eX6_kindOfSign_99 ⟨1, rfl, by unfold gm_ks; rw [if_neg (by omega)], rfl⟩
  · skip
    refine AQ.of (AS.tabIn (z := x) (off := 97) (tgt := 98) eX6_kindOfSign_1 (by first | assumption | exact ⟨by omega, by omega⟩) (by omega) (by omega) (by rw [sw1]; rfl) (by decide)) ?_
    refine q_blk (lv2 := [(0, vi x)]) (st2 := [vi 1]) kX6_kindOfSign_98 rfl ?_
    exact q_ri rfl eX6_kindOfSign_99 ⟨1, rfl, by unfold gm_ks; rw [if_neg (by omega)], rfl⟩
  · skip
    refine AQ.of (AS.tabIn (z := x) (off := 97) (tgt := 98) eX6_kindOfSign_1 (by first | assumption | exact ⟨by omega, by omega⟩) (by omega) (by omega) (by rw [sw1]; rfl) (by decide)) ?_
    refine q_blk (lv2 := [(0, vi x)]) (st2 := [vi 1]) kX6_kindOfSign_98 rfl ?_
    exact q_ri rfl eX6_kindOfSign_99 ⟨1, rfl, by unfold gm_ks; rw [if_neg (by omega)], rfl⟩
  · skip
    refine AQ.of (AS.tabIn (z := x) (off := 97) (tgt := 98) eX6_kindOfSign_1 (by first | assumption | exact ⟨by omega, by omega⟩) (by omega) (by omega) (by rw [sw1]; rfl) (by decide)) ?_
    refine q_blk (lv2 := [(0, vi x)]) (st2 := [vi 1]) kX6_kindOfSign_98 rfl ?_
    exact q_ri rfl eX6_kindOfSign_99 ⟨1, rfl, by unfold gm_ks; rw [if_neg (by omega)], rfl⟩
  · skip
    refine AQ.of (AS.tabIn (z := x) (off := 95) (tgt := 96) eX6_kindOfSign_1 (by first | assumption | exact ⟨by omega, by omega⟩) (by omega) (by omega) (by rw [sw1]; rfl) (by decide)) ?_
    refine q_blk (lv2 := [(0, vi x)]) (st2 := [vi x]) kX6_kindOfSign_96 rfl ?_
    exact q_ri rfl eX6_kindOfSign_97 ⟨x, rfl, by unfold gm_ks; rw [if_pos (by omega)], rfl⟩
  · skip
    refine AQ.of (AS.tabOut (z := x) (tgt := 98) eX6_kindOfSign_1 (by first | assumption | exact ⟨by omega, by omega⟩) sw1 (by decide)) ?_
    refine q_blk (lv2 := [(0, vi x)]) (st2 := [vi 1]) kX6_kindOfSign_98 rfl ?_
    exact q_ri rfl eX6_kindOfSign_99 ⟨1, rfl, by unfold gm_ks; rw [if_neg (by omega)], rfl⟩

set_option maxHeartbeats 1000000 in
theorem c_X6_addToken {w : am_w} {h : AH} {t u b j : Nat} {kd st vl : Int → Int} {tc he nu px cl hs er ea : Int} {cd : Int → Int} (hS : ST h t u b j kd st vl tc he nu px cl hs er ea cd) (tc0 : 0 ≤ tc) (tc1 : tc < 801) {k s v : Int}  : AE w m_X6_addToken 1 [vr t, vi k, vi s, vi v] h (am_unit (fun h1 => ST h1 t u b j (am_uI kd tc k) (am_uI st tc s) (am_uI vl tc v) (tc + 1) he nu px cl hs er ea cd ∧ am_fr h h1 t (t + 7))) := by
  refine AE.of wf_X6_addToken (Nat.le_of_ble_eq_true rfl) (am_ok_v) ?_
  obtain ⟨c0, c1, c2, c3, c4, cj, c5, cL⟩ := id hS
  refine q_blk (lv2 := [(0, vr t), (1, vi k), (2, vi s), (3, vi v)]) (st2 := [vr t]) kX6_addToken_0 rfl ?_
  refine q_gi eX6_addToken_1 fl_RX6_24 (Or.inl rfl) c0 (z := tc) rfl ?_
  refine q_blk (lv2 := [(0, vr t), (1, vi k), (2, vi s), (3, vi v)]) (st2 := [vr t, vi tc]) kX6_addToken_4 rfl ?_
  refine q_gr eX6_addToken_5 fl_RX6_9 (Or.inr ⟨_, rfl⟩) c0 rfl ?_
  refine q_al eX6_addToken_8 c1 (by decide) ?_
  refine AQ.of (AS.ic_ge_f eX6_addToken_9 (by first | assumption | exact ⟨by omega, by omega⟩) ⟨by decide, by decide⟩ (by omega) (by decide)) ?_
  refine q_blk (lv2 := [(0, vr t), (1, vi k), (2, vi s), (3, vi v)]) (st2 := [vr t]) kX6_addToken_12 rfl ?_
  refine q_gr eX6_addToken_13 fl_RX6_9 (Or.inr ⟨_, rfl⟩) c0 rfl ?_
  refine q_blk (lv2 := [(0, vr t), (1, vi k), (2, vi s), (3, vi v)]) (st2 := [vr t, vr (t + 3)]) kX6_addToken_16 rfl ?_
  refine q_gi eX6_addToken_17 fl_RX6_24 (Or.inl rfl) c0 (z := tc) rfl ?_
  refine q_blk (lv2 := [(0, vr t), (1, vi k), (2, vi s), (3, vi v)]) (st2 := [vi k, vi tc, vr (t + 3)]) kX6_addToken_20 rfl ?_
  refine q_is eX6_addToken_21 c1 (by omega) (by omega) (fun h1 e2 => ?_)
  have k3 := (am_ne e2 t (by omega)).trans c0
  have k4 := am_at e2
  have k5 := (am_ne e2 (t + 4) (by omega)).trans c2
  have k6 := (am_ne e2 (t + 5) (by omega)).trans c3
  have k7 := (am_ne e2 (t + 6) (by omega)).trans c4
  have k8 := (am_ne e2 j (by omega)).trans c5
  have k9 := cL.kept (lo := (t + 3)) (hi := (t + 3) + 1) (am_fr.st e2 (by omega) (by omega)) (by omega)
  refine q_blk (lv2 := [(0, vr t), (1, vi k), (2, vi s), (3, vi v)]) (st2 := [vr t]) kX6_addToken_22 rfl ?_
  refine q_gr eX6_addToken_23 fl_RX6_15 (Or.inr ⟨_, rfl⟩) k3 rfl ?_
  refine q_blk (lv2 := [(0, vr t), (1, vi k), (2, vi s), (3, vi v)]) (st2 := [vr t, vr (t + 4)]) kX6_addToken_26 rfl ?_
  refine q_gi eX6_addToken_27 fl_RX6_24 (Or.inl rfl) k3 (z := tc) rfl ?_
  refine q_blk (lv2 := [(0, vr t), (1, vi k), (2, vi s), (3, vi v)]) (st2 := [vi s, vi tc, vr (t + 4)]) kX6_addToken_30 rfl ?_
  refine q_is eX6_addToken_31 k5 (by omega) (by omega) (fun h10 e11 => ?_)
  have k12 := (am_ne e11 t (by omega)).trans k3
  have k13 := (am_ne e11 (t + 3) (by omega)).trans k4
  have k14 := am_at e11
  have k15 := (am_ne e11 (t + 5) (by omega)).trans k6
  have k16 := (am_ne e11 (t + 6) (by omega)).trans k7
  have k17 := (am_ne e11 j (by omega)).trans k8
  have k18 := k9.kept (lo := (t + 4)) (hi := (t + 4) + 1) (am_fr.st e11 (by omega) (by omega)) (by omega)
  refine q_blk (lv2 := [(0, vr t), (1, vi k), (2, vi s), (3, vi v)]) (st2 := [vr t]) kX6_addToken_32 rfl ?_
  refine q_gr eX6_addToken_33 fl_RX6_18 (Or.inr ⟨_, rfl⟩) k12 rfl ?_
  refine q_blk (lv2 := [(0, vr t), (1, vi k), (2, vi s), (3, vi v)]) (st2 := [vr t, vr (t + 5)]) kX6_addToken_36 rfl ?_
  refine q_gi eX6_addToken_37 fl_RX6_24 (Or.inl rfl) k12 (z := tc) rfl ?_
  refine q_blk (lv2 := [(0, vr t), (1, vi k), (2, vi s), (3, vi v)]) (st2 := [vi v, vi tc, vr (t + 5)]) kX6_addToken_40 rfl ?_
  refine q_is eX6_addToken_41 k15 (by omega) (by omega) (fun h19 e20 => ?_)
  have k21 := (am_ne e20 t (by omega)).trans k12
  have k22 := (am_ne e20 (t + 3) (by omega)).trans k13
  have k23 := (am_ne e20 (t + 4) (by omega)).trans k14
  have k24 := am_at e20
  have k25 := (am_ne e20 (t + 6) (by omega)).trans k16
  have k26 := (am_ne e20 j (by omega)).trans k17
  have k27 := k18.kept (lo := (t + 5)) (hi := (t + 5) + 1) (am_fr.st e20 (by omega) (by omega)) (by omega)
  refine q_blk (lv2 := [(0, vr t), (1, vi k), (2, vi s), (3, vi v)]) (st2 := [vr t, vr t]) kX6_addToken_42 rfl ?_
  refine q_gi eX6_addToken_44 fl_RX6_24 (Or.inl rfl) k21 (z := tc) rfl ?_
  refine q_blk (lv2 := [(0, vr t), (1, vi k), (2, vi s), (3, vi v)]) (st2 := [vi (tc + 1), vr t]) kX6_addToken_47 rfl ?_
  refine q_pi eX6_addToken_49 fl_RX6_24 (fun q hq => by cases hq; exact Or.inl rfl) (Or.inl rfl) k21 (Nat.le_of_ble_eq_true rfl) (l2 := [0, 0, 0, 0, 0, 0, 0, (tc + 1), he, nu, px, cl, hs, er, ea]) rfl (fun h28 e29 => ?_)
  have k30 := am_at e29
  have k31 := (am_ne e29 (t + 3) (by omega)).trans k22
  have k32 := (am_ne e29 (t + 4) (by omega)).trans k23
  have k33 := (am_ne e29 (t + 5) (by omega)).trans k24
  have k34 := (am_ne e29 (t + 6) (by omega)).trans k25
  have k35 := (am_ne e29 j (by omega)).trans k26
  have k36 := k27.kept (lo := t) (hi := t + 1) (am_fr.st e29 (by omega) (by omega)) (by omega)
  exact q_rv rfl eX6_addToken_52 ⟨rfl, ⟨k30, k31, k32, k33, k34, cj, k35, k36⟩, ((((am_fr.st e2 (by omega) (by omega)).tr (am_fr.st e11 (by omega) (by omega))).tr (am_fr.st e20 (by omega) (by omega))).tr (am_fr.st e29 (by omega) (by omega)))⟩
