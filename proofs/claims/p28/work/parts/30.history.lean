/-! CornerClaims$History. -/
/-- a board that says D and these claims, for the stones that it has -/
def BE (h : AH) (b : Nat) (D cm : Int → Int) (sc : Nat) : Prop := ∃ cm', BD h b D cm' sc ∧ ∀ k, 0 ≤ k → k < D 2 → cm' k = cm k
theorem BA.kept {h h1 : AH} {b : Nat} {lo hi : Nat} (hB : BA h b) (f : am_fr h h1 lo hi) (hd : b + 24 ≤ lo ∨ hi ≤ b) : BA h1 b := by
  obtain ⟨⟨D, sx, sy, sv, cm, sc, c⟩, a⟩ := hB
  exact ⟨⟨D, sx, sy, sv, cm, sc, c.kept f (by omega)⟩, am_spk a f (by omega)⟩
theorem BE.kept {h h1 : AH} {b : Nat} {D cm : Int → Int} {sc : Nat} {lo hi : Nat} (hB : BE h b D cm sc) (f : am_fr h h1 lo hi) (hd : b + 24 ≤ lo ∨ hi ≤ b) (hn : D 3 ≤ 6) : BE h1 b D cm sc := by
  obtain ⟨c, hc, e⟩ := hB
  exact ⟨c, hc.kept f hd hn, e⟩
theorem BE.ba {h : AH} {b : Nat} {D cm : Int → Int} {sc : Nat} (hB : BE h b D cm sc) : BA h b := by
  obtain ⟨c, hc, e⟩ := hB
  exact hc.ba
theorem BD.be {h : AH} {b : Nat} {D cm : Int → Int} {sc : Nat} (hB : BD h b D cm sc) : BE h b D cm sc := ⟨cm, hB, fun _ _ _ => rfl⟩
def am_hb (t : Nat) (i : Int) : Option Nat := if 0 ≤ i ∧ i < 8 then some (t + 2 + 24 * i.toNat) else none
def am_hs (nx : Int) (k : Nat) : Int := if (k : Int) < nx then nx - 1 - k else nx + 7 - k
/-- the boards that were, the latest first -/
def HL (h : AH) (t : Nat) (l : List ((Int → Int) × (Int → Int) × Nat)) : Prop := ∃ nx : Int, (0 ≤ nx ∧ nx < 8) ∧ h.1 t = some (1, 3, am_L [0, nx, (l.length : Int)], am_G [some (t + 1), none, none]) ∧ h.1 (t + 1) = some (103, 8, am_L [], am_hb t) ∧ l.length ≤ 8 ∧ (∀ i : Int, 0 ≤ i → i < 8 → BA h (t + 2 + 24 * i.toNat)) ∧ ∀ k e, l[k]? = some e → BE h (t + 2 + 24 * (am_hs nx k).toNat) e.1 e.2.1 e.2.2 ∧ VD e.1
theorem am_hs_r {nx : Int} {k : Nat} (h0 : 0 ≤ nx) (h1 : nx < 8) (hk : k < 8) : 0 ≤ am_hs nx k ∧ am_hs nx k < 8 := by unfold am_hs; split <;> omega
theorem HL.kept {h h1 : AH} {t lo hi : Nat} {l : List ((Int → Int) × (Int → Int) × Nat)} (hH : HL h t l) (f : am_fr h h1 lo hi) (hd : t + 194 ≤ lo ∨ hi ≤ t) : HL h1 t l := by
  obtain ⟨nx, hn, c1, c2, hl, ha, hb⟩ := hH
  refine ⟨nx, hn, (f.2 _ (by omega)).trans c1, (f.2 _ (by omega)).trans c2, hl, fun i i0 i1 => (ha i i0 i1).kept f (by omega), fun k e he => ?_⟩
  obtain ⟨q, v⟩ := hb k e he
  have hk : k < l.length := (List.getElem?_eq_some_iff.mp he).1
  have := am_hs_r hn.1 hn.2 (show k < 8 by omega)
  exact ⟨q.kept f (by omega) v.2.2.2.1.2, v⟩
theorem HL.push {h h1 h2 : AH} {t : Nat} {l : List ((Int → Int) × (Int → Int) × Nat)} {nx nx' dp' : Int} {D cm : Int → Int} {sc : Nat} (hn : 0 ≤ nx ∧ nx < 8) (hl : l.length ≤ 8) (ha : ∀ i : Int, 0 ≤ i → i < 8 → BA h (t + 2 + 24 * i.toNat)) (hb : ∀ k e, l[k]? = some e → BE h (t + 2 + 24 * (am_hs nx k).toNat) e.1 e.2.1 e.2.2 ∧ VD e.1)
    (hB : BE h1 (t + 2 + 24 * nx.toNat) D cm sc) (hD : VD D) (f : am_fr h h1 (t + 2 + 24 * nx.toNat) (t + 2 + 24 * nx.toNat + 24)) (g : am_fr h1 h2 t (t + 1)) (c1 : h2.1 t = some (1, 3, am_L [0, nx', dp'], am_G [some (t + 1), none, none])) (c2 : h2.1 (t + 1) = some (103, 8, am_L [], am_hb t))
    (e1 : nx' = if nx + 1 < 8 then nx + 1 else 0) (e2 : dp' = if 8 < (l.length : Int) + 1 then 8 else (l.length : Int) + 1) : HL h2 t ((D, cm, sc) :: l.take 7) := by
  have d3 := hD.2.2.2.1.2
  refine ⟨nx', by rw [e1]; split <;> omega, ?_, c2, by simp; omega, fun i i0 i1 => ?_, fun k e he => ?_⟩
  · rw [c1, show ((((D, cm, sc) :: l.take 7).length : Nat) : Int) = dp' by rw [e2]; simp; split <;> omega]
  · by_cases q : i = nx
    · subst q; exact (hB.kept g (by omega) d3).ba
    · exact ((ha i i0 i1).kept f (by omega)).kept g (by omega)
  · cases k with
    | zero =>
      have : e = (D, cm, sc) := by simpa using he.symm
      subst this
      rw [show am_hs nx' 0 = nx by rw [e1]; unfold am_hs; split <;> split <;> omega]
      exact ⟨hB.kept g (by omega) d3, hD⟩
    | succ k =>
      rw [List.getElem?_cons_succ, List.getElem?_take] at he
      split at he
      · rename_i hk
        obtain ⟨q, v⟩ := hb k e he
        have hr := am_hs_r hn.1 hn.2 (show k < 8 by omega)
        have hne : am_hs nx k ≠ nx := by unfold am_hs; split <;> omega
        rw [show am_hs nx' (k + 1) = am_hs nx k by rw [e1]; unfold am_hs; split <;> split <;> split <;> omega]
        exact ⟨(q.kept f (by omega) v.2.2.2.1.2).kept g (by omega) v.2.2.2.1.2, v⟩
      · cases he
theorem HL.pop {h h1 h2 h3 : AH} {t b : Nat} {e0 : (Int → Int) × (Int → Int) × Nat} {l : List ((Int → Int) × (Int → Int) × Nat)} {nx nx' dp' : Int} (hn : 0 ≤ nx ∧ nx < 8) (hl : (e0 :: l).length ≤ 8) (ha : ∀ i : Int, 0 ≤ i → i < 8 → BA h (t + 2 + 24 * i.toNat)) (hb : ∀ k e, (e0 :: l)[k]? = some e → BE h (t + 2 + 24 * (am_hs nx k).toNat) e.1 e.2.1 e.2.2 ∧ VD e.1)
    (hd : b + 24 ≤ t ∨ t + 194 ≤ b) (g1 : am_fr h h1 t (t + 1)) (f : am_fr h1 h2 b (b + 24)) (g : am_fr h2 h3 t (t + 1)) (c1 : h3.1 t = some (1, 3, am_L [0, nx', dp'], am_G [some (t + 1), none, none])) (c2 : h3.1 (t + 1) = some (103, 8, am_L [], am_hb t))
    (e1 : nx' = if 0 < nx then nx - 1 else 7) (e2 : dp' = (l.length : Int)) : HL h3 t l := by
  refine ⟨nx', by rw [e1]; split <;> omega, by rw [c1, e2], c2, by simp at hl; omega, fun i i0 i1 => (((ha i i0 i1).kept g1 (by omega)).kept f (by omega)).kept g (by omega), fun k e he => ?_⟩
  obtain ⟨q, v⟩ := hb (k + 1) e (by rw [List.getElem?_cons_succ]; exact he)
  have hk : k < l.length := (List.getElem?_eq_some_iff.mp he).1
  have hl2 : l.length + 1 ≤ 8 := by simpa using hl
  have hr := am_hs_r hn.1 hn.2 (show k + 1 < 8 by omega)
  rw [show am_hs nx' k = am_hs nx (k + 1) by rw [e1]; unfold am_hs; split <;> split <;> split <;> omega]
  have d3 := v.2.2.2.1.2
  exact ⟨((q.kept g1 (by omega) d3).kept f (by omega) d3).kept g (by omega) d3, v⟩

theorem BA.ob {h : AH} {b : Nat} (hA : BA h b) : am_ob h b 0 := by
  obtain ⟨⟨D, sx, sy, sv, cm, sc, c⟩, a⟩ := hA
  exact ⟨_, _, _, c.1⟩

set_option maxHeartbeats 1000000 in
theorem c_X2_save {w : am_w} {h : AH} {t b : Nat} {l : List ((Int → Int) × (Int → Int) × Nat)} {D cm : Int → Int} {sc : Nat} (hH : HL h t l) (hB : BE h b D cm sc) (hD : VD D) (hd : b + 24 ≤ t ∨ t + 194 ≤ b) : AE w m_X2_save 5 [vr t, vr b] h (am_unit (fun h1 => HL h1 t ((D, cm, sc) :: l.take 7) ∧ am_fr h h1 t (t + 194))) := by
  refine AE.of wf_X2_save (Nat.le_of_ble_eq_true rfl) (am_ok_v) ?_
  obtain ⟨nx, hn, t0, t1, hl, ha, hb⟩ := id hH
  obtain ⟨hn0, hn1⟩ := id hn
  obtain ⟨cc, hBc, hec⟩ := hB
  have d2 := hD.2.2.1
  have d3 := hD.2.2.2.1
  refine q_blk (lv2 := [(0, vr t), (1, vr b)]) (st2 := [vr t]) kX2_save_0 rfl ?_
  refine q_gi eX2_save_1 fl_RX2_17 (Or.inl rfl) t0 (z := nx) rfl ?_
  refine AQ.of (AS.if_lt_f eX2_save_4 (by first | assumption | exact ⟨by omega, by omega⟩) (by omega) (by decide)) ?_
  refine q_blk (lv2 := [(0, vr t), (1, vr b)]) (st2 := [vr t]) kX2_save_7 rfl ?_
  refine q_gi eX2_save_8 fl_RX2_17 (Or.inl rfl) t0 (z := nx) rfl ?_
  refine q_blk (lv2 := [(0, vr t), (1, vr b)]) (st2 := [vi 8, vi nx]) kX2_save_11 rfl ?_
  refine AQ.of (AS.ic_ge_f eX2_save_13 (by first | assumption | exact ⟨by omega, by omega⟩) ⟨by decide, by decide⟩ (by omega) (by decide)) ?_
  refine q_blk (lv2 := [(0, vr t), (1, vr b)]) (st2 := [vr t]) kX2_save_16 rfl ?_
  refine q_gr eX2_save_17 fl_RX2_11 (Or.inr ⟨_, rfl⟩) t0 rfl ?_
  refine q_blk (lv2 := [(0, vr t), (1, vr b)]) (st2 := [vr t, vr (t + 1)]) kX2_save_20 rfl ?_
  refine q_gi eX2_save_21 fl_RX2_17 (Or.inl rfl) t0 (z := nx) rfl ?_
  refine q_aa eX2_save_24 t1 (by decide) (by omega) (by omega) (if_pos ⟨by omega, by omega⟩) ?_
  refine q_blk (lv2 := [(0, vr t), (1, vr b)]) (st2 := [vr b, vr (t + 2 + 24 * (Int.toNat nx))]) kX2_save_25 rfl ?_
  refine AQ.callVv (av := [vr b]) (st := []) (c_X0_copyFrom hBc hD (ha nx (by omega) (by omega)) (by omega)) lk_RX2_25 (by decide) rfl rfl (BA.ob (ha nx (by omega) (by omega))) ⟨_, rfl, rfl⟩ (Nat.le_of_ble_eq_true rfl) eX2_save_26 (fun h3 e2 => ?_)
  obtain ⟨⟨Ch3, Xh3, Eh3⟩, Fh3⟩ := e2
  have k4 := (Fh3.2 t (by omega)).trans t0
  have k5 := (Fh3.2 (t + 1) (by omega)).trans t1
  refine q_blk (lv2 := [(0, vr t), (1, vr b)]) (st2 := [vr t, vr t]) kX2_save_29 rfl ?_
  refine q_gi eX2_save_31 fl_RX2_17 (Or.inl rfl) k4 (z := nx) rfl ?_
  refine q_blk (lv2 := [(0, vr t), (1, vr b)]) (st2 := [vi 8, vi (nx + 1), vr t]) kX2_save_34 rfl ?_
  refine AQ.ic_ge (tgt := 50) eX2_save_38 (by decide) (by first | assumption | exact ⟨by omega, by omega⟩) ⟨by decide, by decide⟩ (fun br6 => ?_) (fun br6 => ?_)
  · skip
    refine q_blk (lv2 := [(0, vr t), (1, vr b)]) (st2 := [vi 0, vr t]) kX2_save_50 rfl ?_
    refine q_pi eX2_save_51 fl_RX2_17 (fun q hq => by cases hq; exact Or.inl rfl) (Or.inl rfl) k4 (Nat.le_of_ble_eq_true rfl) (l2 := [0, 0, (l.length : Int)]) rfl (fun h7 e8 => ?_)
    have k9 := am_at e8
    have k10 := (am_ne e8 (t + 1) (by omega)).trans k5
    refine q_blk (lv2 := [(0, vr t), (1, vr b)]) (st2 := [vr t, vr t]) kX2_save_54 rfl ?_
    refine q_gi eX2_save_56 fl_RX2_21 (Or.inl rfl) k9 (z := (l.length : Int)) rfl ?_
    refine q_blk (lv2 := [(0, vr t), (1, vr b)]) (st2 := [vi 8, vi ((l.length : Int) + 1), vr t]) kX2_save_59 rfl ?_
    refine AQ.of (AS.mmin eX2_save_63 (by first | assumption | exact ⟨by omega, by omega⟩) ⟨by decide, by decide⟩ (am_gw 1002 (by decide +kernel) (by decide +kernel)) (am_gw 570 (by decide +kernel) (by decide +kernel)) (am_gw 53 (by decide +kernel) (by decide +kernel)) (am_gw 571 (by decide +kernel) (by decide +kernel)) (by decide) (Nat.le_of_ble_eq_true rfl)) ?_
    obtain ⟨z11, e12⟩ : ∃ q : Int, q = (if 8 < ((l.length : Int) + 1) then 8 else ((l.length : Int) + 1)) := ⟨_, rfl⟩
    rw [← e12]
    refine q_pi eX2_save_66 fl_RX2_21 (fun q hq => by cases hq; exact Or.inl rfl) (Or.inl rfl) k9 (Nat.le_of_ble_eq_true rfl) (l2 := [0, 0, z11]) rfl (fun h13 e14 => ?_)
    have k15 := am_at e14
    have k16 := (am_ne e14 (t + 1) (by omega)).trans k10
    exact q_rv rfl eX2_save_69 ⟨rfl, HL.push hn hl ha hb ⟨_, Xh3, fun k k0 k1 => (Eh3 k k0 (by omega)).trans (hec k k0 k1)⟩ hD Fh3 ((am_fr.st e8 (by omega) (by omega)).tr (am_fr.st e14 (by omega) (by omega))) k15 k16 (by split <;> omega) e12, (Fh3.mo (by omega) (by omega)).tr ((show am_fr _ _ t (t + 1) from ((am_fr.st e8 (by omega) (by omega)).tr (am_fr.st e14 (by omega) (by omega)))).mo (Nat.le_refl _) (by omega))⟩
  · skip
    refine q_blk (lv2 := [(0, vr t), (1, vr b)]) (st2 := [vr t, vr t]) kX2_save_41 rfl ?_
    refine q_gi eX2_save_42 fl_RX2_17 (Or.inl rfl) k4 (z := nx) rfl ?_
    refine q_blk (lv2 := [(0, vr t), (1, vr b)]) (st2 := [vi (nx + 1), vr t]) kX2_save_45 rfl ?_
    refine q_goto (tgt := 51) eX2_save_47 (by decide) ?_
    refine q_pi eX2_save_51 fl_RX2_17 (fun q hq => by cases hq; exact Or.inl rfl) (Or.inl rfl) k4 (Nat.le_of_ble_eq_true rfl) (l2 := [0, (nx + 1), (l.length : Int)]) rfl (fun h17 e18 => ?_)
    have k19 := am_at e18
    have k20 := (am_ne e18 (t + 1) (by omega)).trans k5
    refine q_blk (lv2 := [(0, vr t), (1, vr b)]) (st2 := [vr t, vr t]) kX2_save_54 rfl ?_
    refine q_gi eX2_save_56 fl_RX2_21 (Or.inl rfl) k19 (z := (l.length : Int)) rfl ?_
    refine q_blk (lv2 := [(0, vr t), (1, vr b)]) (st2 := [vi 8, vi ((l.length : Int) + 1), vr t]) kX2_save_59 rfl ?_
    refine AQ.of (AS.mmin eX2_save_63 (by first | assumption | exact ⟨by omega, by omega⟩) ⟨by decide, by decide⟩ (am_gw 1002 (by decide +kernel) (by decide +kernel)) (am_gw 570 (by decide +kernel) (by decide +kernel)) (am_gw 53 (by decide +kernel) (by decide +kernel)) (am_gw 571 (by decide +kernel) (by decide +kernel)) (by decide) (Nat.le_of_ble_eq_true rfl)) ?_
    obtain ⟨z21, e22⟩ : ∃ q : Int, q = (if 8 < ((l.length : Int) + 1) then 8 else ((l.length : Int) + 1)) := ⟨_, rfl⟩
    rw [← e22]
    refine q_pi eX2_save_66 fl_RX2_21 (fun q hq => by cases hq; exact Or.inl rfl) (Or.inl rfl) k19 (Nat.le_of_ble_eq_true rfl) (l2 := [0, (nx + 1), z21]) rfl (fun h23 e24 => ?_)
    have k25 := am_at e24
    have k26 := (am_ne e24 (t + 1) (by omega)).trans k20
    exact q_rv rfl eX2_save_69 ⟨rfl, HL.push hn hl ha hb ⟨_, Xh3, fun k k0 k1 => (Eh3 k k0 (by omega)).trans (hec k k0 k1)⟩ hD Fh3 ((am_fr.st e18 (by omega) (by omega)).tr (am_fr.st e24 (by omega) (by omega))) k25 k26 (by split <;> omega) e22, (Fh3.mo (by omega) (by omega)).tr ((show am_fr _ _ t (t + 1) from ((am_fr.st e18 (by omega) (by omega)).tr (am_fr.st e24 (by omega) (by omega)))).mo (Nat.le_refl _) (by omega))⟩

set_option maxHeartbeats 1000000 in
theorem c_X2_restore {w : am_w} {h : AH} {t b : Nat} {l : List ((Int → Int) × (Int → Int) × Nat)} (hH : HL h t l) (hA : BA h b) (hd : b + 24 ≤ t ∨ t + 194 ≤ b) : AE w m_X2_restore 5 [vr t, vr b] h (am_int (fun z h1 => (l = [] ∧ z = -1 ∧ h = h1) ∨ ∃ e0 l9, l = e0 :: l9 ∧ z = (l9.length : Int) ∧ BE h1 b e0.1 e0.2.1 e0.2.2 ∧ VD e0.1 ∧ HL h1 t l9 ∧ ∃ h2 h3, am_fr h h2 t (t + 1) ∧ am_fr h2 h3 b (b + 24) ∧ am_fr h3 h1 t (t + 1))) := by
  refine AE.of wf_X2_restore (Nat.le_of_ble_eq_true rfl) (am_ok_i) ?_
  obtain ⟨nx, hn, t0, t1, hl, ha, hb⟩ := id hH
  obtain ⟨hn0, hn1⟩ := id hn
  refine q_blk (lv2 := [(0, vr t), (1, vr b)]) (st2 := [vr t]) kX2_restore_0 rfl ?_
  refine q_gi eX2_restore_1 fl_RX2_21 (Or.inl rfl) t0 (z := (l.length : Int)) rfl ?_
  refine AQ.if_ne (tgt := 9) eX2_restore_4 (by decide) (by first | assumption | exact ⟨by omega, by omega⟩) (fun br1 => ?_) (fun br1 => ?_)
  · skip
    obtain ⟨e0, l9, rfl⟩ : ∃ e0 l9, l = e0 :: l9 := by cases l with | nil => exact absurd rfl br1 | cons a as => exact ⟨a, as, rfl⟩
    obtain ⟨⟨cc, hBc, hec⟩, hDc⟩ := hb 0 e0 rfl
    have d2 := hDc.2.2.1
    have d3 := hDc.2.2.2.1.2
    refine q_blk (lv2 := [(0, vr t), (1, vr b)]) (st2 := [vr t, vr t]) kX2_restore_9 rfl ?_
    refine q_gi eX2_restore_11 fl_RX2_17 (Or.inl rfl) t0 (z := nx) rfl ?_
    refine AQ.if_le (tgt := 26) eX2_restore_14 (by decide) (by first | assumption | exact ⟨by omega, by omega⟩) (fun br2 => ?_) (fun br2 => ?_)
    · skip
      refine q_blk (lv2 := [(0, vr t), (1, vr b)]) (st2 := [vi 7, vr t]) kX2_restore_26 rfl ?_
      refine q_pi eX2_restore_28 fl_RX2_17 (fun q hq => by cases hq; exact Or.inl rfl) (Or.inl rfl) t0 (Nat.le_of_ble_eq_true rfl) (l2 := [0, 7, ((e0 :: l9).length : Int)]) rfl (fun h3 e4 => ?_)
      have k5 := am_at e4
      have k6 := (am_ne e4 (t + 1) (by omega)).trans t1
      rw [show am_hs nx 0 = 7 by unfold am_hs; split <;> omega] at hBc
      refine q_blk (lv2 := [(0, vr t), (1, vr b)]) (st2 := [vr t]) kX2_restore_31 rfl ?_
      refine q_gi eX2_restore_32 fl_RX2_17 (Or.inl rfl) k5 (z := 7) rfl ?_
      refine AQ.of (AS.if_lt_f eX2_restore_35 ⟨by decide, by decide⟩ (by omega) (by decide)) ?_
      refine q_blk (lv2 := [(0, vr t), (1, vr b)]) (st2 := [vr t]) kX2_restore_38 rfl ?_
      refine q_gi eX2_restore_39 fl_RX2_17 (Or.inl rfl) k5 (z := 7) rfl ?_
      refine q_blk (lv2 := [(0, vr t), (1, vr b)]) (st2 := [vi 8, vi 7]) kX2_restore_42 rfl ?_
      refine AQ.of (AS.ic_ge_f eX2_restore_44 ⟨by decide, by decide⟩ ⟨by decide, by decide⟩ (by omega) (by decide)) ?_
      refine q_blk (lv2 := [(0, vr t), (1, vr b)]) (st2 := [vr t, vr b]) kX2_restore_47 rfl ?_
      refine q_gr eX2_restore_49 fl_RX2_11 (Or.inr ⟨_, rfl⟩) k5 rfl ?_
      refine q_blk (lv2 := [(0, vr t), (1, vr b)]) (st2 := [vr t, vr (t + 1), vr b]) kX2_restore_52 rfl ?_
      refine q_gi eX2_restore_53 fl_RX2_17 (Or.inl rfl) k5 (z := 7) rfl ?_
      refine q_aa eX2_restore_56 k6 (by decide) (by omega) (by omega) (if_pos ⟨by omega, by omega⟩) ?_
      refine AQ.callVv (av := [vr (t + 2 + 24 * (Int.toNat 7))]) (st := []) (c_X0_copyFrom (hBc.kept (lo := t) (hi := t + 1) (am_fr.st e4 (by omega) (by omega)) (by omega) d3) hDc (hA.kept (lo := t) (hi := t + 1) (am_fr.st e4 (by omega) (by omega)) (by omega)) (by omega)) lk_RX2_25 (by decide) rfl rfl (BA.ob (hA.kept (lo := t) (hi := t + 1) (am_fr.st e4 (by omega) (by omega)) (by omega))) ⟨_, rfl, rfl⟩ (Nat.le_of_ble_eq_true rfl) eX2_restore_57 (fun h9 e8 => ?_)
      obtain ⟨⟨Ch9, Xh9, Eh9⟩, Fh9⟩ := e8
      have k10 := (Fh9.2 t (by omega)).trans k5
      have k11 := (Fh9.2 (t + 1) (by omega)).trans k6
      refine q_blk (lv2 := [(0, vr t), (1, vr b)]) (st2 := [vr t, vr t]) kX2_restore_60 rfl ?_
      refine q_gi eX2_restore_62 fl_RX2_21 (Or.inl rfl) k10 (z := ((e0 :: l9).length : Int)) rfl ?_
      refine q_blk (lv2 := [(0, vr t), (1, vr b)]) (st2 := [vi (((e0 :: l9).length : Int) - 1), vr t]) kX2_restore_65 rfl ?_
      refine q_pi eX2_restore_67 fl_RX2_21 (fun q hq => by cases hq; exact Or.inl rfl) (Or.inl rfl) k10 (Nat.le_of_ble_eq_true rfl) (l2 := [0, 7, (((e0 :: l9).length : Int) - 1)]) rfl (fun h12 e13 => ?_)
      have k14 := am_at e13
      have k15 := (am_ne e13 (t + 1) (by omega)).trans k11
      refine q_blk (lv2 := [(0, vr t), (1, vr b)]) (st2 := [vr t]) kX2_restore_70 rfl ?_
      refine q_gi eX2_restore_71 fl_RX2_21 (Or.inl rfl) k14 (z := (((e0 :: l9).length : Int) - 1)) rfl ?_
      exact q_ri rfl eX2_restore_74 ⟨(((e0 :: l9).length : Int) - 1), rfl, Or.inr ⟨e0, l9, rfl, by simp, ⟨_, Xh9.kept (lo := t) (hi := t + 1) (am_fr.st e13 (by omega) (by omega)) (by omega) d3, fun k k0 k1 => (Eh9 k k0 (by omega)).trans (hec k k0 k1)⟩, hDc, HL.pop hn hl ha hb hd (am_fr.st (lo := t) (hi := t + 1) e4 (by omega) (by omega)) Fh9 (am_fr.st e13 (by omega) (by omega)) k14 k15 (by split <;> omega) (by simp), _, _, (am_fr.st (lo := t) (hi := t + 1) e4 (by omega) (by omega)), Fh9, (am_fr.st e13 (by omega) (by omega))⟩⟩
    · skip
      refine q_blk (lv2 := [(0, vr t), (1, vr b)]) (st2 := [vr t, vr t]) kX2_restore_17 rfl ?_
      refine q_gi eX2_restore_18 fl_RX2_17 (Or.inl rfl) t0 (z := nx) rfl ?_
      refine q_blk (lv2 := [(0, vr t), (1, vr b)]) (st2 := [vi (nx - 1), vr t]) kX2_restore_21 rfl ?_
      refine q_goto (tgt := 28) eX2_restore_23 (by decide) ?_
      refine q_pi eX2_restore_28 fl_RX2_17 (fun q hq => by cases hq; exact Or.inl rfl) (Or.inl rfl) t0 (Nat.le_of_ble_eq_true rfl) (l2 := [0, (nx - 1), ((e0 :: l9).length : Int)]) rfl (fun h16 e17 => ?_)
      have k18 := am_at e17
      have k19 := (am_ne e17 (t + 1) (by omega)).trans t1
      rw [show am_hs nx 0 = (nx - 1) by unfold am_hs; split <;> omega] at hBc
      refine q_blk (lv2 := [(0, vr t), (1, vr b)]) (st2 := [vr t]) kX2_restore_31 rfl ?_
      refine q_gi eX2_restore_32 fl_RX2_17 (Or.inl rfl) k18 (z := (nx - 1)) rfl ?_
      refine AQ.of (AS.if_lt_f eX2_restore_35 (by first | assumption | exact ⟨by omega, by omega⟩) (by omega) (by decide)) ?_
      refine q_blk (lv2 := [(0, vr t), (1, vr b)]) (st2 := [vr t]) kX2_restore_38 rfl ?_
      refine q_gi eX2_restore_39 fl_RX2_17 (Or.inl rfl) k18 (z := (nx - 1)) rfl ?_
      refine q_blk (lv2 := [(0, vr t), (1, vr b)]) (st2 := [vi 8, vi (nx - 1)]) kX2_restore_42 rfl ?_
      refine AQ.of (AS.ic_ge_f eX2_restore_44 (by first | assumption | exact ⟨by omega, by omega⟩) ⟨by decide, by decide⟩ (by omega) (by decide)) ?_
      refine q_blk (lv2 := [(0, vr t), (1, vr b)]) (st2 := [vr t, vr b]) kX2_restore_47 rfl ?_
      refine q_gr eX2_restore_49 fl_RX2_11 (Or.inr ⟨_, rfl⟩) k18 rfl ?_
      refine q_blk (lv2 := [(0, vr t), (1, vr b)]) (st2 := [vr t, vr (t + 1), vr b]) kX2_restore_52 rfl ?_
      refine q_gi eX2_restore_53 fl_RX2_17 (Or.inl rfl) k18 (z := (nx - 1)) rfl ?_
      refine q_aa eX2_restore_56 k19 (by decide) (by omega) (by omega) (if_pos ⟨by omega, by omega⟩) ?_
      refine AQ.callVv (av := [vr (t + 2 + 24 * (Int.toNat (nx - 1)))]) (st := []) (c_X0_copyFrom (hBc.kept (lo := t) (hi := t + 1) (am_fr.st e17 (by omega) (by omega)) (by omega) d3) hDc (hA.kept (lo := t) (hi := t + 1) (am_fr.st e17 (by omega) (by omega)) (by omega)) (by omega)) lk_RX2_25 (by decide) rfl rfl (BA.ob (hA.kept (lo := t) (hi := t + 1) (am_fr.st e17 (by omega) (by omega)) (by omega))) ⟨_, rfl, rfl⟩ (Nat.le_of_ble_eq_true rfl) eX2_restore_57 (fun h22 e21 => ?_)
      obtain ⟨⟨Ch22, Xh22, Eh22⟩, Fh22⟩ := e21
      have k23 := (Fh22.2 t (by omega)).trans k18
      have k24 := (Fh22.2 (t + 1) (by omega)).trans k19
      refine q_blk (lv2 := [(0, vr t), (1, vr b)]) (st2 := [vr t, vr t]) kX2_restore_60 rfl ?_
      refine q_gi eX2_restore_62 fl_RX2_21 (Or.inl rfl) k23 (z := ((e0 :: l9).length : Int)) rfl ?_
      refine q_blk (lv2 := [(0, vr t), (1, vr b)]) (st2 := [vi (((e0 :: l9).length : Int) - 1), vr t]) kX2_restore_65 rfl ?_
      refine q_pi eX2_restore_67 fl_RX2_21 (fun q hq => by cases hq; exact Or.inl rfl) (Or.inl rfl) k23 (Nat.le_of_ble_eq_true rfl) (l2 := [0, (nx - 1), (((e0 :: l9).length : Int) - 1)]) rfl (fun h25 e26 => ?_)
      have k27 := am_at e26
      have k28 := (am_ne e26 (t + 1) (by omega)).trans k24
      refine q_blk (lv2 := [(0, vr t), (1, vr b)]) (st2 := [vr t]) kX2_restore_70 rfl ?_
      refine q_gi eX2_restore_71 fl_RX2_21 (Or.inl rfl) k27 (z := (((e0 :: l9).length : Int) - 1)) rfl ?_
      exact q_ri rfl eX2_restore_74 ⟨(((e0 :: l9).length : Int) - 1), rfl, Or.inr ⟨e0, l9, rfl, by simp, ⟨_, Xh22.kept (lo := t) (hi := t + 1) (am_fr.st e26 (by omega) (by omega)) (by omega) d3, fun k k0 k1 => (Eh22 k k0 (by omega)).trans (hec k k0 k1)⟩, hDc, HL.pop hn hl ha hb hd (am_fr.st (lo := t) (hi := t + 1) e17 (by omega) (by omega)) Fh22 (am_fr.st e26 (by omega) (by omega)) k27 k28 (by split <;> omega) (by simp), _, _, (am_fr.st (lo := t) (hi := t + 1) e17 (by omega) (by omega)), Fh22, (am_fr.st e26 (by omega) (by omega))⟩⟩
  · skip
    refine q_blk (lv2 := [(0, vr t), (1, vr b)]) (st2 := [vi (-1)]) kX2_restore_7 rfl ?_
    exact q_ri rfl eX2_restore_8 ⟨(-1), rfl, Or.inl ⟨List.eq_nil_of_length_eq_zero (by omega), rfl, rfl⟩⟩
