/-! CornerClaimsModel: geometry; what reads its data. -/
def gm_MR (n : Nat) : List (Option Nat) := [none, some (n + 1), none, none, none, none, none, none, some (n + 2), some (n + 3), some (n + 4), none, none, none, none, none, none, none, none, some (n + 13)]
/-- the model's object and its data -/
def MM (h : AH) (n : Nat) (th bl tl ps er ea eo ud g0 g1 g2 g3 ns ne se : Int) (D : Int → Int) : Prop := h.1 n = some (8, 20, am_L [th, 0, bl, tl, ps, er, ea, eo, 0, 0, 0, ud, g0, g1, g2, g3, ns, ne, se, 0], am_G [none, some (n + 1), none, none, none, none, none, none, some (n + 2), some (n + 3), some (n + 4), none, none, none, none, none, none, none, none, some (n + 13)]) ∧ h.1 (n + 2) = some (100, 1528, D, am_N)
theorem MM.ob {h : AH} {n : Nat} {th bl tl ps er ea eo ud g0 g1 g2 g3 ns ne se : Int} {D : Int → Int} (k : MM h n th bl tl ps er ea eo ud g0 g1 g2 g3 ns ne se D) : am_ob h n 8 := ⟨_, _, _, k.1⟩
theorem MM.kept {h h1 : AH} {n lo hi : Nat} {th bl tl ps er ea eo ud g0 g1 g2 g3 ns ne se : Int} {D : Int → Int} (k : MM h n th bl tl ps er ea eo ud g0 g1 g2 g3 ns ne se D) (f : am_fr h h1 lo hi) (hd : n + 3 ≤ lo ∨ hi ≤ n) : MM h1 n th bl tl ps er ea eo ud g0 g1 g2 g3 ns ne se D := ⟨(f.2 _ (by omega)).trans k.1, (f.2 _ (by omega)).trans k.2⟩
theorem gm_on_lh {ax ay bx by' px py : Int} : gm_on ax ay bx by' px py ↔ gm_turn ax ay bx by' px py = 0 ∧ (gm_lo ax bx ≤ px ∧ px ≤ gm_hi ax bx) ∧ (gm_lo ay by' ≤ py ∧ py ≤ gm_hi ay by') := by
  rw [gm_on_bx]
  have e : ∀ a b p : Int, ((a ≤ p ∧ p ≤ b) ∨ (b ≤ p ∧ p ≤ a)) ↔ (gm_lo a b ≤ p ∧ p ≤ gm_hi a b) := by
    intro a b p
    unfold gm_lo gm_hi
    split <;> split <;> omega
  rw [e, e]
theorem gm_turn_0 (a b c d : Int) : gm_turn 0 0 a b c d = a * d - c * b := by
  unfold gm_turn
  rw [Int.sub_zero, Int.sub_zero, Int.sub_zero, Int.sub_zero, Int.mul_comm b c]
/-- the first of the smallest of the first m around a point, one left out -/
def gm_smb (D : Int → Int) (x y but : Int) : Nat → Int → Prop
  | 0, z => z = -1
  | m + 1, z => ∃ b, gm_smb D x y but m b ∧ (((m : Int) ≠ but ∧ gm_sP D x y b m ∧ z = m) ∨ (¬ ((m : Int) ≠ but ∧ gm_sP D x y b m) ∧ z = b))
theorem gm_smb_t {D : Int → Int} {x y i b but : Int} (h0 : 0 ≤ i) (h : gm_smb D x y but i.toNat b) (hb : i ≠ but) (hp : gm_sP D x y b i) : gm_smb D x y but (i + 1).toNat i := by
  obtain ⟨k, rfl⟩ := Int.eq_ofNat_of_zero_le h0
  rw [show ((k : Int) + 1).toNat = k + 1 by omega]
  exact ⟨b, h, Or.inl ⟨hb, hp, rfl⟩⟩
theorem gm_smb_f {D : Int → Int} {x y i b but : Int} (h0 : 0 ≤ i) (h : gm_smb D x y but i.toNat b) (hp : ¬ (i ≠ but ∧ gm_sP D x y b i)) : gm_smb D x y but (i + 1).toNat b := by
  obtain ⟨k, rfl⟩ := Int.eq_ofNat_of_zero_le h0
  rw [show ((k : Int) + 1).toNat = k + 1 by omega]
  exact ⟨b, h, Or.inr ⟨hp, rfl⟩⟩
theorem gm_smb_1 {D : Int → Int} {x y : Int} : ∀ {m : Nat} {z : Int}, gm_smb D x y (-1) m z → gm_sma D x y m z
  | 0, _, h => h
  | m + 1, z, ⟨b, h1, h2⟩ => ⟨b, gm_smb_1 h1, h2.imp (fun q => ⟨q.2.1, q.2.2⟩) (fun q => ⟨fun w => q.1 ⟨by omega, w⟩, q.2⟩)⟩
theorem gm_smb_r {D : Int → Int} {x y but : Int} : ∀ {m : Nat} {z : Int}, gm_smb D x y but m z → -1 ≤ z ∧ z < m
  | 0, z, h => by cases h; decide
  | m + 1, z, ⟨b, h1, h2⟩ => by
    have := gm_smb_r h1
    rcases h2 with ⟨q, w, e⟩ | ⟨q, e⟩ <;> omega
/-- how many points of the field are so -/
noncomputable def gm_c1 (D : Int → Int) (p s x y : Int) : Int := gm_ite (gm_si s (pN D p) (pX D p) (pY D p) x y) 1 0
noncomputable def gm_ca (D : Int → Int) (p s : Int) : Int := gm_sm (fun x => gm_sm (gm_c1 D p s x) (D 1 + 1).toNat) (D 0 + 1).toNat
theorem gm_si_one {z z' n x y : Int} {xs ys : Int → Int} (h : gm_si z n xs ys x y) (h' : gm_si z' n xs ys x y) : z = z' := by
  rcases h with ⟨e, a⟩ | ⟨e, a, b⟩ | ⟨e, a, b⟩ <;> rcases h' with ⟨e', a'⟩ | ⟨e', a', b'⟩ | ⟨e', a', b'⟩ <;> first | omega | contradiction
theorem gm_si_r {z n x y : Int} {xs ys : Int → Int} (h : gm_si z n xs ys x y) : 0 ≤ z ∧ z ≤ 2 := by
  rcases h with ⟨e, a⟩ | ⟨e, a, b⟩ | ⟨e, a, b⟩ <;> omega

set_option maxHeartbeats 1000000 in
theorem c_X9_in {w : am_w} {h : AH} {v lo hi : Int} (r_v : am_r v) (r_lo : am_r lo) (r_hi : am_r hi)  : AE w m_X9_in 1 [vi v, vi lo, vi hi] h (am_intp h (fun z => am_b z (lo ≤ v ∧ v ≤ hi))) := by
  refine AE.of wf_X9_in (Nat.le_of_ble_eq_true rfl) (am_ok_zp (fun z q => am_bz q)) ?_
  refine q_blk (lv2 := [(0, vi v), (1, vi lo), (2, vi hi)]) (st2 := [vi lo, vi v]) kX9_in_0 rfl ?_
  refine AQ.ic_lt (tgt := 14) eX9_in_2 (by decide) (by first | assumption | exact ⟨by omega, by omega⟩) (by first | assumption | exact ⟨by omega, by omega⟩) (fun br1 => ?_) (fun br1 => ?_)
  · skip
    refine q_blk (lv2 := [(0, vi v), (1, vi lo), (2, vi hi)]) (st2 := [vi 0]) kX9_in_14 rfl ?_
    exact q_rz rfl eX9_in_15 (by decide) ⟨0, rfl, Or.inr ⟨rfl, by omega⟩, rfl⟩
  · skip
    refine q_blk (lv2 := [(0, vi v), (1, vi lo), (2, vi hi)]) (st2 := [vi hi, vi v]) kX9_in_5 rfl ?_
    refine AQ.ic_gt (tgt := 14) eX9_in_7 (by decide) (by first | assumption | exact ⟨by omega, by omega⟩) (by first | assumption | exact ⟨by omega, by omega⟩) (fun br2 => ?_) (fun br2 => ?_)
    · skip
      refine q_blk (lv2 := [(0, vi v), (1, vi lo), (2, vi hi)]) (st2 := [vi 0]) kX9_in_14 rfl ?_
      exact q_rz rfl eX9_in_15 (by decide) ⟨0, rfl, Or.inr ⟨rfl, by omega⟩, rfl⟩
    · skip
      refine q_blk (lv2 := [(0, vi v), (1, vi lo), (2, vi hi)]) (st2 := [vi 1]) kX9_in_10 rfl ?_
      refine q_goto (tgt := 15) eX9_in_11 (by decide) ?_
      exact q_rz rfl eX9_in_15 (by decide) ⟨1, rfl, Or.inl ⟨rfl, by omega⟩, rfl⟩

set_option maxHeartbeats 1000000 in
theorem c_X9_min {w : am_w} {h : AH} {a b : Int} (r_a : am_r a) (r_b : am_r b)  : AE w m_X9_min 1 [vi a, vi b] h (am_intp h (fun z => z = gm_lo a b)) := by
  refine AE.of wf_X9_min (Nat.le_of_ble_eq_true rfl) (am_ok_ip) ?_
  refine q_blk (lv2 := [(0, vi a), (1, vi b)]) (st2 := [vi b, vi a]) kX9_min_0 rfl ?_
  refine AQ.ic_ge (tgt := 9) eX9_min_2 (by decide) (by first | assumption | exact ⟨by omega, by omega⟩) (by first | assumption | exact ⟨by omega, by omega⟩) (fun br1 => ?_) (fun br1 => ?_)
  · skip
    refine q_blk (lv2 := [(0, vi a), (1, vi b)]) (st2 := [vi b]) kX9_min_9 rfl ?_
    exact q_ri rfl eX9_min_10 ⟨b, rfl, by unfold gm_lo; split <;> omega, rfl⟩
  · skip
    refine q_blk (lv2 := [(0, vi a), (1, vi b)]) (st2 := [vi a]) kX9_min_5 rfl ?_
    refine q_goto (tgt := 10) eX9_min_6 (by decide) ?_
    exact q_ri rfl eX9_min_10 ⟨a, rfl, by unfold gm_lo; split <;> omega, rfl⟩

set_option maxHeartbeats 1000000 in
theorem c_X9_max {w : am_w} {h : AH} {a b : Int} (r_a : am_r a) (r_b : am_r b)  : AE w m_X9_max 1 [vi a, vi b] h (am_intp h (fun z => z = gm_hi a b)) := by
  refine AE.of wf_X9_max (Nat.le_of_ble_eq_true rfl) (am_ok_ip) ?_
  refine q_blk (lv2 := [(0, vi a), (1, vi b)]) (st2 := [vi b, vi a]) kX9_max_0 rfl ?_
  refine AQ.ic_le (tgt := 9) eX9_max_2 (by decide) (by first | assumption | exact ⟨by omega, by omega⟩) (by first | assumption | exact ⟨by omega, by omega⟩) (fun br1 => ?_) (fun br1 => ?_)
  · skip
    refine q_blk (lv2 := [(0, vi a), (1, vi b)]) (st2 := [vi b]) kX9_max_9 rfl ?_
    exact q_ri rfl eX9_max_10 ⟨b, rfl, by unfold gm_hi; split <;> omega, rfl⟩
  · skip
    refine q_blk (lv2 := [(0, vi a), (1, vi b)]) (st2 := [vi a]) kX9_max_5 rfl ?_
    refine q_goto (tgt := 10) eX9_max_6 (by decide) ?_
    exact q_ri rfl eX9_max_10 ⟨a, rfl, by unfold gm_hi; split <;> omega, rfl⟩

theorem gm_lo_r (a b : Int) : (gm_lo a b = a ∨ gm_lo a b = b) := by unfold gm_lo; split <;> simp
theorem gm_hi_r (a b : Int) : (gm_hi a b = a ∨ gm_hi a b = b) := by unfold gm_hi; split <;> simp
set_option maxHeartbeats 1000000 in
theorem c_X9_at {w : am_w} {h : AH} {p : Int}  : AE w m_X9_at 1 [vi p] h (am_intp h (fun z => z = 66 + 27 * p)) := by
  refine AE.of wf_X9_at (Nat.le_of_ble_eq_true rfl) (am_ok_ip) ?_
  refine q_blk (lv2 := [(0, vi p)]) (st2 := [vi (66 + (27 * p))]) kX9_at_0 rfl ?_
  exact q_ri rfl eX9_at_7 ⟨(66 + (27 * p)), rfl, rfl, rfl⟩

set_option maxHeartbeats 1000000 in
theorem c_X9_turn {w : am_w} {h : AH} {ax ay bx by' x y : Int}  : AE w m_X9_turn 1 [vi ax, vi ay, vi bx, vi by', vi x, vi y] h (am_intp h (fun z => z = gm_turn ax ay bx by' x y)) := by
  refine AE.of wf_X9_turn (Nat.le_of_ble_eq_true rfl) (am_ok_ip) ?_
  refine q_blk (lv2 := [(0, vi ax), (1, vi ay), (2, vi bx), (3, vi by'), (4, vi x), (5, vi y)]) (st2 := [vi (((bx - ax) * (y - ay)) - ((by' - ay) * (x - ax)))]) kX9_turn_0 rfl ?_
  exact q_ri rfl eX9_turn_17 ⟨(((bx - ax) * (y - ay)) - ((by' - ay) * (x - ax))), rfl, rfl, rfl⟩

set_option maxHeartbeats 1000000 in
theorem c_X9_isOn {w : am_w} {h : AH} {ax ay bx by' x y : Int} (h_ax : am_c ax) (h_ay : am_c ay) (h_bx : am_c bx) (h_by : am_c by') (h_x : am_c x) (h_y : am_c y)  : AE w m_X9_isOn 2 [vi ax, vi ay, vi bx, vi by', vi x, vi y] h (am_intp h (fun z => am_b z (gm_on ax ay bx by' x y))) := by
  refine AE.of wf_X9_isOn (Nat.le_of_ble_eq_true rfl) (am_ok_zp (fun z q => am_bz q)) ?_
  have rc1 := h_ax
  have rc2 := h_ay
  have rc3 := h_bx
  have rc4 := h_by
  have rc5 := h_x
  have rc6 := h_y
  unfold am_c at rc1 rc2 rc3 rc4 rc5 rc6
  refine q_blk (lv2 := [(0, vi ax), (1, vi ay), (2, vi bx), (3, vi by'), (4, vi x), (5, vi y)]) (st2 := [vi y, vi x, vi by', vi bx, vi ay, vi ax]) kX9_isOn_0 rfl ?_
  refine q_Si (av := [vi ax, vi ay, vi bx, vi by', vi x, vi y]) (st := []) c_X9_turn lk_RX9_46 (by decide) rfl rfl (Nat.le_of_ble_eq_true rfl) eX9_isOn_8 (fun z1 e2 => ?_)
  subst e2
  have tr9 := gm_turn_r (ax := ax) (ay := ay) (bx := bx) (by' := by') (px := x) (py := y) (by first | assumption | exact ⟨by omega, by omega⟩) (by first | assumption | exact ⟨by omega, by omega⟩) (by first | assumption | exact ⟨by omega, by omega⟩) (by first | assumption | exact ⟨by omega, by omega⟩) (by first | assumption | exact ⟨by omega, by omega⟩) (by first | assumption | exact ⟨by omega, by omega⟩)
  refine AQ.if_ne (tgt := 54) eX9_isOn_11 (by decide) (by first | assumption | exact ⟨by omega, by omega⟩) (fun br3 => ?_) (fun br3 => ?_)
  · skip
    refine q_blk (lv2 := [(0, vi ax), (1, vi ay), (2, vi bx), (3, vi by'), (4, vi x), (5, vi y)]) (st2 := [vi 0]) kX9_isOn_54 rfl ?_
    exact q_rz rfl eX9_isOn_55 (by decide) ⟨0, rfl, Or.inr ⟨rfl, fun q => by
      have q := gm_on_lh.mp q
      omega⟩, rfl⟩
  · skip
    refine q_blk (lv2 := [(0, vi ax), (1, vi ay), (2, vi bx), (3, vi by'), (4, vi x), (5, vi y)]) (st2 := [vi bx, vi ax, vi x]) kX9_isOn_14 rfl ?_
    refine q_Si (av := [vi ax, vi bx]) (st := [vi x]) (c_X9_min (by first | assumption | exact ⟨by omega, by omega⟩) (by first | assumption | exact ⟨by omega, by omega⟩)) lk_RX9_50 (by decide) rfl rfl (Nat.le_of_ble_eq_true rfl) eX9_isOn_18 (fun z4 e5 => ?_)
    subst e5
    have lo9 := gm_lo_r ax bx
    refine q_blk (lv2 := [(0, vi ax), (1, vi ay), (2, vi bx), (3, vi by'), (4, vi x), (5, vi y)]) (st2 := [vi bx, vi ax, vi (gm_lo ax bx), vi x]) kX9_isOn_21 rfl ?_
    refine q_Si (av := [vi ax, vi bx]) (st := [vi (gm_lo ax bx), vi x]) (c_X9_max (by first | assumption | exact ⟨by omega, by omega⟩) (by first | assumption | exact ⟨by omega, by omega⟩)) lk_RX9_54 (by decide) rfl rfl (Nat.le_of_ble_eq_true rfl) eX9_isOn_23 (fun z6 e7 => ?_)
    subst e7
    have hi9 := gm_hi_r ax bx
    refine q_Si (av := [vi x, vi (gm_lo ax bx), vi (gm_hi ax bx)]) (st := []) (c_X9_in (by first | assumption | exact ⟨by omega, by omega⟩) (by first | assumption | exact ⟨by omega, by omega⟩) (by first | assumption | exact ⟨by omega, by omega⟩)) lk_RX9_57 (by decide) rfl rfl (Nat.le_of_ble_eq_true rfl) eX9_isOn_26 (fun z8 e9 => ?_)
    rcases e9 with ⟨rfl, e9⟩ | ⟨rfl, e9⟩
    · skip
      refine AQ.of (AS.if_eq_f eX9_isOn_29 ⟨by decide, by decide⟩ (by decide) (by decide)) ?_
      refine q_blk (lv2 := [(0, vi ax), (1, vi ay), (2, vi bx), (3, vi by'), (4, vi x), (5, vi y)]) (st2 := [vi by', vi ay, vi y]) kX9_isOn_32 rfl ?_
      refine q_Si (av := [vi ay, vi by']) (st := [vi y]) (c_X9_min (by first | assumption | exact ⟨by omega, by omega⟩) (by first | assumption | exact ⟨by omega, by omega⟩)) lk_RX9_50 (by decide) rfl rfl (Nat.le_of_ble_eq_true rfl) eX9_isOn_36 (fun z10 e11 => ?_)
      subst e11
      have lo9 := gm_lo_r ay by'
      refine q_blk (lv2 := [(0, vi ax), (1, vi ay), (2, vi bx), (3, vi by'), (4, vi x), (5, vi y)]) (st2 := [vi by', vi ay, vi (gm_lo ay by'), vi y]) kX9_isOn_39 rfl ?_
      refine q_Si (av := [vi ay, vi by']) (st := [vi (gm_lo ay by'), vi y]) (c_X9_max (by first | assumption | exact ⟨by omega, by omega⟩) (by first | assumption | exact ⟨by omega, by omega⟩)) lk_RX9_54 (by decide) rfl rfl (Nat.le_of_ble_eq_true rfl) eX9_isOn_41 (fun z12 e13 => ?_)
      subst e13
      have hi9 := gm_hi_r ay by'
      refine q_Si (av := [vi y, vi (gm_lo ay by'), vi (gm_hi ay by')]) (st := []) (c_X9_in (by first | assumption | exact ⟨by omega, by omega⟩) (by first | assumption | exact ⟨by omega, by omega⟩) (by first | assumption | exact ⟨by omega, by omega⟩)) lk_RX9_57 (by decide) rfl rfl (Nat.le_of_ble_eq_true rfl) eX9_isOn_44 (fun z14 e15 => ?_)
      rcases e15 with ⟨rfl, e15⟩ | ⟨rfl, e15⟩
      · skip
        refine AQ.of (AS.if_eq_f eX9_isOn_47 ⟨by decide, by decide⟩ (by decide) (by decide)) ?_
        refine q_blk (lv2 := [(0, vi ax), (1, vi ay), (2, vi bx), (3, vi by'), (4, vi x), (5, vi y)]) (st2 := [vi 1]) kX9_isOn_50 rfl ?_
        refine q_goto (tgt := 55) eX9_isOn_51 (by decide) ?_
        exact q_rz rfl eX9_isOn_55 (by decide) ⟨1, rfl, Or.inl ⟨rfl, gm_on_lh.mpr ⟨by omega, e9, e15⟩⟩, rfl⟩
      · skip
        refine AQ.of (AS.if_eq_t (tgt := 54) eX9_isOn_47 (by decide) ⟨by decide, by decide⟩ (by decide)) ?_
        refine q_blk (lv2 := [(0, vi ax), (1, vi ay), (2, vi bx), (3, vi by'), (4, vi x), (5, vi y)]) (st2 := [vi 0]) kX9_isOn_54 rfl ?_
        exact q_rz rfl eX9_isOn_55 (by decide) ⟨0, rfl, Or.inr ⟨rfl, fun q => by
      have q := gm_on_lh.mp q
      omega⟩, rfl⟩
    · skip
      refine AQ.of (AS.if_eq_t (tgt := 54) eX9_isOn_29 (by decide) ⟨by decide, by decide⟩ (by decide)) ?_
      refine q_blk (lv2 := [(0, vi ax), (1, vi ay), (2, vi bx), (3, vi by'), (4, vi x), (5, vi y)]) (st2 := [vi 0]) kX9_isOn_54 rfl ?_
      exact q_rz rfl eX9_isOn_55 (by decide) ⟨0, rfl, Or.inr ⟨rfl, fun q => by
      have q := gm_on_lh.mp q
      omega⟩, rfl⟩

set_option maxHeartbeats 1000000 in
theorem c_X9_isWithin {w : am_w} {h : AH} {ax ay bx by' x y : Int} (h_ax : am_c ax) (h_ay : am_c ay) (h_bx : am_c bx) (h_by : am_c by') (h_x : am_c x) (h_y : am_c y)  : AE w m_X9_isWithin 3 [vi ax, vi ay, vi bx, vi by', vi x, vi y] h (am_intp h (fun z => am_b z (gm_wi ax ay bx by' x y))) := by
  refine AE.of wf_X9_isWithin (Nat.le_of_ble_eq_true rfl) (am_ok_zp (fun z q => am_bz q)) ?_
  have rc1 := h_ax
  have rc2 := h_ay
  have rc3 := h_bx
  have rc4 := h_by
  have rc5 := h_x
  have rc6 := h_y
  unfold am_c at rc1 rc2 rc3 rc4 rc5 rc6
  refine q_blk (lv2 := [(0, vi ax), (1, vi ay), (2, vi bx), (3, vi by'), (4, vi x), (5, vi y)]) (st2 := [vi y, vi x, vi by', vi bx, vi ay, vi ax]) kX9_isWithin_0 rfl ?_
  refine q_Si (av := [vi ax, vi ay, vi bx, vi by', vi x, vi y]) (st := []) (c_X9_isOn (by first | assumption | exact ⟨by omega, by omega⟩) (by first | assumption | exact ⟨by omega, by omega⟩) (by first | assumption | exact ⟨by omega, by omega⟩) (by first | assumption | exact ⟨by omega, by omega⟩) (by first | assumption | exact ⟨by omega, by omega⟩) (by first | assumption | exact ⟨by omega, by omega⟩)) lk_RX9_61 (by decide) rfl rfl (Nat.le_of_ble_eq_true rfl) eX9_isWithin_8 (fun z1 e2 => ?_)
  rcases e2 with ⟨rfl, e2⟩ | ⟨rfl, e2⟩
  · skip
    refine AQ.of (AS.if_eq_f eX9_isWithin_11 ⟨by decide, by decide⟩ (by decide) (by decide)) ?_
    refine q_blk (lv2 := [(0, vi ax), (1, vi ay), (2, vi bx), (3, vi by'), (4, vi x), (5, vi y)]) (st2 := [vi ax, vi x]) kX9_isWithin_14 rfl ?_
    refine AQ.ic_ne (tgt := 26) eX9_isWithin_17 (by decide) (by first | assumption | exact ⟨by omega, by omega⟩) (by first | assumption | exact ⟨by omega, by omega⟩) (fun br3 => ?_) (fun br3 => ?_)
    · skip
      refine q_blk (lv2 := [(0, vi ax), (1, vi ay), (2, vi bx), (3, vi by'), (4, vi x), (5, vi y)]) (st2 := [vi bx, vi x]) kX9_isWithin_26 rfl ?_
      refine AQ.ic_ne (tgt := 38) eX9_isWithin_29 (by decide) (by first | assumption | exact ⟨by omega, by omega⟩) (by first | assumption | exact ⟨by omega, by omega⟩) (fun br4 => ?_) (fun br4 => ?_)
      · skip
        refine q_blk (lv2 := [(0, vi ax), (1, vi ay), (2, vi bx), (3, vi by'), (4, vi x), (5, vi y)]) (st2 := [vi 1]) kX9_isWithin_38 rfl ?_
        refine q_goto (tgt := 43) eX9_isWithin_39 (by decide) ?_
        exact q_rz rfl eX9_isWithin_43 (by decide) ⟨1, rfl, Or.inl ⟨rfl, e2, fun q => by unfold gm_we at q; omega⟩, rfl⟩
      · skip
        refine q_blk (lv2 := [(0, vi ax), (1, vi ay), (2, vi bx), (3, vi by'), (4, vi x), (5, vi y)]) (st2 := [vi by', vi y]) kX9_isWithin_32 rfl ?_
        refine AQ.ic_eq (tgt := 42) eX9_isWithin_35 (by decide) (by first | assumption | exact ⟨by omega, by omega⟩) (by first | assumption | exact ⟨by omega, by omega⟩) (fun br5 => ?_) (fun br5 => ?_)
        · skip
          refine q_blk (lv2 := [(0, vi ax), (1, vi ay), (2, vi bx), (3, vi by'), (4, vi x), (5, vi y)]) (st2 := [vi 0]) kX9_isWithin_42 rfl ?_
          exact q_rz rfl eX9_isWithin_43 (by decide) ⟨0, rfl, Or.inr ⟨rfl, fun q => by
      have q2 := q.2
      unfold gm_we at q2
      first | exact e2 q.1 | omega⟩, rfl⟩
        · skip
          refine q_blk (lv2 := [(0, vi ax), (1, vi ay), (2, vi bx), (3, vi by'), (4, vi x), (5, vi y)]) (st2 := [vi 1]) kX9_isWithin_38 rfl ?_
          refine q_goto (tgt := 43) eX9_isWithin_39 (by decide) ?_
          exact q_rz rfl eX9_isWithin_43 (by decide) ⟨1, rfl, Or.inl ⟨rfl, e2, fun q => by unfold gm_we at q; omega⟩, rfl⟩
    · skip
      refine q_blk (lv2 := [(0, vi ax), (1, vi ay), (2, vi bx), (3, vi by'), (4, vi x), (5, vi y)]) (st2 := [vi ay, vi y]) kX9_isWithin_20 rfl ?_
      refine AQ.ic_eq (tgt := 42) eX9_isWithin_23 (by decide) (by first | assumption | exact ⟨by omega, by omega⟩) (by first | assumption | exact ⟨by omega, by omega⟩) (fun br6 => ?_) (fun br6 => ?_)
      · skip
        refine q_blk (lv2 := [(0, vi ax), (1, vi ay), (2, vi bx), (3, vi by'), (4, vi x), (5, vi y)]) (st2 := [vi 0]) kX9_isWithin_42 rfl ?_
        exact q_rz rfl eX9_isWithin_43 (by decide) ⟨0, rfl, Or.inr ⟨rfl, fun q => by
      have q2 := q.2
      unfold gm_we at q2
      first | exact e2 q.1 | omega⟩, rfl⟩
      · skip
        refine q_blk (lv2 := [(0, vi ax), (1, vi ay), (2, vi bx), (3, vi by'), (4, vi x), (5, vi y)]) (st2 := [vi bx, vi x]) kX9_isWithin_26 rfl ?_
        refine AQ.ic_ne (tgt := 38) eX9_isWithin_29 (by decide) (by first | assumption | exact ⟨by omega, by omega⟩) (by first | assumption | exact ⟨by omega, by omega⟩) (fun br7 => ?_) (fun br7 => ?_)
        · skip
          refine q_blk (lv2 := [(0, vi ax), (1, vi ay), (2, vi bx), (3, vi by'), (4, vi x), (5, vi y)]) (st2 := [vi 1]) kX9_isWithin_38 rfl ?_
          refine q_goto (tgt := 43) eX9_isWithin_39 (by decide) ?_
          exact q_rz rfl eX9_isWithin_43 (by decide) ⟨1, rfl, Or.inl ⟨rfl, e2, fun q => by unfold gm_we at q; omega⟩, rfl⟩
        · skip
          refine q_blk (lv2 := [(0, vi ax), (1, vi ay), (2, vi bx), (3, vi by'), (4, vi x), (5, vi y)]) (st2 := [vi by', vi y]) kX9_isWithin_32 rfl ?_
          refine AQ.ic_eq (tgt := 42) eX9_isWithin_35 (by decide) (by first | assumption | exact ⟨by omega, by omega⟩) (by first | assumption | exact ⟨by omega, by omega⟩) (fun br8 => ?_) (fun br8 => ?_)
          · skip
            refine q_blk (lv2 := [(0, vi ax), (1, vi ay), (2, vi bx), (3, vi by'), (4, vi x), (5, vi y)]) (st2 := [vi 0]) kX9_isWithin_42 rfl ?_
            exact q_rz rfl eX9_isWithin_43 (by decide) ⟨0, rfl, Or.inr ⟨rfl, fun q => by
      have q2 := q.2
      unfold gm_we at q2
      first | exact e2 q.1 | omega⟩, rfl⟩
          · skip
            refine q_blk (lv2 := [(0, vi ax), (1, vi ay), (2, vi bx), (3, vi by'), (4, vi x), (5, vi y)]) (st2 := [vi 1]) kX9_isWithin_38 rfl ?_
            refine q_goto (tgt := 43) eX9_isWithin_39 (by decide) ?_
            exact q_rz rfl eX9_isWithin_43 (by decide) ⟨1, rfl, Or.inl ⟨rfl, e2, fun q => by unfold gm_we at q; omega⟩, rfl⟩
  · skip
    refine AQ.of (AS.if_eq_t (tgt := 42) eX9_isWithin_11 (by decide) ⟨by decide, by decide⟩ (by decide)) ?_
    refine q_blk (lv2 := [(0, vi ax), (1, vi ay), (2, vi bx), (3, vi by'), (4, vi x), (5, vi y)]) (st2 := [vi 0]) kX9_isWithin_42 rfl ?_
    exact q_rz rfl eX9_isWithin_43 (by decide) ⟨0, rfl, Or.inr ⟨rfl, fun q => by
      have q2 := q.2
      unfold gm_we at q2
      first | exact e2 q.1 | omega⟩, rfl⟩

set_option maxHeartbeats 1000000 in
theorem c_X9_areApart {w : am_w} {h : AH} {a b : Int} (r_a : am_r a) (r_b : am_r b)  : AE w m_X9_areApart 1 [vi a, vi b] h (am_intp h (fun z => am_b z (gm_ap a b))) := by
  refine AE.of wf_X9_areApart (Nat.le_of_ble_eq_true rfl) (am_ok_zp (fun z q => am_bz q)) ?_
  refine q_blk (lv2 := [(0, vi a), (1, vi b)]) (st2 := [vi a]) kX9_areApart_0 rfl ?_
  refine AQ.if_ge (tgt := 8) eX9_areApart_1 (by decide) (by first | assumption | exact ⟨by omega, by omega⟩) (fun br1 => ?_) (fun br1 => ?_)
  · skip
    refine q_blk (lv2 := [(0, vi a), (1, vi b)]) (st2 := [vi a]) kX9_areApart_8 rfl ?_
    refine AQ.if_le (tgt := 20) eX9_areApart_9 (by decide) (by first | assumption | exact ⟨by omega, by omega⟩) (fun br2 => ?_) (fun br2 => ?_)
    · skip
      refine q_blk (lv2 := [(0, vi a), (1, vi b)]) (st2 := [vi 0]) kX9_areApart_20 rfl ?_
      exact q_rz rfl eX9_areApart_21 (by decide) ⟨0, rfl, Or.inr ⟨rfl, by unfold gm_ap; omega⟩, rfl⟩
    · skip
      refine q_blk (lv2 := [(0, vi a), (1, vi b)]) (st2 := [vi b]) kX9_areApart_12 rfl ?_
      refine AQ.if_ge (tgt := 20) eX9_areApart_13 (by decide) (by first | assumption | exact ⟨by omega, by omega⟩) (fun br3 => ?_) (fun br3 => ?_)
      · skip
        refine q_blk (lv2 := [(0, vi a), (1, vi b)]) (st2 := [vi 0]) kX9_areApart_20 rfl ?_
        exact q_rz rfl eX9_areApart_21 (by decide) ⟨0, rfl, Or.inr ⟨rfl, by unfold gm_ap; omega⟩, rfl⟩
      · skip
        refine q_blk (lv2 := [(0, vi a), (1, vi b)]) (st2 := [vi 1]) kX9_areApart_16 rfl ?_
        refine q_goto (tgt := 21) eX9_areApart_17 (by decide) ?_
        exact q_rz rfl eX9_areApart_21 (by decide) ⟨1, rfl, Or.inl ⟨rfl, by unfold gm_ap; omega⟩, rfl⟩
  · skip
    refine q_blk (lv2 := [(0, vi a), (1, vi b)]) (st2 := [vi b]) kX9_areApart_4 rfl ?_
    refine AQ.if_gt (tgt := 16) eX9_areApart_5 (by decide) (by first | assumption | exact ⟨by omega, by omega⟩) (fun br4 => ?_) (fun br4 => ?_)
    · skip
      refine q_blk (lv2 := [(0, vi a), (1, vi b)]) (st2 := [vi 1]) kX9_areApart_16 rfl ?_
      refine q_goto (tgt := 21) eX9_areApart_17 (by decide) ?_
      exact q_rz rfl eX9_areApart_21 (by decide) ⟨1, rfl, Or.inl ⟨rfl, by unfold gm_ap; omega⟩, rfl⟩
    · skip
      refine q_blk (lv2 := [(0, vi a), (1, vi b)]) (st2 := [vi a]) kX9_areApart_8 rfl ?_
      refine AQ.if_le (tgt := 20) eX9_areApart_9 (by decide) (by first | assumption | exact ⟨by omega, by omega⟩) (fun br5 => ?_) (fun br5 => ?_)
      · skip
        refine q_blk (lv2 := [(0, vi a), (1, vi b)]) (st2 := [vi 0]) kX9_areApart_20 rfl ?_
        exact q_rz rfl eX9_areApart_21 (by decide) ⟨0, rfl, Or.inr ⟨rfl, by unfold gm_ap; omega⟩, rfl⟩
      · skip
        refine q_blk (lv2 := [(0, vi a), (1, vi b)]) (st2 := [vi b]) kX9_areApart_12 rfl ?_
        refine AQ.if_ge (tgt := 20) eX9_areApart_13 (by decide) (by first | assumption | exact ⟨by omega, by omega⟩) (fun br6 => ?_) (fun br6 => ?_)
        · skip
          refine q_blk (lv2 := [(0, vi a), (1, vi b)]) (st2 := [vi 0]) kX9_areApart_20 rfl ?_
          exact q_rz rfl eX9_areApart_21 (by decide) ⟨0, rfl, Or.inr ⟨rfl, by unfold gm_ap; omega⟩, rfl⟩
        · skip
          refine q_blk (lv2 := [(0, vi a), (1, vi b)]) (st2 := [vi 1]) kX9_areApart_16 rfl ?_
          refine q_goto (tgt := 21) eX9_areApart_17 (by decide) ?_
          exact q_rz rfl eX9_areApart_21 (by decide) ⟨1, rfl, Or.inl ⟨rfl, by unfold gm_ap; omega⟩, rfl⟩

set_option maxHeartbeats 1000000 in
theorem c_X9_meet {w : am_w} {h : AH} {ax ay bx by' cx cy dx dy : Int} (h_ax : am_c ax) (h_ay : am_c ay) (h_bx : am_c bx) (h_by : am_c by') (h_cx : am_c cx) (h_cy : am_c cy) (h_dx : am_c dx) (h_dy : am_c dy)  : AE w m_X9_meet 4 [vi ax, vi ay, vi bx, vi by', vi cx, vi cy, vi dx, vi dy] h (am_intp h (fun z => am_b z (gm_mt ax ay bx by' cx cy dx dy))) := by
  refine AE.of wf_X9_meet (Nat.le_of_ble_eq_true rfl) (am_ok_zp (fun z q => am_bz q)) ?_
  have rc1 := h_ax
  have rc2 := h_ay
  have rc3 := h_bx
  have rc4 := h_by
  have rc5 := h_cx
  have rc6 := h_cy
  have rc7 := h_dx
  have rc8 := h_dy
  unfold am_c at rc1 rc2 rc3 rc4 rc5 rc6 rc7 rc8
  refine q_blk (lv2 := [(0, vi ax), (1, vi ay), (2, vi bx), (3, vi by'), (4, vi cx), (5, vi cy), (6, vi dx), (7, vi dy)]) (st2 := [vi cy, vi cx, vi by', vi bx, vi ay, vi ax]) kX9_meet_0 rfl ?_
  refine q_Si (av := [vi ax, vi ay, vi bx, vi by', vi cx, vi cy]) (st := []) c_X9_turn lk_RX9_46 (by decide) rfl rfl (Nat.le_of_ble_eq_true rfl) eX9_meet_8 (fun z1 e2 => ?_)
  subst e2
  have tr9 := gm_turn_r (ax := ax) (ay := ay) (bx := bx) (by' := by') (px := cx) (py := cy) (by first | assumption | exact ⟨by omega, by omega⟩) (by first | assumption | exact ⟨by omega, by omega⟩) (by first | assumption | exact ⟨by omega, by omega⟩) (by first | assumption | exact ⟨by omega, by omega⟩) (by first | assumption | exact ⟨by omega, by omega⟩) (by first | assumption | exact ⟨by omega, by omega⟩)
  refine q_blk (lv2 := [(0, vi ax), (1, vi ay), (2, vi bx), (3, vi by'), (4, vi cx), (5, vi cy), (6, vi dx), (7, vi dy)]) (st2 := [vi dy, vi dx, vi by', vi bx, vi ay, vi ax, vi (gm_turn ax ay bx by' cx cy)]) kX9_meet_11 rfl ?_
  refine q_Si (av := [vi ax, vi ay, vi bx, vi by', vi dx, vi dy]) (st := [vi (gm_turn ax ay bx by' cx cy)]) c_X9_turn lk_RX9_46 (by decide) rfl rfl (Nat.le_of_ble_eq_true rfl) eX9_meet_19 (fun z3 e4 => ?_)
  subst e4
  have tr9 := gm_turn_r (ax := ax) (ay := ay) (bx := bx) (by' := by') (px := dx) (py := dy) (by first | assumption | exact ⟨by omega, by omega⟩) (by first | assumption | exact ⟨by omega, by omega⟩) (by first | assumption | exact ⟨by omega, by omega⟩) (by first | assumption | exact ⟨by omega, by omega⟩) (by first | assumption | exact ⟨by omega, by omega⟩) (by first | assumption | exact ⟨by omega, by omega⟩)
  refine q_Si (av := [vi (gm_turn ax ay bx by' cx cy), vi (gm_turn ax ay bx by' dx dy)]) (st := []) (c_X9_areApart (by first | assumption | exact ⟨by omega, by omega⟩) (by first | assumption | exact ⟨by omega, by omega⟩)) lk_RX9_65 (by decide) rfl rfl (Nat.le_of_ble_eq_true rfl) eX9_meet_22 (fun z5 e6 => ?_)
  rcases e6 with ⟨rfl, e6⟩ | ⟨rfl, e6⟩
  · skip
    refine AQ.of (AS.if_eq_f eX9_meet_25 ⟨by decide, by decide⟩ (by decide) (by decide)) ?_
    refine q_blk (lv2 := [(0, vi ax), (1, vi ay), (2, vi bx), (3, vi by'), (4, vi cx), (5, vi cy), (6, vi dx), (7, vi dy)]) (st2 := [vi ay, vi ax, vi dy, vi dx, vi cy, vi cx]) kX9_meet_28 rfl ?_
    refine q_Si (av := [vi cx, vi cy, vi dx, vi dy, vi ax, vi ay]) (st := []) c_X9_turn lk_RX9_46 (by decide) rfl rfl (Nat.le_of_ble_eq_true rfl) eX9_meet_38 (fun z7 e8 => ?_)
    subst e8
    have tr9 := gm_turn_r (ax := cx) (ay := cy) (bx := dx) (by' := dy) (px := ax) (py := ay) (by first | assumption | exact ⟨by omega, by omega⟩) (by first | assumption | exact ⟨by omega, by omega⟩) (by first | assumption | exact ⟨by omega, by omega⟩) (by first | assumption | exact ⟨by omega, by omega⟩) (by first | assumption | exact ⟨by omega, by omega⟩) (by first | assumption | exact ⟨by omega, by omega⟩)
    refine q_blk (lv2 := [(0, vi ax), (1, vi ay), (2, vi bx), (3, vi by'), (4, vi cx), (5, vi cy), (6, vi dx), (7, vi dy)]) (st2 := [vi by', vi bx, vi dy, vi dx, vi cy, vi cx, vi (gm_turn cx cy dx dy ax ay)]) kX9_meet_41 rfl ?_
    refine q_Si (av := [vi cx, vi cy, vi dx, vi dy, vi bx, vi by']) (st := [vi (gm_turn cx cy dx dy ax ay)]) c_X9_turn lk_RX9_46 (by decide) rfl rfl (Nat.le_of_ble_eq_true rfl) eX9_meet_51 (fun z9 e10 => ?_)
    subst e10
    have tr9 := gm_turn_r (ax := cx) (ay := cy) (bx := dx) (by' := dy) (px := bx) (py := by') (by first | assumption | exact ⟨by omega, by omega⟩) (by first | assumption | exact ⟨by omega, by omega⟩) (by first | assumption | exact ⟨by omega, by omega⟩) (by first | assumption | exact ⟨by omega, by omega⟩) (by first | assumption | exact ⟨by omega, by omega⟩) (by first | assumption | exact ⟨by omega, by omega⟩)
    refine q_Si (av := [vi (gm_turn cx cy dx dy ax ay), vi (gm_turn cx cy dx dy bx by')]) (st := []) (c_X9_areApart (by first | assumption | exact ⟨by omega, by omega⟩) (by first | assumption | exact ⟨by omega, by omega⟩)) lk_RX9_65 (by decide) rfl rfl (Nat.le_of_ble_eq_true rfl) eX9_meet_54 (fun z11 e12 => ?_)
    rcases e12 with ⟨rfl, e12⟩ | ⟨rfl, e12⟩
    · skip
      refine AQ.of (AS.if_eq_f eX9_meet_57 ⟨by decide, by decide⟩ (by decide) (by decide)) ?_
      refine q_blk (lv2 := [(0, vi ax), (1, vi ay), (2, vi bx), (3, vi by'), (4, vi cx), (5, vi cy), (6, vi dx), (7, vi dy)]) (st2 := [vi 1]) kX9_meet_60 rfl ?_
      exact q_rz rfl eX9_meet_61 (by decide) ⟨1, rfl, Or.inl ⟨rfl, by unfold gm_mt; first | exact Or.inl ⟨by assumption, by assumption⟩ | exact Or.inr (Or.inl (by assumption)) | exact Or.inr (Or.inr (Or.inl (by assumption))) | exact Or.inr (Or.inr (Or.inr (Or.inl (by assumption)))) | exact Or.inr (Or.inr (Or.inr (Or.inr (Or.inl (by assumption))))) | exact Or.inr (Or.inr (Or.inr (Or.inr (Or.inr (by omega)))))⟩, rfl⟩
    · skip
      refine AQ.of (AS.if_eq_t (tgt := 62) eX9_meet_57 (by decide) ⟨by decide, by decide⟩ (by decide)) ?_
      refine q_blk (lv2 := [(0, vi ax), (1, vi ay), (2, vi bx), (3, vi by'), (4, vi cx), (5, vi cy), (6, vi dx), (7, vi dy)]) (st2 := [vi cy, vi cx, vi by', vi bx, vi ay, vi ax]) kX9_meet_62 rfl ?_
      refine q_Si (av := [vi ax, vi ay, vi bx, vi by', vi cx, vi cy]) (st := []) (c_X9_isWithin (by first | assumption | exact ⟨by omega, by omega⟩) (by first | assumption | exact ⟨by omega, by omega⟩) (by first | assumption | exact ⟨by omega, by omega⟩) (by first | assumption | exact ⟨by omega, by omega⟩) (by first | assumption | exact ⟨by omega, by omega⟩) (by first | assumption | exact ⟨by omega, by omega⟩)) lk_RX9_69 (by decide) rfl rfl (Nat.le_of_ble_eq_true rfl) eX9_meet_70 (fun z13 e14 => ?_)
      rcases e14 with ⟨rfl, e14⟩ | ⟨rfl, e14⟩
      · skip
        refine AQ.of (AS.if_ne_t (tgt := 122) eX9_meet_73 (by decide) ⟨by decide, by decide⟩ (by decide)) ?_
        refine q_blk (lv2 := [(0, vi ax), (1, vi ay), (2, vi bx), (3, vi by'), (4, vi cx), (5, vi cy), (6, vi dx), (7, vi dy)]) (st2 := [vi 1]) kX9_meet_122 rfl ?_
        exact q_rz rfl eX9_meet_123 (by decide) ⟨1, rfl, Or.inl ⟨rfl, by unfold gm_mt; first | exact Or.inl ⟨by assumption, by assumption⟩ | exact Or.inr (Or.inl (by assumption)) | exact Or.inr (Or.inr (Or.inl (by assumption))) | exact Or.inr (Or.inr (Or.inr (Or.inl (by assumption)))) | exact Or.inr (Or.inr (Or.inr (Or.inr (Or.inl (by assumption))))) | exact Or.inr (Or.inr (Or.inr (Or.inr (Or.inr (by omega)))))⟩, rfl⟩
      · skip
        refine AQ.of (AS.if_ne_f eX9_meet_73 ⟨by decide, by decide⟩ (by decide) (by decide)) ?_
        refine q_blk (lv2 := [(0, vi ax), (1, vi ay), (2, vi bx), (3, vi by'), (4, vi cx), (5, vi cy), (6, vi dx), (7, vi dy)]) (st2 := [vi dy, vi dx, vi by', vi bx, vi ay, vi ax]) kX9_meet_76 rfl ?_
        refine q_Si (av := [vi ax, vi ay, vi bx, vi by', vi dx, vi dy]) (st := []) (c_X9_isWithin (by first | assumption | exact ⟨by omega, by omega⟩) (by first | assumption | exact ⟨by omega, by omega⟩) (by first | assumption | exact ⟨by omega, by omega⟩) (by first | assumption | exact ⟨by omega, by omega⟩) (by first | assumption | exact ⟨by omega, by omega⟩) (by first | assumption | exact ⟨by omega, by omega⟩)) lk_RX9_69 (by decide) rfl rfl (Nat.le_of_ble_eq_true rfl) eX9_meet_84 (fun z15 e16 => ?_)
        rcases e16 with ⟨rfl, e16⟩ | ⟨rfl, e16⟩
        · skip
          refine AQ.of (AS.if_ne_t (tgt := 122) eX9_meet_87 (by decide) ⟨by decide, by decide⟩ (by decide)) ?_
          refine q_blk (lv2 := [(0, vi ax), (1, vi ay), (2, vi bx), (3, vi by'), (4, vi cx), (5, vi cy), (6, vi dx), (7, vi dy)]) (st2 := [vi 1]) kX9_meet_122 rfl ?_
          exact q_rz rfl eX9_meet_123 (by decide) ⟨1, rfl, Or.inl ⟨rfl, by unfold gm_mt; first | exact Or.inl ⟨by assumption, by assumption⟩ | exact Or.inr (Or.inl (by assumption)) | exact Or.inr (Or.inr (Or.inl (by assumption))) | exact Or.inr (Or.inr (Or.inr (Or.inl (by assumption)))) | exact Or.inr (Or.inr (Or.inr (Or.inr (Or.inl (by assumption))))) | exact Or.inr (Or.inr (Or.inr (Or.inr (Or.inr (by omega)))))⟩, rfl⟩
        · skip
          refine AQ.of (AS.if_ne_f eX9_meet_87 ⟨by decide, by decide⟩ (by decide) (by decide)) ?_
          refine q_blk (lv2 := [(0, vi ax), (1, vi ay), (2, vi bx), (3, vi by'), (4, vi cx), (5, vi cy), (6, vi dx), (7, vi dy)]) (st2 := [vi ay, vi ax, vi dy, vi dx, vi cy, vi cx]) kX9_meet_90 rfl ?_
          refine q_Si (av := [vi cx, vi cy, vi dx, vi dy, vi ax, vi ay]) (st := []) (c_X9_isWithin (by first | assumption | exact ⟨by omega, by omega⟩) (by first | assumption | exact ⟨by omega, by omega⟩) (by first | assumption | exact ⟨by omega, by omega⟩) (by first | assumption | exact ⟨by omega, by omega⟩) (by first | assumption | exact ⟨by omega, by omega⟩) (by first | assumption | exact ⟨by omega, by omega⟩)) lk_RX9_69 (by decide) rfl rfl (Nat.le_of_ble_eq_true rfl) eX9_meet_100 (fun z17 e18 => ?_)
          rcases e18 with ⟨rfl, e18⟩ | ⟨rfl, e18⟩
          · skip
            refine AQ.of (AS.if_ne_t (tgt := 122) eX9_meet_103 (by decide) ⟨by decide, by decide⟩ (by decide)) ?_
            refine q_blk (lv2 := [(0, vi ax), (1, vi ay), (2, vi bx), (3, vi by'), (4, vi cx), (5, vi cy), (6, vi dx), (7, vi dy)]) (st2 := [vi 1]) kX9_meet_122 rfl ?_
            exact q_rz rfl eX9_meet_123 (by decide) ⟨1, rfl, Or.inl ⟨rfl, by unfold gm_mt; first | exact Or.inl ⟨by assumption, by assumption⟩ | exact Or.inr (Or.inl (by assumption)) | exact Or.inr (Or.inr (Or.inl (by assumption))) | exact Or.inr (Or.inr (Or.inr (Or.inl (by assumption)))) | exact Or.inr (Or.inr (Or.inr (Or.inr (Or.inl (by assumption))))) | exact Or.inr (Or.inr (Or.inr (Or.inr (Or.inr (by omega)))))⟩, rfl⟩
          · skip
            refine AQ.of (AS.if_ne_f eX9_meet_103 ⟨by decide, by decide⟩ (by decide) (by decide)) ?_
            refine q_blk (lv2 := [(0, vi ax), (1, vi ay), (2, vi bx), (3, vi by'), (4, vi cx), (5, vi cy), (6, vi dx), (7, vi dy)]) (st2 := [vi by', vi bx, vi dy, vi dx, vi cy, vi cx]) kX9_meet_106 rfl ?_
            refine q_Si (av := [vi cx, vi cy, vi dx, vi dy, vi bx, vi by']) (st := []) (c_X9_isWithin (by first | assumption | exact ⟨by omega, by omega⟩) (by first | assumption | exact ⟨by omega, by omega⟩) (by first | assumption | exact ⟨by omega, by omega⟩) (by first | assumption | exact ⟨by omega, by omega⟩) (by first | assumption | exact ⟨by omega, by omega⟩) (by first | assumption | exact ⟨by omega, by omega⟩)) lk_RX9_69 (by decide) rfl rfl (Nat.le_of_ble_eq_true rfl) eX9_meet_116 (fun z19 e20 => ?_)
            rcases e20 with ⟨rfl, e20⟩ | ⟨rfl, e20⟩
            · skip
              refine AQ.of (AS.if_eq_f eX9_meet_119 ⟨by decide, by decide⟩ (by decide) (by decide)) ?_
              refine q_blk (lv2 := [(0, vi ax), (1, vi ay), (2, vi bx), (3, vi by'), (4, vi cx), (5, vi cy), (6, vi dx), (7, vi dy)]) (st2 := [vi 1]) kX9_meet_122 rfl ?_
              exact q_rz rfl eX9_meet_123 (by decide) ⟨1, rfl, Or.inl ⟨rfl, by unfold gm_mt; first | exact Or.inl ⟨by assumption, by assumption⟩ | exact Or.inr (Or.inl (by assumption)) | exact Or.inr (Or.inr (Or.inl (by assumption))) | exact Or.inr (Or.inr (Or.inr (Or.inl (by assumption)))) | exact Or.inr (Or.inr (Or.inr (Or.inr (Or.inl (by assumption))))) | exact Or.inr (Or.inr (Or.inr (Or.inr (Or.inr (by omega)))))⟩, rfl⟩
            · skip
              refine AQ.of (AS.if_eq_t (tgt := 124) eX9_meet_119 (by decide) ⟨by decide, by decide⟩ (by decide)) ?_
              refine q_blk (lv2 := [(0, vi ax), (1, vi ay), (2, vi bx), (3, vi by'), (4, vi cx), (5, vi cy), (6, vi dx), (7, vi dy)]) (st2 := [vi cx, vi ax]) kX9_meet_124 rfl ?_
              refine AQ.ic_ne (tgt := 148) eX9_meet_127 (by decide) (by first | assumption | exact ⟨by omega, by omega⟩) (by first | assumption | exact ⟨by omega, by omega⟩) (fun br21 => ?_) (fun br21 => ?_)
              · skip
                refine q_blk (lv2 := [(0, vi ax), (1, vi ay), (2, vi bx), (3, vi by'), (4, vi cx), (5, vi cy), (6, vi dx), (7, vi dy)]) (st2 := [vi dx, vi ax]) kX9_meet_148 rfl ?_
                refine AQ.ic_ne (tgt := 176) eX9_meet_151 (by decide) (by first | assumption | exact ⟨by omega, by omega⟩) (by first | assumption | exact ⟨by omega, by omega⟩) (fun br22 => ?_) (fun br22 => ?_)
                · skip
                  refine q_blk (lv2 := [(0, vi ax), (1, vi ay), (2, vi bx), (3, vi by'), (4, vi cx), (5, vi cy), (6, vi dx), (7, vi dy)]) (st2 := [vi 0]) kX9_meet_176 rfl ?_
                  exact q_rz rfl eX9_meet_177 (by decide) ⟨0, rfl, Or.inr ⟨rfl, fun q => by
      unfold gm_mt at q
      rcases q with ⟨q, q'⟩ | q | q | q | q | q
      all_goals first | contradiction | omega⟩, rfl⟩
                · skip
                  refine q_blk (lv2 := [(0, vi ax), (1, vi ay), (2, vi bx), (3, vi by'), (4, vi cx), (5, vi cy), (6, vi dx), (7, vi dy)]) (st2 := [vi dy, vi ay]) kX9_meet_154 rfl ?_
                  refine AQ.ic_ne (tgt := 176) eX9_meet_157 (by decide) (by first | assumption | exact ⟨by omega, by omega⟩) (by first | assumption | exact ⟨by omega, by omega⟩) (fun br23 => ?_) (fun br23 => ?_)
                  · skip
                    refine q_blk (lv2 := [(0, vi ax), (1, vi ay), (2, vi bx), (3, vi by'), (4, vi cx), (5, vi cy), (6, vi dx), (7, vi dy)]) (st2 := [vi 0]) kX9_meet_176 rfl ?_
                    exact q_rz rfl eX9_meet_177 (by decide) ⟨0, rfl, Or.inr ⟨rfl, fun q => by
      unfold gm_mt at q
      rcases q with ⟨q, q'⟩ | q | q | q | q | q
      all_goals first | contradiction | omega⟩, rfl⟩
                  · skip
                    refine q_blk (lv2 := [(0, vi ax), (1, vi ay), (2, vi bx), (3, vi by'), (4, vi cx), (5, vi cy), (6, vi dx), (7, vi dy)]) (st2 := [vi cx, vi bx]) kX9_meet_160 rfl ?_
                    refine AQ.ic_ne (tgt := 176) eX9_meet_163 (by decide) (by first | assumption | exact ⟨by omega, by omega⟩) (by first | assumption | exact ⟨by omega, by omega⟩) (fun br24 => ?_) (fun br24 => ?_)
                    · skip
                      refine q_blk (lv2 := [(0, vi ax), (1, vi ay), (2, vi bx), (3, vi by'), (4, vi cx), (5, vi cy), (6, vi dx), (7, vi dy)]) (st2 := [vi 0]) kX9_meet_176 rfl ?_
                      exact q_rz rfl eX9_meet_177 (by decide) ⟨0, rfl, Or.inr ⟨rfl, fun q => by
      unfold gm_mt at q
      rcases q with ⟨q, q'⟩ | q | q | q | q | q
      all_goals first | contradiction | omega⟩, rfl⟩
                    · skip
                      refine q_blk (lv2 := [(0, vi ax), (1, vi ay), (2, vi bx), (3, vi by'), (4, vi cx), (5, vi cy), (6, vi dx), (7, vi dy)]) (st2 := [vi cy, vi by']) kX9_meet_166 rfl ?_
                      refine AQ.ic_ne (tgt := 176) eX9_meet_169 (by decide) (by first | assumption | exact ⟨by omega, by omega⟩) (by first | assumption | exact ⟨by omega, by omega⟩) (fun br25 => ?_) (fun br25 => ?_)
                      · skip
                        refine q_blk (lv2 := [(0, vi ax), (1, vi ay), (2, vi bx), (3, vi by'), (4, vi cx), (5, vi cy), (6, vi dx), (7, vi dy)]) (st2 := [vi 0]) kX9_meet_176 rfl ?_
                        exact q_rz rfl eX9_meet_177 (by decide) ⟨0, rfl, Or.inr ⟨rfl, fun q => by
      unfold gm_mt at q
      rcases q with ⟨q, q'⟩ | q | q | q | q | q
      all_goals first | contradiction | omega⟩, rfl⟩
                      · skip
                        refine q_blk (lv2 := [(0, vi ax), (1, vi ay), (2, vi bx), (3, vi by'), (4, vi cx), (5, vi cy), (6, vi dx), (7, vi dy)]) (st2 := [vi 1]) kX9_meet_172 rfl ?_
                        refine q_goto (tgt := 177) eX9_meet_173 (by decide) ?_
                        exact q_rz rfl eX9_meet_177 (by decide) ⟨1, rfl, Or.inl ⟨rfl, by unfold gm_mt; first | exact Or.inl ⟨by assumption, by assumption⟩ | exact Or.inr (Or.inl (by assumption)) | exact Or.inr (Or.inr (Or.inl (by assumption))) | exact Or.inr (Or.inr (Or.inr (Or.inl (by assumption)))) | exact Or.inr (Or.inr (Or.inr (Or.inr (Or.inl (by assumption))))) | exact Or.inr (Or.inr (Or.inr (Or.inr (Or.inr (by omega)))))⟩, rfl⟩
              · skip
                refine q_blk (lv2 := [(0, vi ax), (1, vi ay), (2, vi bx), (3, vi by'), (4, vi cx), (5, vi cy), (6, vi dx), (7, vi dy)]) (st2 := [vi cy, vi ay]) kX9_meet_130 rfl ?_
                refine AQ.ic_ne (tgt := 148) eX9_meet_133 (by decide) (by first | assumption | exact ⟨by omega, by omega⟩) (by first | assumption | exact ⟨by omega, by omega⟩) (fun br26 => ?_) (fun br26 => ?_)
                · skip
                  refine q_blk (lv2 := [(0, vi ax), (1, vi ay), (2, vi bx), (3, vi by'), (4, vi cx), (5, vi cy), (6, vi dx), (7, vi dy)]) (st2 := [vi dx, vi ax]) kX9_meet_148 rfl ?_
                  refine AQ.ic_ne (tgt := 176) eX9_meet_151 (by decide) (by first | assumption | exact ⟨by omega, by omega⟩) (by first | assumption | exact ⟨by omega, by omega⟩) (fun br27 => ?_) (fun br27 => ?_)
                  · skip
                    refine q_blk (lv2 := [(0, vi ax), (1, vi ay), (2, vi bx), (3, vi by'), (4, vi cx), (5, vi cy), (6, vi dx), (7, vi dy)]) (st2 := [vi 0]) kX9_meet_176 rfl ?_
                    exact q_rz rfl eX9_meet_177 (by decide) ⟨0, rfl, Or.inr ⟨rfl, fun q => by
      unfold gm_mt at q
      rcases q with ⟨q, q'⟩ | q | q | q | q | q
      all_goals first | contradiction | omega⟩, rfl⟩
                  · skip
                    refine q_blk (lv2 := [(0, vi ax), (1, vi ay), (2, vi bx), (3, vi by'), (4, vi cx), (5, vi cy), (6, vi dx), (7, vi dy)]) (st2 := [vi dy, vi ay]) kX9_meet_154 rfl ?_
                    refine AQ.ic_ne (tgt := 176) eX9_meet_157 (by decide) (by first | assumption | exact ⟨by omega, by omega⟩) (by first | assumption | exact ⟨by omega, by omega⟩) (fun br28 => ?_) (fun br28 => ?_)
                    · skip
                      refine q_blk (lv2 := [(0, vi ax), (1, vi ay), (2, vi bx), (3, vi by'), (4, vi cx), (5, vi cy), (6, vi dx), (7, vi dy)]) (st2 := [vi 0]) kX9_meet_176 rfl ?_
                      exact q_rz rfl eX9_meet_177 (by decide) ⟨0, rfl, Or.inr ⟨rfl, fun q => by
      unfold gm_mt at q
      rcases q with ⟨q, q'⟩ | q | q | q | q | q
      all_goals first | contradiction | omega⟩, rfl⟩
                    · skip
                      refine q_blk (lv2 := [(0, vi ax), (1, vi ay), (2, vi bx), (3, vi by'), (4, vi cx), (5, vi cy), (6, vi dx), (7, vi dy)]) (st2 := [vi cx, vi bx]) kX9_meet_160 rfl ?_
                      refine AQ.ic_ne (tgt := 176) eX9_meet_163 (by decide) (by first | assumption | exact ⟨by omega, by omega⟩) (by first | assumption | exact ⟨by omega, by omega⟩) (fun br29 => ?_) (fun br29 => ?_)
                      · skip
                        refine q_blk (lv2 := [(0, vi ax), (1, vi ay), (2, vi bx), (3, vi by'), (4, vi cx), (5, vi cy), (6, vi dx), (7, vi dy)]) (st2 := [vi 0]) kX9_meet_176 rfl ?_
                        exact q_rz rfl eX9_meet_177 (by decide) ⟨0, rfl, Or.inr ⟨rfl, fun q => by
      unfold gm_mt at q
      rcases q with ⟨q, q'⟩ | q | q | q | q | q
      all_goals first | contradiction | omega⟩, rfl⟩
                      · skip
                        refine q_blk (lv2 := [(0, vi ax), (1, vi ay), (2, vi bx), (3, vi by'), (4, vi cx), (5, vi cy), (6, vi dx), (7, vi dy)]) (st2 := [vi cy, vi by']) kX9_meet_166 rfl ?_
                        refine AQ.ic_ne (tgt := 176) eX9_meet_169 (by decide) (by first | assumption | exact ⟨by omega, by omega⟩) (by first | assumption | exact ⟨by omega, by omega⟩) (fun br30 => ?_) (fun br30 => ?_)
                        · skip
                          refine q_blk (lv2 := [(0, vi ax), (1, vi ay), (2, vi bx), (3, vi by'), (4, vi cx), (5, vi cy), (6, vi dx), (7, vi dy)]) (st2 := [vi 0]) kX9_meet_176 rfl ?_
                          exact q_rz rfl eX9_meet_177 (by decide) ⟨0, rfl, Or.inr ⟨rfl, fun q => by
      unfold gm_mt at q
      rcases q with ⟨q, q'⟩ | q | q | q | q | q
      all_goals first | contradiction | omega⟩, rfl⟩
                        · skip
                          refine q_blk (lv2 := [(0, vi ax), (1, vi ay), (2, vi bx), (3, vi by'), (4, vi cx), (5, vi cy), (6, vi dx), (7, vi dy)]) (st2 := [vi 1]) kX9_meet_172 rfl ?_
                          refine q_goto (tgt := 177) eX9_meet_173 (by decide) ?_
                          exact q_rz rfl eX9_meet_177 (by decide) ⟨1, rfl, Or.inl ⟨rfl, by unfold gm_mt; first | exact Or.inl ⟨by assumption, by assumption⟩ | exact Or.inr (Or.inl (by assumption)) | exact Or.inr (Or.inr (Or.inl (by assumption))) | exact Or.inr (Or.inr (Or.inr (Or.inl (by assumption)))) | exact Or.inr (Or.inr (Or.inr (Or.inr (Or.inl (by assumption))))) | exact Or.inr (Or.inr (Or.inr (Or.inr (Or.inr (by omega)))))⟩, rfl⟩
                · skip
                  refine q_blk (lv2 := [(0, vi ax), (1, vi ay), (2, vi bx), (3, vi by'), (4, vi cx), (5, vi cy), (6, vi dx), (7, vi dy)]) (st2 := [vi dx, vi bx]) kX9_meet_136 rfl ?_
                  refine AQ.ic_ne (tgt := 148) eX9_meet_139 (by decide) (by first | assumption | exact ⟨by omega, by omega⟩) (by first | assumption | exact ⟨by omega, by omega⟩) (fun br31 => ?_) (fun br31 => ?_)
                  · skip
                    refine q_blk (lv2 := [(0, vi ax), (1, vi ay), (2, vi bx), (3, vi by'), (4, vi cx), (5, vi cy), (6, vi dx), (7, vi dy)]) (st2 := [vi dx, vi ax]) kX9_meet_148 rfl ?_
                    refine AQ.ic_ne (tgt := 176) eX9_meet_151 (by decide) (by first | assumption | exact ⟨by omega, by omega⟩) (by first | assumption | exact ⟨by omega, by omega⟩) (fun br32 => ?_) (fun br32 => ?_)
                    · skip
                      refine q_blk (lv2 := [(0, vi ax), (1, vi ay), (2, vi bx), (3, vi by'), (4, vi cx), (5, vi cy), (6, vi dx), (7, vi dy)]) (st2 := [vi 0]) kX9_meet_176 rfl ?_
                      exact q_rz rfl eX9_meet_177 (by decide) ⟨0, rfl, Or.inr ⟨rfl, fun q => by
      unfold gm_mt at q
      rcases q with ⟨q, q'⟩ | q | q | q | q | q
      all_goals first | contradiction | omega⟩, rfl⟩
                    · skip
                      refine q_blk (lv2 := [(0, vi ax), (1, vi ay), (2, vi bx), (3, vi by'), (4, vi cx), (5, vi cy), (6, vi dx), (7, vi dy)]) (st2 := [vi dy, vi ay]) kX9_meet_154 rfl ?_
                      refine AQ.ic_ne (tgt := 176) eX9_meet_157 (by decide) (by first | assumption | exact ⟨by omega, by omega⟩) (by first | assumption | exact ⟨by omega, by omega⟩) (fun br33 => ?_) (fun br33 => ?_)
                      · skip
                        refine q_blk (lv2 := [(0, vi ax), (1, vi ay), (2, vi bx), (3, vi by'), (4, vi cx), (5, vi cy), (6, vi dx), (7, vi dy)]) (st2 := [vi 0]) kX9_meet_176 rfl ?_
                        exact q_rz rfl eX9_meet_177 (by decide) ⟨0, rfl, Or.inr ⟨rfl, fun q => by
      unfold gm_mt at q
      rcases q with ⟨q, q'⟩ | q | q | q | q | q
      all_goals first | contradiction | omega⟩, rfl⟩
                      · skip
                        refine q_blk (lv2 := [(0, vi ax), (1, vi ay), (2, vi bx), (3, vi by'), (4, vi cx), (5, vi cy), (6, vi dx), (7, vi dy)]) (st2 := [vi cx, vi bx]) kX9_meet_160 rfl ?_
                        refine AQ.ic_ne (tgt := 176) eX9_meet_163 (by decide) (by first | assumption | exact ⟨by omega, by omega⟩) (by first | assumption | exact ⟨by omega, by omega⟩) (fun br34 => ?_) (fun br34 => ?_)
                        · skip
                          refine q_blk (lv2 := [(0, vi ax), (1, vi ay), (2, vi bx), (3, vi by'), (4, vi cx), (5, vi cy), (6, vi dx), (7, vi dy)]) (st2 := [vi 0]) kX9_meet_176 rfl ?_
                          exact q_rz rfl eX9_meet_177 (by decide) ⟨0, rfl, Or.inr ⟨rfl, fun q => by
      unfold gm_mt at q
      rcases q with ⟨q, q'⟩ | q | q | q | q | q
      all_goals first | contradiction | omega⟩, rfl⟩
                        · skip
                          refine q_blk (lv2 := [(0, vi ax), (1, vi ay), (2, vi bx), (3, vi by'), (4, vi cx), (5, vi cy), (6, vi dx), (7, vi dy)]) (st2 := [vi cy, vi by']) kX9_meet_166 rfl ?_
                          refine AQ.ic_ne (tgt := 176) eX9_meet_169 (by decide) (by first | assumption | exact ⟨by omega, by omega⟩) (by first | assumption | exact ⟨by omega, by omega⟩) (fun br35 => ?_) (fun br35 => ?_)
                          · skip
                            refine q_blk (lv2 := [(0, vi ax), (1, vi ay), (2, vi bx), (3, vi by'), (4, vi cx), (5, vi cy), (6, vi dx), (7, vi dy)]) (st2 := [vi 0]) kX9_meet_176 rfl ?_
                            exact q_rz rfl eX9_meet_177 (by decide) ⟨0, rfl, Or.inr ⟨rfl, fun q => by
      unfold gm_mt at q
      rcases q with ⟨q, q'⟩ | q | q | q | q | q
      all_goals first | contradiction | omega⟩, rfl⟩
                          · skip
                            refine q_blk (lv2 := [(0, vi ax), (1, vi ay), (2, vi bx), (3, vi by'), (4, vi cx), (5, vi cy), (6, vi dx), (7, vi dy)]) (st2 := [vi 1]) kX9_meet_172 rfl ?_
                            refine q_goto (tgt := 177) eX9_meet_173 (by decide) ?_
                            exact q_rz rfl eX9_meet_177 (by decide) ⟨1, rfl, Or.inl ⟨rfl, by unfold gm_mt; first | exact Or.inl ⟨by assumption, by assumption⟩ | exact Or.inr (Or.inl (by assumption)) | exact Or.inr (Or.inr (Or.inl (by assumption))) | exact Or.inr (Or.inr (Or.inr (Or.inl (by assumption)))) | exact Or.inr (Or.inr (Or.inr (Or.inr (Or.inl (by assumption))))) | exact Or.inr (Or.inr (Or.inr (Or.inr (Or.inr (by omega)))))⟩, rfl⟩
                  · skip
                    refine q_blk (lv2 := [(0, vi ax), (1, vi ay), (2, vi bx), (3, vi by'), (4, vi cx), (5, vi cy), (6, vi dx), (7, vi dy)]) (st2 := [vi dy, vi by']) kX9_meet_142 rfl ?_
                    refine AQ.ic_eq (tgt := 172) eX9_meet_145 (by decide) (by first | assumption | exact ⟨by omega, by omega⟩) (by first | assumption | exact ⟨by omega, by omega⟩) (fun br36 => ?_) (fun br36 => ?_)
                    · skip
                      refine q_blk (lv2 := [(0, vi ax), (1, vi ay), (2, vi bx), (3, vi by'), (4, vi cx), (5, vi cy), (6, vi dx), (7, vi dy)]) (st2 := [vi 1]) kX9_meet_172 rfl ?_
                      refine q_goto (tgt := 177) eX9_meet_173 (by decide) ?_
                      exact q_rz rfl eX9_meet_177 (by decide) ⟨1, rfl, Or.inl ⟨rfl, by unfold gm_mt; first | exact Or.inl ⟨by assumption, by assumption⟩ | exact Or.inr (Or.inl (by assumption)) | exact Or.inr (Or.inr (Or.inl (by assumption))) | exact Or.inr (Or.inr (Or.inr (Or.inl (by assumption)))) | exact Or.inr (Or.inr (Or.inr (Or.inr (Or.inl (by assumption))))) | exact Or.inr (Or.inr (Or.inr (Or.inr (Or.inr (by omega)))))⟩, rfl⟩
                    · skip
                      refine q_blk (lv2 := [(0, vi ax), (1, vi ay), (2, vi bx), (3, vi by'), (4, vi cx), (5, vi cy), (6, vi dx), (7, vi dy)]) (st2 := [vi dx, vi ax]) kX9_meet_148 rfl ?_
                      refine AQ.ic_ne (tgt := 176) eX9_meet_151 (by decide) (by first | assumption | exact ⟨by omega, by omega⟩) (by first | assumption | exact ⟨by omega, by omega⟩) (fun br37 => ?_) (fun br37 => ?_)
                      · skip
                        refine q_blk (lv2 := [(0, vi ax), (1, vi ay), (2, vi bx), (3, vi by'), (4, vi cx), (5, vi cy), (6, vi dx), (7, vi dy)]) (st2 := [vi 0]) kX9_meet_176 rfl ?_
                        exact q_rz rfl eX9_meet_177 (by decide) ⟨0, rfl, Or.inr ⟨rfl, fun q => by
      unfold gm_mt at q
      rcases q with ⟨q, q'⟩ | q | q | q | q | q
      all_goals first | contradiction | omega⟩, rfl⟩
                      · skip
                        refine q_blk (lv2 := [(0, vi ax), (1, vi ay), (2, vi bx), (3, vi by'), (4, vi cx), (5, vi cy), (6, vi dx), (7, vi dy)]) (st2 := [vi dy, vi ay]) kX9_meet_154 rfl ?_
                        refine AQ.ic_ne (tgt := 176) eX9_meet_157 (by decide) (by first | assumption | exact ⟨by omega, by omega⟩) (by first | assumption | exact ⟨by omega, by omega⟩) (fun br38 => ?_) (fun br38 => ?_)
                        · skip
                          refine q_blk (lv2 := [(0, vi ax), (1, vi ay), (2, vi bx), (3, vi by'), (4, vi cx), (5, vi cy), (6, vi dx), (7, vi dy)]) (st2 := [vi 0]) kX9_meet_176 rfl ?_
                          exact q_rz rfl eX9_meet_177 (by decide) ⟨0, rfl, Or.inr ⟨rfl, fun q => by
      unfold gm_mt at q
      rcases q with ⟨q, q'⟩ | q | q | q | q | q
      all_goals first | contradiction | omega⟩, rfl⟩
                        · skip
                          refine q_blk (lv2 := [(0, vi ax), (1, vi ay), (2, vi bx), (3, vi by'), (4, vi cx), (5, vi cy), (6, vi dx), (7, vi dy)]) (st2 := [vi cx, vi bx]) kX9_meet_160 rfl ?_
                          refine AQ.ic_ne (tgt := 176) eX9_meet_163 (by decide) (by first | assumption | exact ⟨by omega, by omega⟩) (by first | assumption | exact ⟨by omega, by omega⟩) (fun br39 => ?_) (fun br39 => ?_)
                          · skip
                            refine q_blk (lv2 := [(0, vi ax), (1, vi ay), (2, vi bx), (3, vi by'), (4, vi cx), (5, vi cy), (6, vi dx), (7, vi dy)]) (st2 := [vi 0]) kX9_meet_176 rfl ?_
                            exact q_rz rfl eX9_meet_177 (by decide) ⟨0, rfl, Or.inr ⟨rfl, fun q => by
      unfold gm_mt at q
      rcases q with ⟨q, q'⟩ | q | q | q | q | q
      all_goals first | contradiction | omega⟩, rfl⟩
                          · skip
                            refine q_blk (lv2 := [(0, vi ax), (1, vi ay), (2, vi bx), (3, vi by'), (4, vi cx), (5, vi cy), (6, vi dx), (7, vi dy)]) (st2 := [vi cy, vi by']) kX9_meet_166 rfl ?_
                            refine AQ.ic_ne (tgt := 176) eX9_meet_169 (by decide) (by first | assumption | exact ⟨by omega, by omega⟩) (by first | assumption | exact ⟨by omega, by omega⟩) (fun br40 => ?_) (fun br40 => ?_)
                            · skip
                              refine q_blk (lv2 := [(0, vi ax), (1, vi ay), (2, vi bx), (3, vi by'), (4, vi cx), (5, vi cy), (6, vi dx), (7, vi dy)]) (st2 := [vi 0]) kX9_meet_176 rfl ?_
                              exact q_rz rfl eX9_meet_177 (by decide) ⟨0, rfl, Or.inr ⟨rfl, fun q => by
      unfold gm_mt at q
      rcases q with ⟨q, q'⟩ | q | q | q | q | q
      all_goals first | contradiction | omega⟩, rfl⟩
                            · skip
                              refine q_blk (lv2 := [(0, vi ax), (1, vi ay), (2, vi bx), (3, vi by'), (4, vi cx), (5, vi cy), (6, vi dx), (7, vi dy)]) (st2 := [vi 1]) kX9_meet_172 rfl ?_
                              refine q_goto (tgt := 177) eX9_meet_173 (by decide) ?_
                              exact q_rz rfl eX9_meet_177 (by decide) ⟨1, rfl, Or.inl ⟨rfl, by unfold gm_mt; first | exact Or.inl ⟨by assumption, by assumption⟩ | exact Or.inr (Or.inl (by assumption)) | exact Or.inr (Or.inr (Or.inl (by assumption))) | exact Or.inr (Or.inr (Or.inr (Or.inl (by assumption)))) | exact Or.inr (Or.inr (Or.inr (Or.inr (Or.inl (by assumption))))) | exact Or.inr (Or.inr (Or.inr (Or.inr (Or.inr (by omega)))))⟩, rfl⟩
  · skip
    refine AQ.of (AS.if_eq_t (tgt := 62) eX9_meet_25 (by decide) ⟨by decide, by decide⟩ (by decide)) ?_
    refine q_blk (lv2 := [(0, vi ax), (1, vi ay), (2, vi bx), (3, vi by'), (4, vi cx), (5, vi cy), (6, vi dx), (7, vi dy)]) (st2 := [vi cy, vi cx, vi by', vi bx, vi ay, vi ax]) kX9_meet_62 rfl ?_
    refine q_Si (av := [vi ax, vi ay, vi bx, vi by', vi cx, vi cy]) (st := []) (c_X9_isWithin (by first | assumption | exact ⟨by omega, by omega⟩) (by first | assumption | exact ⟨by omega, by omega⟩) (by first | assumption | exact ⟨by omega, by omega⟩) (by first | assumption | exact ⟨by omega, by omega⟩) (by first | assumption | exact ⟨by omega, by omega⟩) (by first | assumption | exact ⟨by omega, by omega⟩)) lk_RX9_69 (by decide) rfl rfl (Nat.le_of_ble_eq_true rfl) eX9_meet_70 (fun z41 e42 => ?_)
    rcases e42 with ⟨rfl, e42⟩ | ⟨rfl, e42⟩
    · skip
      refine AQ.of (AS.if_ne_t (tgt := 122) eX9_meet_73 (by decide) ⟨by decide, by decide⟩ (by decide)) ?_
      refine q_blk (lv2 := [(0, vi ax), (1, vi ay), (2, vi bx), (3, vi by'), (4, vi cx), (5, vi cy), (6, vi dx), (7, vi dy)]) (st2 := [vi 1]) kX9_meet_122 rfl ?_
      exact q_rz rfl eX9_meet_123 (by decide) ⟨1, rfl, Or.inl ⟨rfl, by unfold gm_mt; first | exact Or.inl ⟨by assumption, by assumption⟩ | exact Or.inr (Or.inl (by assumption)) | exact Or.inr (Or.inr (Or.inl (by assumption))) | exact Or.inr (Or.inr (Or.inr (Or.inl (by assumption)))) | exact Or.inr (Or.inr (Or.inr (Or.inr (Or.inl (by assumption))))) | exact Or.inr (Or.inr (Or.inr (Or.inr (Or.inr (by omega)))))⟩, rfl⟩
    · skip
      refine AQ.of (AS.if_ne_f eX9_meet_73 ⟨by decide, by decide⟩ (by decide) (by decide)) ?_
      refine q_blk (lv2 := [(0, vi ax), (1, vi ay), (2, vi bx), (3, vi by'), (4, vi cx), (5, vi cy), (6, vi dx), (7, vi dy)]) (st2 := [vi dy, vi dx, vi by', vi bx, vi ay, vi ax]) kX9_meet_76 rfl ?_
      refine q_Si (av := [vi ax, vi ay, vi bx, vi by', vi dx, vi dy]) (st := []) (c_X9_isWithin (by first | assumption | exact ⟨by omega, by omega⟩) (by first | assumption | exact ⟨by omega, by omega⟩) (by first | assumption | exact ⟨by omega, by omega⟩) (by first | assumption | exact ⟨by omega, by omega⟩) (by first | assumption | exact ⟨by omega, by omega⟩) (by first | assumption | exact ⟨by omega, by omega⟩)) lk_RX9_69 (by decide) rfl rfl (Nat.le_of_ble_eq_true rfl) eX9_meet_84 (fun z43 e44 => ?_)
      rcases e44 with ⟨rfl, e44⟩ | ⟨rfl, e44⟩
      · skip
        refine AQ.of (AS.if_ne_t (tgt := 122) eX9_meet_87 (by decide) ⟨by decide, by decide⟩ (by decide)) ?_
        refine q_blk (lv2 := [(0, vi ax), (1, vi ay), (2, vi bx), (3, vi by'), (4, vi cx), (5, vi cy), (6, vi dx), (7, vi dy)]) (st2 := [vi 1]) kX9_meet_122 rfl ?_
        exact q_rz rfl eX9_meet_123 (by decide) ⟨1, rfl, Or.inl ⟨rfl, by unfold gm_mt; first | exact Or.inl ⟨by assumption, by assumption⟩ | exact Or.inr (Or.inl (by assumption)) | exact Or.inr (Or.inr (Or.inl (by assumption))) | exact Or.inr (Or.inr (Or.inr (Or.inl (by assumption)))) | exact Or.inr (Or.inr (Or.inr (Or.inr (Or.inl (by assumption))))) | exact Or.inr (Or.inr (Or.inr (Or.inr (Or.inr (by omega)))))⟩, rfl⟩
      · skip
        refine AQ.of (AS.if_ne_f eX9_meet_87 ⟨by decide, by decide⟩ (by decide) (by decide)) ?_
        refine q_blk (lv2 := [(0, vi ax), (1, vi ay), (2, vi bx), (3, vi by'), (4, vi cx), (5, vi cy), (6, vi dx), (7, vi dy)]) (st2 := [vi ay, vi ax, vi dy, vi dx, vi cy, vi cx]) kX9_meet_90 rfl ?_
        refine q_Si (av := [vi cx, vi cy, vi dx, vi dy, vi ax, vi ay]) (st := []) (c_X9_isWithin (by first | assumption | exact ⟨by omega, by omega⟩) (by first | assumption | exact ⟨by omega, by omega⟩) (by first | assumption | exact ⟨by omega, by omega⟩) (by first | assumption | exact ⟨by omega, by omega⟩) (by first | assumption | exact ⟨by omega, by omega⟩) (by first | assumption | exact ⟨by omega, by omega⟩)) lk_RX9_69 (by decide) rfl rfl (Nat.le_of_ble_eq_true rfl) eX9_meet_100 (fun z45 e46 => ?_)
        rcases e46 with ⟨rfl, e46⟩ | ⟨rfl, e46⟩
        · skip
          refine AQ.of (AS.if_ne_t (tgt := 122) eX9_meet_103 (by decide) ⟨by decide, by decide⟩ (by decide)) ?_
          refine q_blk (lv2 := [(0, vi ax), (1, vi ay), (2, vi bx), (3, vi by'), (4, vi cx), (5, vi cy), (6, vi dx), (7, vi dy)]) (st2 := [vi 1]) kX9_meet_122 rfl ?_
          exact q_rz rfl eX9_meet_123 (by decide) ⟨1, rfl, Or.inl ⟨rfl, by unfold gm_mt; first | exact Or.inl ⟨by assumption, by assumption⟩ | exact Or.inr (Or.inl (by assumption)) | exact Or.inr (Or.inr (Or.inl (by assumption))) | exact Or.inr (Or.inr (Or.inr (Or.inl (by assumption)))) | exact Or.inr (Or.inr (Or.inr (Or.inr (Or.inl (by assumption))))) | exact Or.inr (Or.inr (Or.inr (Or.inr (Or.inr (by omega)))))⟩, rfl⟩
        · skip
          refine AQ.of (AS.if_ne_f eX9_meet_103 ⟨by decide, by decide⟩ (by decide) (by decide)) ?_
          refine q_blk (lv2 := [(0, vi ax), (1, vi ay), (2, vi bx), (3, vi by'), (4, vi cx), (5, vi cy), (6, vi dx), (7, vi dy)]) (st2 := [vi by', vi bx, vi dy, vi dx, vi cy, vi cx]) kX9_meet_106 rfl ?_
          refine q_Si (av := [vi cx, vi cy, vi dx, vi dy, vi bx, vi by']) (st := []) (c_X9_isWithin (by first | assumption | exact ⟨by omega, by omega⟩) (by first | assumption | exact ⟨by omega, by omega⟩) (by first | assumption | exact ⟨by omega, by omega⟩) (by first | assumption | exact ⟨by omega, by omega⟩) (by first | assumption | exact ⟨by omega, by omega⟩) (by first | assumption | exact ⟨by omega, by omega⟩)) lk_RX9_69 (by decide) rfl rfl (Nat.le_of_ble_eq_true rfl) eX9_meet_116 (fun z47 e48 => ?_)
          rcases e48 with ⟨rfl, e48⟩ | ⟨rfl, e48⟩
          · skip
            refine AQ.of (AS.if_eq_f eX9_meet_119 ⟨by decide, by decide⟩ (by decide) (by decide)) ?_
            refine q_blk (lv2 := [(0, vi ax), (1, vi ay), (2, vi bx), (3, vi by'), (4, vi cx), (5, vi cy), (6, vi dx), (7, vi dy)]) (st2 := [vi 1]) kX9_meet_122 rfl ?_
            exact q_rz rfl eX9_meet_123 (by decide) ⟨1, rfl, Or.inl ⟨rfl, by unfold gm_mt; first | exact Or.inl ⟨by assumption, by assumption⟩ | exact Or.inr (Or.inl (by assumption)) | exact Or.inr (Or.inr (Or.inl (by assumption))) | exact Or.inr (Or.inr (Or.inr (Or.inl (by assumption)))) | exact Or.inr (Or.inr (Or.inr (Or.inr (Or.inl (by assumption))))) | exact Or.inr (Or.inr (Or.inr (Or.inr (Or.inr (by omega)))))⟩, rfl⟩
          · skip
            refine AQ.of (AS.if_eq_t (tgt := 124) eX9_meet_119 (by decide) ⟨by decide, by decide⟩ (by decide)) ?_
            refine q_blk (lv2 := [(0, vi ax), (1, vi ay), (2, vi bx), (3, vi by'), (4, vi cx), (5, vi cy), (6, vi dx), (7, vi dy)]) (st2 := [vi cx, vi ax]) kX9_meet_124 rfl ?_
            refine AQ.ic_ne (tgt := 148) eX9_meet_127 (by decide) (by first | assumption | exact ⟨by omega, by omega⟩) (by first | assumption | exact ⟨by omega, by omega⟩) (fun br49 => ?_) (fun br49 => ?_)
            · skip
              refine q_blk (lv2 := [(0, vi ax), (1, vi ay), (2, vi bx), (3, vi by'), (4, vi cx), (5, vi cy), (6, vi dx), (7, vi dy)]) (st2 := [vi dx, vi ax]) kX9_meet_148 rfl ?_
              refine AQ.ic_ne (tgt := 176) eX9_meet_151 (by decide) (by first | assumption | exact ⟨by omega, by omega⟩) (by first | assumption | exact ⟨by omega, by omega⟩) (fun br50 => ?_) (fun br50 => ?_)
              · skip
                refine q_blk (lv2 := [(0, vi ax), (1, vi ay), (2, vi bx), (3, vi by'), (4, vi cx), (5, vi cy), (6, vi dx), (7, vi dy)]) (st2 := [vi 0]) kX9_meet_176 rfl ?_
                exact q_rz rfl eX9_meet_177 (by decide) ⟨0, rfl, Or.inr ⟨rfl, fun q => by
      unfold gm_mt at q
      rcases q with ⟨q, q'⟩ | q | q | q | q | q
      all_goals first | contradiction | omega⟩, rfl⟩
              · skip
                refine q_blk (lv2 := [(0, vi ax), (1, vi ay), (2, vi bx), (3, vi by'), (4, vi cx), (5, vi cy), (6, vi dx), (7, vi dy)]) (st2 := [vi dy, vi ay]) kX9_meet_154 rfl ?_
                refine AQ.ic_ne (tgt := 176) eX9_meet_157 (by decide) (by first | assumption | exact ⟨by omega, by omega⟩) (by first | assumption | exact ⟨by omega, by omega⟩) (fun br51 => ?_) (fun br51 => ?_)
                · skip
                  refine q_blk (lv2 := [(0, vi ax), (1, vi ay), (2, vi bx), (3, vi by'), (4, vi cx), (5, vi cy), (6, vi dx), (7, vi dy)]) (st2 := [vi 0]) kX9_meet_176 rfl ?_
                  exact q_rz rfl eX9_meet_177 (by decide) ⟨0, rfl, Or.inr ⟨rfl, fun q => by
      unfold gm_mt at q
      rcases q with ⟨q, q'⟩ | q | q | q | q | q
      all_goals first | contradiction | omega⟩, rfl⟩
                · skip
                  refine q_blk (lv2 := [(0, vi ax), (1, vi ay), (2, vi bx), (3, vi by'), (4, vi cx), (5, vi cy), (6, vi dx), (7, vi dy)]) (st2 := [vi cx, vi bx]) kX9_meet_160 rfl ?_
                  refine AQ.ic_ne (tgt := 176) eX9_meet_163 (by decide) (by first | assumption | exact ⟨by omega, by omega⟩) (by first | assumption | exact ⟨by omega, by omega⟩) (fun br52 => ?_) (fun br52 => ?_)
                  · skip
                    refine q_blk (lv2 := [(0, vi ax), (1, vi ay), (2, vi bx), (3, vi by'), (4, vi cx), (5, vi cy), (6, vi dx), (7, vi dy)]) (st2 := [vi 0]) kX9_meet_176 rfl ?_
                    exact q_rz rfl eX9_meet_177 (by decide) ⟨0, rfl, Or.inr ⟨rfl, fun q => by
      unfold gm_mt at q
      rcases q with ⟨q, q'⟩ | q | q | q | q | q
      all_goals first | contradiction | omega⟩, rfl⟩
                  · skip
                    refine q_blk (lv2 := [(0, vi ax), (1, vi ay), (2, vi bx), (3, vi by'), (4, vi cx), (5, vi cy), (6, vi dx), (7, vi dy)]) (st2 := [vi cy, vi by']) kX9_meet_166 rfl ?_
                    refine AQ.ic_ne (tgt := 176) eX9_meet_169 (by decide) (by first | assumption | exact ⟨by omega, by omega⟩) (by first | assumption | exact ⟨by omega, by omega⟩) (fun br53 => ?_) (fun br53 => ?_)
                    · skip
                      refine q_blk (lv2 := [(0, vi ax), (1, vi ay), (2, vi bx), (3, vi by'), (4, vi cx), (5, vi cy), (6, vi dx), (7, vi dy)]) (st2 := [vi 0]) kX9_meet_176 rfl ?_
                      exact q_rz rfl eX9_meet_177 (by decide) ⟨0, rfl, Or.inr ⟨rfl, fun q => by
      unfold gm_mt at q
      rcases q with ⟨q, q'⟩ | q | q | q | q | q
      all_goals first | contradiction | omega⟩, rfl⟩
                    · skip
                      refine q_blk (lv2 := [(0, vi ax), (1, vi ay), (2, vi bx), (3, vi by'), (4, vi cx), (5, vi cy), (6, vi dx), (7, vi dy)]) (st2 := [vi 1]) kX9_meet_172 rfl ?_
                      refine q_goto (tgt := 177) eX9_meet_173 (by decide) ?_
                      exact q_rz rfl eX9_meet_177 (by decide) ⟨1, rfl, Or.inl ⟨rfl, by unfold gm_mt; first | exact Or.inl ⟨by assumption, by assumption⟩ | exact Or.inr (Or.inl (by assumption)) | exact Or.inr (Or.inr (Or.inl (by assumption))) | exact Or.inr (Or.inr (Or.inr (Or.inl (by assumption)))) | exact Or.inr (Or.inr (Or.inr (Or.inr (Or.inl (by assumption))))) | exact Or.inr (Or.inr (Or.inr (Or.inr (Or.inr (by omega)))))⟩, rfl⟩
            · skip
              refine q_blk (lv2 := [(0, vi ax), (1, vi ay), (2, vi bx), (3, vi by'), (4, vi cx), (5, vi cy), (6, vi dx), (7, vi dy)]) (st2 := [vi cy, vi ay]) kX9_meet_130 rfl ?_
              refine AQ.ic_ne (tgt := 148) eX9_meet_133 (by decide) (by first | assumption | exact ⟨by omega, by omega⟩) (by first | assumption | exact ⟨by omega, by omega⟩) (fun br54 => ?_) (fun br54 => ?_)
              · skip
                refine q_blk (lv2 := [(0, vi ax), (1, vi ay), (2, vi bx), (3, vi by'), (4, vi cx), (5, vi cy), (6, vi dx), (7, vi dy)]) (st2 := [vi dx, vi ax]) kX9_meet_148 rfl ?_
                refine AQ.ic_ne (tgt := 176) eX9_meet_151 (by decide) (by first | assumption | exact ⟨by omega, by omega⟩) (by first | assumption | exact ⟨by omega, by omega⟩) (fun br55 => ?_) (fun br55 => ?_)
                · skip
                  refine q_blk (lv2 := [(0, vi ax), (1, vi ay), (2, vi bx), (3, vi by'), (4, vi cx), (5, vi cy), (6, vi dx), (7, vi dy)]) (st2 := [vi 0]) kX9_meet_176 rfl ?_
                  exact q_rz rfl eX9_meet_177 (by decide) ⟨0, rfl, Or.inr ⟨rfl, fun q => by
      unfold gm_mt at q
      rcases q with ⟨q, q'⟩ | q | q | q | q | q
      all_goals first | contradiction | omega⟩, rfl⟩
                · skip
                  refine q_blk (lv2 := [(0, vi ax), (1, vi ay), (2, vi bx), (3, vi by'), (4, vi cx), (5, vi cy), (6, vi dx), (7, vi dy)]) (st2 := [vi dy, vi ay]) kX9_meet_154 rfl ?_
                  refine AQ.ic_ne (tgt := 176) eX9_meet_157 (by decide) (by first | assumption | exact ⟨by omega, by omega⟩) (by first | assumption | exact ⟨by omega, by omega⟩) (fun br56 => ?_) (fun br56 => ?_)
                  · skip
                    refine q_blk (lv2 := [(0, vi ax), (1, vi ay), (2, vi bx), (3, vi by'), (4, vi cx), (5, vi cy), (6, vi dx), (7, vi dy)]) (st2 := [vi 0]) kX9_meet_176 rfl ?_
                    exact q_rz rfl eX9_meet_177 (by decide) ⟨0, rfl, Or.inr ⟨rfl, fun q => by
      unfold gm_mt at q
      rcases q with ⟨q, q'⟩ | q | q | q | q | q
      all_goals first | contradiction | omega⟩, rfl⟩
                  · skip
                    refine q_blk (lv2 := [(0, vi ax), (1, vi ay), (2, vi bx), (3, vi by'), (4, vi cx), (5, vi cy), (6, vi dx), (7, vi dy)]) (st2 := [vi cx, vi bx]) kX9_meet_160 rfl ?_
                    refine AQ.ic_ne (tgt := 176) eX9_meet_163 (by decide) (by first | assumption | exact ⟨by omega, by omega⟩) (by first | assumption | exact ⟨by omega, by omega⟩) (fun br57 => ?_) (fun br57 => ?_)
                    · skip
                      refine q_blk (lv2 := [(0, vi ax), (1, vi ay), (2, vi bx), (3, vi by'), (4, vi cx), (5, vi cy), (6, vi dx), (7, vi dy)]) (st2 := [vi 0]) kX9_meet_176 rfl ?_
                      exact q_rz rfl eX9_meet_177 (by decide) ⟨0, rfl, Or.inr ⟨rfl, fun q => by
      unfold gm_mt at q
      rcases q with ⟨q, q'⟩ | q | q | q | q | q
      all_goals first | contradiction | omega⟩, rfl⟩
                    · skip
                      refine q_blk (lv2 := [(0, vi ax), (1, vi ay), (2, vi bx), (3, vi by'), (4, vi cx), (5, vi cy), (6, vi dx), (7, vi dy)]) (st2 := [vi cy, vi by']) kX9_meet_166 rfl ?_
                      refine AQ.ic_ne (tgt := 176) eX9_meet_169 (by decide) (by first | assumption | exact ⟨by omega, by omega⟩) (by first | assumption | exact ⟨by omega, by omega⟩) (fun br58 => ?_) (fun br58 => ?_)
                      · skip
                        refine q_blk (lv2 := [(0, vi ax), (1, vi ay), (2, vi bx), (3, vi by'), (4, vi cx), (5, vi cy), (6, vi dx), (7, vi dy)]) (st2 := [vi 0]) kX9_meet_176 rfl ?_
                        exact q_rz rfl eX9_meet_177 (by decide) ⟨0, rfl, Or.inr ⟨rfl, fun q => by
      unfold gm_mt at q
      rcases q with ⟨q, q'⟩ | q | q | q | q | q
      all_goals first | contradiction | omega⟩, rfl⟩
                      · skip
                        refine q_blk (lv2 := [(0, vi ax), (1, vi ay), (2, vi bx), (3, vi by'), (4, vi cx), (5, vi cy), (6, vi dx), (7, vi dy)]) (st2 := [vi 1]) kX9_meet_172 rfl ?_
                        refine q_goto (tgt := 177) eX9_meet_173 (by decide) ?_
                        exact q_rz rfl eX9_meet_177 (by decide) ⟨1, rfl, Or.inl ⟨rfl, by unfold gm_mt; first | exact Or.inl ⟨by assumption, by assumption⟩ | exact Or.inr (Or.inl (by assumption)) | exact Or.inr (Or.inr (Or.inl (by assumption))) | exact Or.inr (Or.inr (Or.inr (Or.inl (by assumption)))) | exact Or.inr (Or.inr (Or.inr (Or.inr (Or.inl (by assumption))))) | exact Or.inr (Or.inr (Or.inr (Or.inr (Or.inr (by omega)))))⟩, rfl⟩
              · skip
                refine q_blk (lv2 := [(0, vi ax), (1, vi ay), (2, vi bx), (3, vi by'), (4, vi cx), (5, vi cy), (6, vi dx), (7, vi dy)]) (st2 := [vi dx, vi bx]) kX9_meet_136 rfl ?_
                refine AQ.ic_ne (tgt := 148) eX9_meet_139 (by decide) (by first | assumption | exact ⟨by omega, by omega⟩) (by first | assumption | exact ⟨by omega, by omega⟩) (fun br59 => ?_) (fun br59 => ?_)
                · skip
                  refine q_blk (lv2 := [(0, vi ax), (1, vi ay), (2, vi bx), (3, vi by'), (4, vi cx), (5, vi cy), (6, vi dx), (7, vi dy)]) (st2 := [vi dx, vi ax]) kX9_meet_148 rfl ?_
                  refine AQ.ic_ne (tgt := 176) eX9_meet_151 (by decide) (by first | assumption | exact ⟨by omega, by omega⟩) (by first | assumption | exact ⟨by omega, by omega⟩) (fun br60 => ?_) (fun br60 => ?_)
                  · skip
                    refine q_blk (lv2 := [(0, vi ax), (1, vi ay), (2, vi bx), (3, vi by'), (4, vi cx), (5, vi cy), (6, vi dx), (7, vi dy)]) (st2 := [vi 0]) kX9_meet_176 rfl ?_
                    exact q_rz rfl eX9_meet_177 (by decide) ⟨0, rfl, Or.inr ⟨rfl, fun q => by
      unfold gm_mt at q
      rcases q with ⟨q, q'⟩ | q | q | q | q | q
      all_goals first | contradiction | omega⟩, rfl⟩
                  · skip
                    refine q_blk (lv2 := [(0, vi ax), (1, vi ay), (2, vi bx), (3, vi by'), (4, vi cx), (5, vi cy), (6, vi dx), (7, vi dy)]) (st2 := [vi dy, vi ay]) kX9_meet_154 rfl ?_
                    refine AQ.ic_ne (tgt := 176) eX9_meet_157 (by decide) (by first | assumption | exact ⟨by omega, by omega⟩) (by first | assumption | exact ⟨by omega, by omega⟩) (fun br61 => ?_) (fun br61 => ?_)
                    · skip
                      refine q_blk (lv2 := [(0, vi ax), (1, vi ay), (2, vi bx), (3, vi by'), (4, vi cx), (5, vi cy), (6, vi dx), (7, vi dy)]) (st2 := [vi 0]) kX9_meet_176 rfl ?_
                      exact q_rz rfl eX9_meet_177 (by decide) ⟨0, rfl, Or.inr ⟨rfl, fun q => by
      unfold gm_mt at q
      rcases q with ⟨q, q'⟩ | q | q | q | q | q
      all_goals first | contradiction | omega⟩, rfl⟩
                    · skip
                      refine q_blk (lv2 := [(0, vi ax), (1, vi ay), (2, vi bx), (3, vi by'), (4, vi cx), (5, vi cy), (6, vi dx), (7, vi dy)]) (st2 := [vi cx, vi bx]) kX9_meet_160 rfl ?_
                      refine AQ.ic_ne (tgt := 176) eX9_meet_163 (by decide) (by first | assumption | exact ⟨by omega, by omega⟩) (by first | assumption | exact ⟨by omega, by omega⟩) (fun br62 => ?_) (fun br62 => ?_)
                      · skip
                        refine q_blk (lv2 := [(0, vi ax), (1, vi ay), (2, vi bx), (3, vi by'), (4, vi cx), (5, vi cy), (6, vi dx), (7, vi dy)]) (st2 := [vi 0]) kX9_meet_176 rfl ?_
                        exact q_rz rfl eX9_meet_177 (by decide) ⟨0, rfl, Or.inr ⟨rfl, fun q => by
      unfold gm_mt at q
      rcases q with ⟨q, q'⟩ | q | q | q | q | q
      all_goals first | contradiction | omega⟩, rfl⟩
                      · skip
                        refine q_blk (lv2 := [(0, vi ax), (1, vi ay), (2, vi bx), (3, vi by'), (4, vi cx), (5, vi cy), (6, vi dx), (7, vi dy)]) (st2 := [vi cy, vi by']) kX9_meet_166 rfl ?_
                        refine AQ.ic_ne (tgt := 176) eX9_meet_169 (by decide) (by first | assumption | exact ⟨by omega, by omega⟩) (by first | assumption | exact ⟨by omega, by omega⟩) (fun br63 => ?_) (fun br63 => ?_)
                        · skip
                          refine q_blk (lv2 := [(0, vi ax), (1, vi ay), (2, vi bx), (3, vi by'), (4, vi cx), (5, vi cy), (6, vi dx), (7, vi dy)]) (st2 := [vi 0]) kX9_meet_176 rfl ?_
                          exact q_rz rfl eX9_meet_177 (by decide) ⟨0, rfl, Or.inr ⟨rfl, fun q => by
      unfold gm_mt at q
      rcases q with ⟨q, q'⟩ | q | q | q | q | q
      all_goals first | contradiction | omega⟩, rfl⟩
                        · skip
                          refine q_blk (lv2 := [(0, vi ax), (1, vi ay), (2, vi bx), (3, vi by'), (4, vi cx), (5, vi cy), (6, vi dx), (7, vi dy)]) (st2 := [vi 1]) kX9_meet_172 rfl ?_
                          refine q_goto (tgt := 177) eX9_meet_173 (by decide) ?_
                          exact q_rz rfl eX9_meet_177 (by decide) ⟨1, rfl, Or.inl ⟨rfl, by unfold gm_mt; first | exact Or.inl ⟨by assumption, by assumption⟩ | exact Or.inr (Or.inl (by assumption)) | exact Or.inr (Or.inr (Or.inl (by assumption))) | exact Or.inr (Or.inr (Or.inr (Or.inl (by assumption)))) | exact Or.inr (Or.inr (Or.inr (Or.inr (Or.inl (by assumption))))) | exact Or.inr (Or.inr (Or.inr (Or.inr (Or.inr (by omega)))))⟩, rfl⟩
                · skip
                  refine q_blk (lv2 := [(0, vi ax), (1, vi ay), (2, vi bx), (3, vi by'), (4, vi cx), (5, vi cy), (6, vi dx), (7, vi dy)]) (st2 := [vi dy, vi by']) kX9_meet_142 rfl ?_
                  refine AQ.ic_eq (tgt := 172) eX9_meet_145 (by decide) (by first | assumption | exact ⟨by omega, by omega⟩) (by first | assumption | exact ⟨by omega, by omega⟩) (fun br64 => ?_) (fun br64 => ?_)
                  · skip
                    refine q_blk (lv2 := [(0, vi ax), (1, vi ay), (2, vi bx), (3, vi by'), (4, vi cx), (5, vi cy), (6, vi dx), (7, vi dy)]) (st2 := [vi 1]) kX9_meet_172 rfl ?_
                    refine q_goto (tgt := 177) eX9_meet_173 (by decide) ?_
                    exact q_rz rfl eX9_meet_177 (by decide) ⟨1, rfl, Or.inl ⟨rfl, by unfold gm_mt; first | exact Or.inl ⟨by assumption, by assumption⟩ | exact Or.inr (Or.inl (by assumption)) | exact Or.inr (Or.inr (Or.inl (by assumption))) | exact Or.inr (Or.inr (Or.inr (Or.inl (by assumption)))) | exact Or.inr (Or.inr (Or.inr (Or.inr (Or.inl (by assumption))))) | exact Or.inr (Or.inr (Or.inr (Or.inr (Or.inr (by omega)))))⟩, rfl⟩
                  · skip
                    refine q_blk (lv2 := [(0, vi ax), (1, vi ay), (2, vi bx), (3, vi by'), (4, vi cx), (5, vi cy), (6, vi dx), (7, vi dy)]) (st2 := [vi dx, vi ax]) kX9_meet_148 rfl ?_
                    refine AQ.ic_ne (tgt := 176) eX9_meet_151 (by decide) (by first | assumption | exact ⟨by omega, by omega⟩) (by first | assumption | exact ⟨by omega, by omega⟩) (fun br65 => ?_) (fun br65 => ?_)
                    · skip
                      refine q_blk (lv2 := [(0, vi ax), (1, vi ay), (2, vi bx), (3, vi by'), (4, vi cx), (5, vi cy), (6, vi dx), (7, vi dy)]) (st2 := [vi 0]) kX9_meet_176 rfl ?_
                      exact q_rz rfl eX9_meet_177 (by decide) ⟨0, rfl, Or.inr ⟨rfl, fun q => by
      unfold gm_mt at q
      rcases q with ⟨q, q'⟩ | q | q | q | q | q
      all_goals first | contradiction | omega⟩, rfl⟩
                    · skip
                      refine q_blk (lv2 := [(0, vi ax), (1, vi ay), (2, vi bx), (3, vi by'), (4, vi cx), (5, vi cy), (6, vi dx), (7, vi dy)]) (st2 := [vi dy, vi ay]) kX9_meet_154 rfl ?_
                      refine AQ.ic_ne (tgt := 176) eX9_meet_157 (by decide) (by first | assumption | exact ⟨by omega, by omega⟩) (by first | assumption | exact ⟨by omega, by omega⟩) (fun br66 => ?_) (fun br66 => ?_)
                      · skip
                        refine q_blk (lv2 := [(0, vi ax), (1, vi ay), (2, vi bx), (3, vi by'), (4, vi cx), (5, vi cy), (6, vi dx), (7, vi dy)]) (st2 := [vi 0]) kX9_meet_176 rfl ?_
                        exact q_rz rfl eX9_meet_177 (by decide) ⟨0, rfl, Or.inr ⟨rfl, fun q => by
      unfold gm_mt at q
      rcases q with ⟨q, q'⟩ | q | q | q | q | q
      all_goals first | contradiction | omega⟩, rfl⟩
                      · skip
                        refine q_blk (lv2 := [(0, vi ax), (1, vi ay), (2, vi bx), (3, vi by'), (4, vi cx), (5, vi cy), (6, vi dx), (7, vi dy)]) (st2 := [vi cx, vi bx]) kX9_meet_160 rfl ?_
                        refine AQ.ic_ne (tgt := 176) eX9_meet_163 (by decide) (by first | assumption | exact ⟨by omega, by omega⟩) (by first | assumption | exact ⟨by omega, by omega⟩) (fun br67 => ?_) (fun br67 => ?_)
                        · skip
                          refine q_blk (lv2 := [(0, vi ax), (1, vi ay), (2, vi bx), (3, vi by'), (4, vi cx), (5, vi cy), (6, vi dx), (7, vi dy)]) (st2 := [vi 0]) kX9_meet_176 rfl ?_
                          exact q_rz rfl eX9_meet_177 (by decide) ⟨0, rfl, Or.inr ⟨rfl, fun q => by
      unfold gm_mt at q
      rcases q with ⟨q, q'⟩ | q | q | q | q | q
      all_goals first | contradiction | omega⟩, rfl⟩
                        · skip
                          refine q_blk (lv2 := [(0, vi ax), (1, vi ay), (2, vi bx), (3, vi by'), (4, vi cx), (5, vi cy), (6, vi dx), (7, vi dy)]) (st2 := [vi cy, vi by']) kX9_meet_166 rfl ?_
                          refine AQ.ic_ne (tgt := 176) eX9_meet_169 (by decide) (by first | assumption | exact ⟨by omega, by omega⟩) (by first | assumption | exact ⟨by omega, by omega⟩) (fun br68 => ?_) (fun br68 => ?_)
                          · skip
                            refine q_blk (lv2 := [(0, vi ax), (1, vi ay), (2, vi bx), (3, vi by'), (4, vi cx), (5, vi cy), (6, vi dx), (7, vi dy)]) (st2 := [vi 0]) kX9_meet_176 rfl ?_
                            exact q_rz rfl eX9_meet_177 (by decide) ⟨0, rfl, Or.inr ⟨rfl, fun q => by
      unfold gm_mt at q
      rcases q with ⟨q, q'⟩ | q | q | q | q | q
      all_goals first | contradiction | omega⟩, rfl⟩
                          · skip
                            refine q_blk (lv2 := [(0, vi ax), (1, vi ay), (2, vi bx), (3, vi by'), (4, vi cx), (5, vi cy), (6, vi dx), (7, vi dy)]) (st2 := [vi 1]) kX9_meet_172 rfl ?_
                            refine q_goto (tgt := 177) eX9_meet_173 (by decide) ?_
                            exact q_rz rfl eX9_meet_177 (by decide) ⟨1, rfl, Or.inl ⟨rfl, by unfold gm_mt; first | exact Or.inl ⟨by assumption, by assumption⟩ | exact Or.inr (Or.inl (by assumption)) | exact Or.inr (Or.inr (Or.inl (by assumption))) | exact Or.inr (Or.inr (Or.inr (Or.inl (by assumption)))) | exact Or.inr (Or.inr (Or.inr (Or.inr (Or.inl (by assumption))))) | exact Or.inr (Or.inr (Or.inr (Or.inr (Or.inr (by omega)))))⟩, rfl⟩

set_option maxHeartbeats 1000000 in
theorem c_X9_isDigit {w : am_w} {h : AH} {x : Int} (r_x : am_r x)  : AE w m_X9_isDigit 2 [vi x] h (am_intp h (fun z => am_b z (48 ≤ x ∧ x ≤ 57))) := by
  refine AE.of wf_X9_isDigit (Nat.le_of_ble_eq_true rfl) (am_ok_zp (fun z q => am_bz q)) ?_
  refine q_blk (lv2 := [(0, vi x)]) (st2 := [vi 57, vi 48, vi x]) kX9_isDigit_0 rfl ?_
  refine q_Si (av := [vi x, vi 48, vi 57]) (st := []) (c_X9_in (by first | assumption | exact ⟨by omega, by omega⟩) (by first | assumption | exact ⟨by omega, by omega⟩) (by first | assumption | exact ⟨by omega, by omega⟩)) lk_RX9_57 (by decide) rfl rfl (Nat.le_of_ble_eq_true rfl) eX9_isDigit_5 (fun z1 e2 => ?_)
  rcases e2 with ⟨rfl, e2⟩ | ⟨rfl, e2⟩
  · skip
    exact q_rz rfl eX9_isDigit_8 (by decide) ⟨1, rfl, Or.inl ⟨rfl, by omega⟩, rfl⟩
  · skip
    exact q_rz rfl eX9_isDigit_8 (by decide) ⟨0, rfl, Or.inr ⟨rfl, by omega⟩, rfl⟩
