/-! StringBuilder: made, appended to, turned into a String. -/
theorem gm_cpy_r {f g : Int → Int} {sp dp n N M : Int} (hf : ∀ j, 0 ≤ j → j < N → 0 ≤ f j ∧ f j < 128) (hg : ∀ j, 0 ≤ j → j < M → 0 ≤ g j ∧ g j < 128) (h0 : 0 ≤ sp) (h1 : sp + n ≤ N) : ∀ j, 0 ≤ j → j < M → 0 ≤ am_cpy f g sp dp n j ∧ am_cpy f g sp dp n j < 128 := by
  intro j j0 j1
  unfold am_cpy
  by_cases c : dp ≤ j ∧ j < dp + n
  · rw [if_pos c]; exact hf _ (by omega) (by omega)
  · rw [if_neg c]; exact hg j j0 j1
theorem gm_cpy_o {f g : Int → Int} {sp dp n j : Int} (h : j < dp ∨ dp + n ≤ j) : am_cpy f g sp dp n j = g j := by
  unfold am_cpy
  rw [if_neg (by omega)]
theorem gm_cpy_i {f g : Int → Int} {dp n j : Int} (h0 : 0 ≤ j) (h1 : j < n) : am_cpy f g 0 dp n (dp + j) = f j := by
  unfold am_cpy
  rw [if_pos ⟨by omega, by omega⟩]
  congr 1
  omega
theorem SBD.ne {h : AH} {s v : Nat} {cap cnt : Int} {fb : Int → Int} (hB : SBD h s v cap cnt fb) : s ≠ v := fun e => by
  have a := hB.2.1
  have b := hB.2.2.1
  rw [e, b] at a; cases a
theorem SBD.mv {h h1 : AH} {s v : Nat} {cap cnt : Int} {fb : Int → Int} (hB : SBD h s v cap cnt fb) (t : h.2.1 ≤ h1.2.1) (e1 : h1.1 s = h.1 s) (e2 : h1.1 v = h.1 v) : SBD h1 s v cap cnt fb := by
  obtain ⟨⟨a1, a2⟩, c0, c1, r⟩ := hB
  exact ⟨⟨by omega, by omega⟩, e1.trans c0, e2.trans c1, r⟩

set_option maxRecDepth 4000 in
set_option maxHeartbeats 1000000 in
theorem c_J5_init {w : am_w} {h : AH} {a : Nat} (hc : h.1 a = some (13, 4, am_L (List.replicate 4 0), am_G (List.replicate 4 none))) (hl : a < h.2.1)  : AE w m_J5_init_d00df 2 [vr a, vi 16] h (am_unit (fun h1 => (∃ v, SBD h1 a v 16 0 am_Z ∧ h.2.1 ≤ v) ∧ KF h h1 (fun q => q = a) 1 16)) := by
  refine AE.of wf_J5_init_d00df (Nat.le_of_ble_eq_true rfl) (am_ok_v) ?_
  refine q_blk (lv2 := [(0, vr a), (1, vi 16)]) (st2 := [vr a]) kJ5_init_d00df_0 rfl ?_
  refine AQ.of (AS.objInit eJ5_init_d00df_1 (am_gw 1290 (by decide +kernel) (by decide +kernel)) (am_gw 77 (by decide +kernel) (by decide +kernel)) (am_gw 78 (by decide +kernel) (by decide +kernel)) (by decide) (Nat.le_of_ble_eq_true rfl)) ?_
  refine AQ.of (AS.getCS (am_gw 1291 (by decide +kernel) (by decide +kernel)) eJ5_init_d00df_4) ?_
  refine AQ.of (AS.if_eq_f eJ5_init_d00df_7 ⟨by decide, by decide⟩ (by decide) (by decide)) ?_
  refine q_blk (lv2 := [(0, vr a), (1, vi 16)]) (st2 := [vi 16, vr a]) kJ5_init_d00df_10 rfl ?_
  obtain ⟨t1, e3t⟩ : ∃ q : Nat, h.2.1 = q := ⟨_, rfl⟩
  refine q_na (k := 101) 16 rfl e3t eJ5_init_d00df_12 (Or.inr (Or.inl ⟨rfl, rfl⟩)) (am_gw 119 (by decide +kernel) (by decide +kernel)) (by omega) (by omega) (fun h2 e3c e3f e3z => ?_)
  have k4 := (e3f a (by omega)).trans hc
  have e3u : h2.2.1 = t1 + 1 := by rw [e3z]
  have e3v : h2.2.2 = h.2.2 + 16 := by rw [e3z]
  have F5 : ∀ q, q < h.2.1 → ¬ (fun q => q = a) q → h2.1 q = h.1 q := fun q q0 q1 => (e3f q (by omega)).trans ((fun _ _ _ => rfl) q q0 q1)
  refine q_pr eJ5_init_d00df_14 fl_RJ5_15 (fun q hq => by cases hq; exact Or.inl rfl) (Or.inr ⟨_, rfl⟩) k4 (Nat.le_of_ble_eq_true rfl) (l2 := [some t1, none, none, none]) rfl (fun h6 e7 => ?_)
  have k8 := am_at e7
  have k9 := (am_ne e7 t1 (by omega)).trans e3c
  have e7u : h6.2.1 = h2.2.1 := congrArg Prod.fst (am_z e7)
  have e7v : h6.2.2 = h2.2.2 := congrArg Prod.snd (am_z e7)
  have F10 : ∀ q, q < h.2.1 → ¬ (fun q => q = a) q → h6.1 q = h.1 q := fun q q0 q1 => (am_ne e7 q (fun c => q1 c)).trans (F5 q q0 q1)
  refine q_blk (lv2 := [(0, vr a), (1, vi 16)]) (st2 := [vi 0, vr a]) kJ5_init_d00df_17 rfl ?_
  refine q_pb eJ5_init_d00df_19 fl_RJ5_22 (fun q hq => by cases hq; exact Or.inl rfl) rfl ⟨by decide, by decide⟩ k8 (Nat.le_of_ble_eq_true rfl) (l2 := [0, 0, 0, 0]) rfl (fun h11 e12 => ?_)
  have k13 := am_at e12
  have k14 := (am_ne e12 t1 (by omega)).trans k9
  have e12u : h11.2.1 = h6.2.1 := congrArg Prod.fst (am_z e12)
  have e12v : h11.2.2 = h6.2.2 := congrArg Prod.snd (am_z e12)
  have F15 : ∀ q, q < h.2.1 → ¬ (fun q => q = a) q → h11.1 q = h.1 q := fun q q0 q1 => (am_ne e12 q (fun c => q1 c)).trans (F10 q q0 q1)
  refine q_goto (tgt := 38) eJ5_init_d00df_22 (by decide) ?_
  exact q_rv rfl eJ5_init_d00df_38 ⟨rfl, ⟨t1, ⟨⟨by omega, by omega⟩, k13, k14, ⟨by decide, by decide, by decide⟩, fun j _ _ => ⟨Int.le_refl 0, (by decide : (0 : Int) < 128)⟩⟩, by omega⟩, ⟨F15, ⟨by omega, by omega⟩, by omega, by omega⟩⟩

set_option maxRecDepth 4000 in
set_option maxHeartbeats 1000000 in
theorem c_J4_init {w : am_w} {h : AH} {a : Nat} (hc : h.1 a = some (13, 4, am_L (List.replicate 4 0), am_G (List.replicate 4 none))) (hl : a < h.2.1)  : AE w m_J4_init_da8c8 3 [vr a] h (am_unit (fun h1 => (∃ v, SBD h1 a v 16 0 am_Z ∧ h.2.1 ≤ v) ∧ KF h h1 (fun q => q = a) 1 16)) := by
  refine AE.of wf_J4_init_da8c8 (Nat.le_of_ble_eq_true rfl) (am_ok_v) ?_
  refine q_blk (lv2 := [(0, vr a)]) (st2 := [vi 16, vr a]) kJ4_init_da8c8_0 rfl ?_
  refine AQ.callIv (av := [vi 16]) (st := []) (c_J5_init hc (by omega)) lk_RJ4_1 (by decide) rfl rfl (Nat.le_of_ble_eq_true rfl) eJ4_init_da8c8_3 (fun h3 e2 => ?_)
  obtain ⟨⟨v4, v4b, v4f⟩, g5f, ⟨g5a, g5b⟩, g5c, g5d⟩ := e2
  have F6 : ∀ q, q < h.2.1 → ¬ (fun q => q = a) q → h3.1 q = h.1 q := fun q q0 q1 => (g5f q (by omega) (fun c => q1 c)).trans ((fun _ _ _ => rfl) q q0 q1)
  exact q_rv rfl eJ4_init_da8c8_6 ⟨rfl, ⟨v4, v4b, by omega⟩, ⟨F6, ⟨by omega, by omega⟩, by omega, by omega⟩⟩

set_option maxRecDepth 4000 in
set_option maxHeartbeats 1000000 in
theorem c_J5_length {w : am_w} {h : AH} {s v : Nat} {cap cnt : Int} {fb : Int → Int} (hB : SBD h s v cap cnt fb)  : AE w m_J5_length_8abf5 1 [vr s] h (am_intp h (fun z => z = cnt)) := by
  refine AE.of wf_J5_length_8abf5 (Nat.le_of_ble_eq_true rfl) (am_ok_ip) ?_
  have nsv := hB.ne
  obtain ⟨⟨bs, bv⟩, c0, c1, hn, hb⟩ := id hB
  refine q_blk (lv2 := [(0, vr s)]) (st2 := [vr s]) kJ5_length_8abf5_0 rfl ?_
  refine q_gi eJ5_length_8abf5_1 fl_RJ5_79 (Or.inl rfl) c0 (z := cnt) rfl ?_
  exact q_ri rfl eJ5_length_8abf5_4 ⟨cnt, rfl, rfl, rfl⟩

set_option maxRecDepth 4000 in
set_option maxHeartbeats 1000000 in
theorem c_J4_length {w : am_w} {h : AH} {s v : Nat} {cap cnt : Int} {fb : Int → Int} (hB : SBD h s v cap cnt fb)  : AE w m_J4_length_8abf5 2 [vr s] h (am_intp h (fun z => z = cnt)) := by
  refine AE.of wf_J4_length_8abf5 (Nat.le_of_ble_eq_true rfl) (am_ok_ip) ?_
  have nsv := hB.ne
  obtain ⟨⟨bs, bv⟩, c0, c1, hn, hb⟩ := id hB
  refine q_blk (lv2 := [(0, vr s)]) (st2 := [vr s]) kJ4_length_8abf5_0 rfl ?_
  refine AQ.callZi (av := []) (st := []) (c_J5_length hB) lk_RJ4_343 (by decide) rfl rfl c0 (Nat.le_of_ble_eq_true rfl) eJ4_length_8abf5_1 (fun z1 h3 e2 => ?_)
  obtain ⟨e2, rfl⟩ := e2
  obtain rfl := e2.symm
  exact q_ri rfl eJ4_length_8abf5_4 ⟨cnt, rfl, rfl, rfl⟩

set_option maxRecDepth 4000 in
set_option maxHeartbeats 1000000 in
theorem c_J5_getValue {w : am_w} {h : AH} {s v : Nat} {cap cnt : Int} {fb : Int → Int} (hB : SBD h s v cap cnt fb)  : AE w m_J5_getValue_6d5f1 1 [vr s] h (am_ref (fun z h1 => z = v ∧ h = h1)) := by
  refine AE.of wf_J5_getValue_6d5f1 (Nat.le_of_ble_eq_true rfl) (am_ok_rA) ?_
  have nsv := hB.ne
  obtain ⟨⟨bs, bv⟩, c0, c1, hn, hb⟩ := id hB
  refine q_blk (lv2 := [(0, vr s)]) (st2 := [vr s]) kJ5_getValue_6d5f1_0 rfl ?_
  refine q_gr eJ5_getValue_6d5f1_1 fl_RJ5_15 (Or.inr ⟨_, rfl⟩) c0 rfl ?_
  exact q_rA rfl eJ5_getValue_6d5f1_4 ⟨v, rfl, rfl, rfl⟩

set_option maxRecDepth 4000 in
set_option maxHeartbeats 1000000 in
theorem c_J5_isLatin1 {w : am_w} {h : AH} {s v : Nat} {cap cnt : Int} {fb : Int → Int} (hB : SBD h s v cap cnt fb)  : AE w m_J5_isLatin1_aae02 1 [vr s] h (am_intp h (fun z => am_b z True)) := by
  refine AE.of wf_J5_isLatin1_aae02 (Nat.le_of_ble_eq_true rfl) (am_ok_zp (fun z q => am_bz q)) ?_
  have nsv := hB.ne
  obtain ⟨⟨bs, bv⟩, c0, c1, hn, hb⟩ := id hB
  refine AQ.of (AS.getCS (am_gw 1291 (by decide +kernel) (by decide +kernel)) eJ5_isLatin1_aae02_0) ?_
  refine AQ.of (AS.if_eq_f eJ5_isLatin1_aae02_3 ⟨by decide, by decide⟩ (by decide) (by decide)) ?_
  refine q_blk (lv2 := [(0, vr s)]) (st2 := [vr s]) kJ5_isLatin1_aae02_6 rfl ?_
  refine q_gb eJ5_isLatin1_aae02_7 fl_RJ5_22 rfl c0 (z := 0) rfl ?_
  refine AQ.of (AS.if_ne_f eJ5_isLatin1_aae02_10 ⟨by decide, by decide⟩ (by decide) (by decide)) ?_
  refine q_blk (lv2 := [(0, vr s)]) (st2 := [vi 1]) kJ5_isLatin1_aae02_13 rfl ?_
  refine q_goto (tgt := 18) eJ5_isLatin1_aae02_14 (by decide) ?_
  exact q_rz rfl eJ5_isLatin1_aae02_18 (by decide) ⟨1, rfl, Or.inl ⟨rfl, trivial⟩, rfl⟩

set_option maxRecDepth 4000 in
set_option maxHeartbeats 1000000 in
theorem c_J8_newLength {w : am_w} {h : AH} {o m p : Int} (ho : 0 ≤ o ∧ o ≤ 3000) (hm : 1 ≤ m ∧ m ≤ 3000) (hp : 0 ≤ p ∧ p ≤ 3100)  : AE w m_J8_newLength_cabcc 1 [vi o, vi m, vi p] h (am_intp h (fun z => o + m ≤ z ∧ (z = o + m ∨ z = o + p))) := by
  refine AE.of wf_J8_newLength_cabcc (Nat.le_of_ble_eq_true rfl) (am_ok_ip) ?_
  refine q_blk (lv2 := [(0, vi o), (1, vi m), (2, vi p)]) (st2 := [vi p, vi m, vi o]) kJ8_newLength_cabcc_0 rfl ?_
  refine AQ.of (AS.mmax eJ8_newLength_cabcc_3 (by first | assumption | exact ⟨by omega, by omega⟩ | exact ⟨by decide, by decide⟩) (by first | assumption | exact ⟨by omega, by omega⟩ | exact ⟨by decide, by decide⟩) (am_gw 1335 (by decide +kernel) (by decide +kernel)) (am_gw 567 (by decide +kernel) (by decide +kernel)) (am_gw 53 (by decide +kernel) (by decide +kernel)) (am_gw 568 (by decide +kernel) (by decide +kernel)) (by decide) (Nat.le_of_ble_eq_true rfl)) ?_
  obtain ⟨z1, e2⟩ : ∃ q : Int, q = (if m < p then p else m) := ⟨_, rfl⟩
  rw [← e2]
  have r9 : (m ≤ z1) ∧ (z1 = m ∨ z1 = p) := by rw [e2]; split <;> omega
  refine q_blk (lv2 := [(0, vi o), (1, vi m), (2, vi p), (3, vi (o + z1))]) (st2 := [vi (o + z1), vi 0]) kJ8_newLength_cabcc_6 rfl ?_
  refine AQ.of (AS.ic_ge_f eJ8_newLength_cabcc_10 ⟨by decide, by decide⟩ (by first | assumption | exact ⟨by omega, by omega⟩ | exact ⟨by decide, by decide⟩) (by omega) (by decide)) ?_
  refine q_blk (lv2 := [(0, vi o), (1, vi m), (2, vi p), (3, vi (o + z1))]) (st2 := [vi (o + z1)]) kJ8_newLength_cabcc_13 rfl ?_
  refine AQ.of (AS.ldc (z := 2147483639) eJ8_newLength_cabcc_14 (am_gw 1336 (by decide +kernel) (by decide +kernel))) ?_
  refine AQ.of (AS.ic_gt_f eJ8_newLength_cabcc_16 (by first | assumption | exact ⟨by omega, by omega⟩ | exact ⟨by decide, by decide⟩) ⟨by decide, by decide⟩ (by omega) (by decide)) ?_
  refine q_blk (lv2 := [(0, vi o), (1, vi m), (2, vi p), (3, vi (o + z1))]) (st2 := [vi (o + z1)]) kJ8_newLength_cabcc_19 rfl ?_
  exact q_ri rfl eJ8_newLength_cabcc_20 ⟨(o + z1), rfl, ⟨by omega, by omega⟩, rfl⟩

set_option maxRecDepth 4000 in
set_option maxHeartbeats 1000000 in
theorem c_J5_newCapacity {w : am_w} {h : AH} {s v : Nat} {cap cnt : Int} {fb : Int → Int} (hB : SBD h s v cap cnt fb) {mn : Int} (m0 : cap < mn) (m1 : mn ≤ 1000)  : AE w m_J5_newCapacity_0f7a4 2 [vr s, vi mn] h (am_intp h (fun z => mn ≤ z ∧ z ≤ 2 * mn + 2)) := by
  refine AE.of wf_J5_newCapacity_0f7a4 (Nat.le_of_ble_eq_true rfl) (am_ok_ip) ?_
  have nsv := hB.ne
  obtain ⟨⟨bs, bv⟩, c0, c1, hn, hb⟩ := id hB
  refine q_blk (lv2 := [(0, vr s), (1, vi mn)]) (st2 := [vr s]) kJ5_newCapacity_0f7a4_0 rfl ?_
  refine q_gr eJ5_newCapacity_0f7a4_1 fl_RJ5_15 (Or.inr ⟨_, rfl⟩) c0 rfl ?_
  refine q_al eJ5_newCapacity_0f7a4_4 c1 (by decide) ?_
  refine q_blk (lv2 := [(0, vr s), (1, vi mn), (2, vi cap)]) (st2 := [vr s, vi mn]) kJ5_newCapacity_0f7a4_5 rfl ?_
  refine q_gb eJ5_newCapacity_0f7a4_8 fl_RJ5_22 rfl c0 (z := 0) rfl ?_
  refine AQ.of (AS.ishlZ eJ5_newCapacity_0f7a4_11 (by omega) (by omega)) ?_
  refine q_blk (lv2 := [(0, vr s), (1, vi mn), (2, vi cap), (3, vi mn), (4, vi (mn - cap))]) (st2 := [vr s, vi 2, vi cap, vi (mn - cap), vi cap]) kJ5_newCapacity_0f7a4_12 rfl ?_
  refine q_gb eJ5_newCapacity_0f7a4_24 fl_RJ5_22 rfl c0 (z := 0) rfl ?_
  refine AQ.of (AS.ishlZ eJ5_newCapacity_0f7a4_27 (by omega) (by omega)) ?_
  refine q_blk (lv2 := [(0, vr s), (1, vi mn), (2, vi cap), (3, vi mn), (4, vi (mn - cap))]) (st2 := [vi (cap + 2), vi (mn - cap), vi cap]) kJ5_newCapacity_0f7a4_28 rfl ?_
  refine AQ.callSi (av := [vi cap, vi (mn - cap), vi (cap + 2)]) (st := []) (c_J8_newLength ⟨by omega, by omega⟩ ⟨by omega, by omega⟩ ⟨by omega, by omega⟩) lk_RJ5_114 (by decide) rfl rfl (Nat.le_of_ble_eq_true rfl) eJ5_newCapacity_0f7a4_29 (fun z1 h3 e2 => ?_)
  obtain ⟨e2, rfl⟩ := e2
  refine q_blk (lv2 := [(0, vr s), (1, vi mn), (2, vi cap), (3, vi mn), (4, vi (mn - cap)), (5, vi z1)]) (st2 := [vi z1]) kJ5_newCapacity_0f7a4_32 rfl ?_
  refine AQ.of (AS.ldc (z := 2147483647) eJ5_newCapacity_0f7a4_36 (am_gw 1340 (by decide +kernel) (by decide +kernel))) ?_
  refine AQ.of (AS.ic_ne_t (tgt := 51) eJ5_newCapacity_0f7a4_38 (by decide) (by first | assumption | exact ⟨by omega, by omega⟩ | exact ⟨by decide, by decide⟩) ⟨by decide, by decide⟩ (by omega)) ?_
  refine q_blk (lv2 := [(0, vr s), (1, vi mn), (2, vi cap), (3, vi mn), (4, vi (mn - cap)), (5, vi z1)]) (st2 := [vr s, vi z1]) kJ5_newCapacity_0f7a4_51 rfl ?_
  refine q_gb eJ5_newCapacity_0f7a4_54 fl_RJ5_22 rfl c0 (z := 0) rfl ?_
  refine AQ.of (AS.ishrZ eJ5_newCapacity_0f7a4_57 (by first | assumption | exact ⟨by omega, by omega⟩ | exact ⟨by decide, by decide⟩)) ?_
  exact q_ri rfl eJ5_newCapacity_0f7a4_58 ⟨z1, rfl, ⟨by omega, by omega⟩, rfl⟩

set_option maxRecDepth 4000 in
set_option maxHeartbeats 1000000 in
theorem c_J7_copyOf {w : am_w} {h : AH} {v : Nat} {cap len : Int} {fb : Int → Int} {gv : Int → Option Nat} (c1 : h.1 v = some (101, cap, fb, gv)) (bv : v < h.2.1) (hb : ∀ j, 0 ≤ j → j < cap → 0 ≤ fb j ∧ fb j < 128) (l0 : 0 ≤ cap ∧ cap < len ∧ len ≤ 3000)  : AE w m_J7_copyOf_9075b 2 [vr v, vi len] h (am_ref (fun q h1 => (h.2.1 ≤ q ∧ q < h1.2.1) ∧ h1.1 q = some (101, len, am_cpy fb am_Z 0 0 cap, am_N) ∧ KF h h1 NO 1 len.toNat)) := by
  refine AE.of wf_J7_copyOf_9075b (Nat.le_of_ble_eq_true rfl) (am_ok_rA) ?_
  refine q_blk (lv2 := [(0, vr v), (1, vi len)]) (st2 := [vr v, vi len]) kJ7_copyOf_9075b_0 rfl ?_
  refine q_al eJ7_copyOf_9075b_2 c1 (by decide) ?_
  refine AQ.of (AS.ic_ne_t (tgt := 14) eJ7_copyOf_9075b_3 (by decide) (by first | assumption | exact ⟨by omega, by omega⟩ | exact ⟨by decide, by decide⟩) (by first | assumption | exact ⟨by omega, by omega⟩ | exact ⟨by decide, by decide⟩) (by omega)) ?_
  refine q_blk (lv2 := [(0, vr v), (1, vi len)]) (st2 := [vi len]) kJ7_copyOf_9075b_14 rfl ?_
  obtain ⟨t1, e3t⟩ : ∃ q : Nat, h.2.1 = q := ⟨_, rfl⟩
  refine q_na (k := 101) len.toNat rfl e3t eJ7_copyOf_9075b_15 (Or.inr (Or.inl ⟨rfl, rfl⟩)) (am_gw 119 (by decide +kernel) (by decide +kernel)) (by omega) (by omega) (fun h2 e3c e3f e3z => ?_)
  have k4 := (e3f v (by omega)).trans c1
  have e3u : h2.2.1 = t1 + 1 := by rw [e3z]
  have e3v : h2.2.2 = h.2.2 + len.toNat := by rw [e3z]
  have F5 : ∀ q, q < h.2.1 → ¬ NO q → h2.1 q = h.1 q := fun q q0 q1 => (e3f q (by omega)).trans ((fun _ _ _ => rfl) q q0 q1)
  refine q_blk (lv2 := [(0, vr v), (1, vi len), (2, vr t1)]) (st2 := [vr v, vi 0, vr t1, vi 0, vr v]) kJ7_copyOf_9075b_17 rfl ?_
  refine q_al eJ7_copyOf_9075b_23 k4 (by decide) ?_
  refine q_blk (lv2 := [(0, vr v), (1, vi len), (2, vr t1)]) (st2 := [vi len, vi cap, vi 0, vr t1, vi 0, vr v]) kJ7_copyOf_9075b_24 rfl ?_
  refine AQ.of (AS.mmin eJ7_copyOf_9075b_25 (by first | assumption | exact ⟨by omega, by omega⟩ | exact ⟨by decide, by decide⟩) (by first | assumption | exact ⟨by omega, by omega⟩ | exact ⟨by decide, by decide⟩) (am_gw 996 (by decide +kernel) (by decide +kernel)) (am_gw 570 (by decide +kernel) (by decide +kernel)) (am_gw 53 (by decide +kernel) (by decide +kernel)) (am_gw 571 (by decide +kernel) (by decide +kernel)) (by decide) (Nat.le_of_ble_eq_true rfl)) ?_
  obtain ⟨z6, e7⟩ : ∃ q : Int, q = (if len < cap then len else cap) := ⟨_, rfl⟩
  rw [← e7]
  rw [show z6 = cap by rw [e7]; split <;> omega]
  refine q_ab eJ7_copyOf_9075b_28 (Or.inl rfl) (fun j j0 j1 => by have := hb j j0 j1; omega) k4 e3c (by omega) (by omega) (by omega) (by omega) (by omega) (am_gw 997 (by decide +kernel) (by decide +kernel)) (am_gw 454 (by decide +kernel) (by decide +kernel)) (am_gw 453 (by decide +kernel) (by decide +kernel)) (am_gw 57 (by decide +kernel) (by decide +kernel)) (by decide) (Nat.le_of_ble_eq_true rfl) (fun h8 e9 => ?_)
  have k10 := (am_ne e9 v (by omega)).trans k4
  have k11 := am_at e9
  have e9u : h8.2.1 = h2.2.1 := congrArg Prod.fst (am_z e9)
  have e9v : h8.2.2 = h2.2.2 := congrArg Prod.snd (am_z e9)
  have F12 : ∀ q, q < h.2.1 → ¬ NO q → h8.1 q = h.1 q := fun q q0 q1 => (am_ne e9 q (by omega)).trans (F5 q q0 q1)
  refine q_blk (lv2 := [(0, vr v), (1, vi len), (2, vr t1)]) (st2 := [vr t1]) kJ7_copyOf_9075b_31 rfl ?_
  exact q_rA rfl eJ7_copyOf_9075b_32 ⟨t1, rfl, ⟨by omega, by omega⟩, k11, ⟨F12, ⟨by omega, by omega⟩, by omega, by omega⟩⟩

set_option maxRecDepth 4000 in
set_option maxHeartbeats 1000000 in
theorem c_J5_ensureCapacityInternal {w : am_w} {h : AH} {s v : Nat} {cap cnt : Int} {fb : Int → Int} (hB : SBD h s v cap cnt fb) {mn : Int} (m0 : 0 ≤ mn) (m1 : mn ≤ 1000)  : AE w m_J5_ensureCapacityInternal_d00df 3 [vr s, vi mn] h (am_unit (fun h1 => (∃ v' cap' fb', SBD h1 s v' cap' cnt fb' ∧ mn ≤ cap' ∧ (∀ j, 0 ≤ j → j < cnt → fb' j = fb j) ∧ (v' = v ∨ h.2.1 ≤ v')) ∧ KF h h1 (fun q => q = s) 1 3000)) := by
  refine AE.of wf_J5_ensureCapacityInternal_d00df (Nat.le_of_ble_eq_true rfl) (am_ok_v) ?_
  have nsv := hB.ne
  obtain ⟨⟨bs, bv⟩, c0, c1, hn, hb⟩ := id hB
  refine q_blk (lv2 := [(0, vr s), (1, vi mn)]) (st2 := [vr s]) kJ5_ensureCapacityInternal_d00df_0 rfl ?_
  refine q_gr eJ5_ensureCapacityInternal_d00df_1 fl_RJ5_15 (Or.inr ⟨_, rfl⟩) c0 rfl ?_
  refine q_al eJ5_ensureCapacityInternal_d00df_4 c1 (by decide) ?_
  refine q_blk (lv2 := [(0, vr s), (1, vi mn)]) (st2 := [vr s, vi cap]) kJ5_ensureCapacityInternal_d00df_5 rfl ?_
  refine q_gb eJ5_ensureCapacityInternal_d00df_6 fl_RJ5_22 rfl c0 (z := 0) rfl ?_
  refine AQ.of (AS.ishrZ eJ5_ensureCapacityInternal_d00df_9 (by first | assumption | exact ⟨by omega, by omega⟩ | exact ⟨by decide, by decide⟩)) ?_
  refine q_blk (lv2 := [(0, vr s), (1, vi mn), (2, vi cap)]) (st2 := [vi (mn - cap)]) kJ5_ensureCapacityInternal_d00df_10 rfl ?_
  refine AQ.if_le (tgt := 38) eJ5_ensureCapacityInternal_d00df_14 (by decide) (by first | assumption | exact ⟨by omega, by omega⟩ | exact ⟨by decide, by decide⟩) (fun br1 => ?_) (fun br1 => ?_)
  · skip
    exact q_rv rfl eJ5_ensureCapacityInternal_d00df_38 ⟨rfl, ⟨v, cap, fb, hB, by omega, fun j _ _ => rfl, Or.inl rfl⟩, ⟨(fun _ _ _ => rfl), ⟨by omega, by omega⟩, by omega, by omega⟩⟩
  · skip
    refine q_blk (lv2 := [(0, vr s), (1, vi mn), (2, vi cap)]) (st2 := [vr s, vr s]) kJ5_ensureCapacityInternal_d00df_17 rfl ?_
    refine q_gr eJ5_ensureCapacityInternal_d00df_19 fl_RJ5_15 (Or.inr ⟨_, rfl⟩) c0 rfl ?_
    refine q_blk (lv2 := [(0, vr s), (1, vi mn), (2, vi cap)]) (st2 := [vi mn, vr s, vr v, vr s]) kJ5_ensureCapacityInternal_d00df_22 rfl ?_
    refine AQ.callUi (av := [vi mn]) (st := [vr v, vr s]) (c_J5_newCapacity hB (by omega) (by omega)) lk_RJ5_104 (by decide) rfl rfl c0 (Nat.le_of_ble_eq_true rfl) eJ5_ensureCapacityInternal_d00df_24 (fun z2 h4 e3 => ?_)
    obtain ⟨e3, rfl⟩ := e3
    refine q_blk (lv2 := [(0, vr s), (1, vi mn), (2, vi cap)]) (st2 := [vr s, vi z2, vr v, vr s]) kJ5_ensureCapacityInternal_d00df_27 rfl ?_
    refine q_gb eJ5_ensureCapacityInternal_d00df_28 fl_RJ5_22 rfl c0 (z := 0) rfl ?_
    refine AQ.of (AS.ishlZ eJ5_ensureCapacityInternal_d00df_31 (by omega) (by omega)) ?_
    refine AQ.callSr (av := [vr v, vi z2]) (st := [vr s]) (c_J7_copyOf c1 (by omega) hb ⟨by omega, by omega, by omega⟩) lk_RJ5_108 (by decide) rfl rfl (Nat.le_of_ble_eq_true rfl) eJ5_ensureCapacityInternal_d00df_32 (fun z5 h7 e6 => ?_)
    obtain ⟨⟨z5a, z5b⟩, z5c, g8f, ⟨g8a, g8b⟩, g8c, g8d⟩ := e6
    have k9 := (g8f s (by omega) (fun x => x)).trans c0
    have k10 := (g8f v (by omega) (fun x => x)).trans c1
    have F11 : ∀ q, q < h.2.1 → ¬ (fun q => q = s) q → h7.1 q = h.1 q := fun q q0 q1 => (g8f q (by omega) (fun x => x)).trans ((fun _ _ _ => rfl) q q0 q1)
    refine q_pr eJ5_ensureCapacityInternal_d00df_35 fl_RJ5_15 (fun q hq => by cases hq; exact Or.inl rfl) (Or.inr ⟨_, rfl⟩) k9 (Nat.le_of_ble_eq_true rfl) (l2 := [some z5, none, none, none]) rfl (fun h12 e13 => ?_)
    have k14 := am_at e13
    have k15 := (am_ne e13 v (by omega)).trans k10
    have k16 := (am_ne e13 z5 (by omega)).trans z5c
    have e13u : h12.2.1 = h7.2.1 := congrArg Prod.fst (am_z e13)
    have e13v : h12.2.2 = h7.2.2 := congrArg Prod.snd (am_z e13)
    have F17 : ∀ q, q < h.2.1 → ¬ (fun q => q = s) q → h12.1 q = h.1 q := fun q q0 q1 => (am_ne e13 q (fun c => q1 c)).trans (F11 q q0 q1)
    exact q_rv rfl eJ5_ensureCapacityInternal_d00df_38 ⟨rfl, ⟨z5, _, _, ⟨⟨by omega, by omega⟩, k14, k16, ⟨by omega, by omega, by omega⟩, gm_cpy_r hb (fun j _ _ => ⟨Int.le_refl 0, (by decide : (0 : Int) < 128)⟩) (by omega) (by omega)⟩, by omega, (fun j j0 j1 => by have := gm_cpy_i (f := fb) (g := am_Z) (dp := 0) (n := cap) j0 (by omega); rw [Int.zero_add] at this; exact this), Or.inr (by omega)⟩, ⟨F17, ⟨by omega, by omega⟩, by omega, by omega⟩⟩

set_option maxRecDepth 4000 in
set_option maxHeartbeats 1000000 in
theorem c_J5_inflateIfNeededFor {w : am_w} {h : AH} {s v : Nat} {cap cnt : Int} {fb : Int → Int} (hB : SBD h s v cap cnt fb) {q vq : Nat} {n : Int} {b : Int → Int} (hS : STR h q vq n b)  : AE w m_J5_inflateIfNeededFor_a7421 2 [vr s, vr q] h (am_unit (fun h1 => h = h1)) := by
  refine AE.of wf_J5_inflateIfNeededFor_a7421 (Nat.le_of_ble_eq_true rfl) (am_ok_v) ?_
  have nsv := hB.ne
  obtain ⟨⟨bs, bv⟩, c0, c1, hn, hb⟩ := id hB
  obtain ⟨-, ⟨nn, ff, d0⟩, -⟩ := id hS
  refine AQ.of (AS.getCS (am_gw 1291 (by decide +kernel) (by decide +kernel)) eJ5_inflateIfNeededFor_a7421_0) ?_
  refine AQ.of (AS.if_eq_f eJ5_inflateIfNeededFor_a7421_3 ⟨by decide, by decide⟩ (by decide) (by decide)) ?_
  refine q_blk (lv2 := [(0, vr s), (1, vr q)]) (st2 := [vr s]) kJ5_inflateIfNeededFor_a7421_6 rfl ?_
  refine q_gb eJ5_inflateIfNeededFor_a7421_7 fl_RJ5_22 rfl c0 (z := 0) rfl ?_
  refine q_blk (lv2 := [(0, vr s), (1, vr q)]) (st2 := [vr q, vi 0]) kJ5_inflateIfNeededFor_a7421_10 rfl ?_
  refine AQ.callYi (av := []) (st := [vi 0]) (c_J0_coder hS) lk_RJ5_40 (by decide) rfl rfl d0 rfl (Nat.le_of_ble_eq_true rfl) eJ5_inflateIfNeededFor_a7421_11 (fun z1 h3 e2 => ?_)
  obtain ⟨e2, rfl⟩ := e2
  obtain rfl := e2.symm
  refine AQ.of (AS.ic_eq_t (tgt := 21) eJ5_inflateIfNeededFor_a7421_14 (by decide) ⟨by decide, by decide⟩ ⟨by decide, by decide⟩ (by decide)) ?_
  exact q_rv rfl eJ5_inflateIfNeededFor_a7421_21 ⟨rfl, rfl⟩

set_option maxRecDepth 4000 in
set_option maxHeartbeats 1000000 in
theorem c_J5_putStringAt {w : am_w} {h : AH} {s v : Nat} {cap cnt : Int} {fb : Int → Int} (hB : SBD h s v cap cnt fb) {q vq : Nat} {n : Int} {b : Int → Int} (hS : STR h q vq n b) (hne : v ≠ vq) {at' : Int} (a0 : 0 ≤ at' ∧ at' + n ≤ cap)  : AE w m_J5_putStringAt_47b60 4 [vr s, vi at', vr q] h (am_unit (fun h1 => h1.1 v = some (101, cap, am_cpy b fb 0 at' n, am_N) ∧ KF h h1 (fun q => q = v) 0 0)) := by
  refine AE.of wf_J5_putStringAt_47b60 (Nat.le_of_ble_eq_true rfl) (am_ok_v) ?_
  have nsv := hB.ne
  obtain ⟨⟨bs, bv⟩, c0, c1, hn, hb⟩ := id hB
  obtain ⟨⟨bq, bvq⟩, ⟨nn, ff, d0⟩, ⟨ci, gq, hci, d1⟩, hn9, hb9⟩ := id hS
  have nsq : s ≠ q := fun e => by rw [e, d0] at c0; cases c0
  have nvq : v ≠ q := fun e => by rw [e, d0] at c1; cases c1
  have nsvq : s ≠ vq := fun e => by rw [e, d1] at c0; cases c0; omega
  refine q_blk (lv2 := [(0, vr s), (1, vi at'), (2, vr q)]) (st2 := [vr q, vr s]) kJ5_putStringAt_47b60_0 rfl ?_
  refine AQ.callUv (av := [vr q]) (st := []) (c_J5_inflateIfNeededFor hB hS) lk_RJ5_397 (by decide) rfl rfl c0 (Nat.le_of_ble_eq_true rfl) eJ5_putStringAt_47b60_2 (fun h3 e2 => ?_)
  obtain rfl := e2
  refine q_blk (lv2 := [(0, vr s), (1, vi at'), (2, vr q)]) (st2 := [vr s, vr q]) kJ5_putStringAt_47b60_5 rfl ?_
  refine q_gr eJ5_putStringAt_47b60_7 fl_RJ5_15 (Or.inr ⟨_, rfl⟩) c0 rfl ?_
  refine q_blk (lv2 := [(0, vr s), (1, vi at'), (2, vr q)]) (st2 := [vr s, vi at', vr v, vr q]) kJ5_putStringAt_47b60_10 rfl ?_
  refine q_gb eJ5_putStringAt_47b60_12 fl_RJ5_22 rfl c0 (z := 0) rfl ?_
  refine AQ.callYv (av := [vr v, vi at', vi 0]) (st := []) (c_J0_getBytes hS c1 (by omega) (by omega) ⟨by omega, by omega, by omega⟩) lk_RJ5_399 (by decide) rfl rfl d0 rfl (Nat.le_of_ble_eq_true rfl) eJ5_putStringAt_47b60_15 (fun h6 e5 => ?_)
  obtain ⟨h6u, g7f, ⟨g7a, g7b⟩, g7c, g7d⟩ := e5
  have k8 := (g7f s (by omega) (by show ¬ _ = _; omega)).trans c0
  have k9 := (g7f q (by omega) (by show ¬ _ = _; omega)).trans d0
  have F10 : ∀ q, q < h.2.1 → ¬ (fun q => q = v) q → h6.1 q = h.1 q := fun q q0 q1 => (g7f q (by omega) (by show ¬ _ = _; omega)).trans ((fun _ _ _ => rfl) q q0 q1)
  exact q_rv rfl eJ5_putStringAt_47b60_18 ⟨rfl, h6u, ⟨F10, ⟨by omega, by omega⟩, by omega, by omega⟩⟩

set_option maxRecDepth 4000 in
set_option maxHeartbeats 1000000 in
theorem c_J5_appendS {w : am_w} {h : AH} {s v : Nat} {cap cnt : Int} {fb : Int → Int} (hB : SBD h s v cap cnt fb) {q vq : Nat} {n : Int} {b : Int → Int} (hS : STR h q vq n b) (hne : v ≠ vq) (hl : cnt + n ≤ 1000)  : AE w m_J5_append_cf1ce 5 [vr s, vr q] h (am_ref (fun z h1 => z = s ∧ (∃ v' cap' fb', SBD h1 s v' cap' (cnt + n) fb' ∧ (∀ j, 0 ≤ j → j < cnt → fb' j = fb j) ∧ (∀ j, 0 ≤ j → j < n → fb' (cnt + j) = b j) ∧ (v' = v ∨ h.2.1 ≤ v')) ∧ KF h h1 (fun q => q = s ∨ q = v) 1 3000)) := by
  refine AE.of wf_J5_append_cf1ce (Nat.le_of_ble_eq_true rfl) (am_ok_r) ?_
  have nsv := hB.ne
  obtain ⟨⟨bs, bv⟩, c0, c1, hn, hb⟩ := id hB
  obtain ⟨⟨bq, bvq⟩, ⟨nn, ff, d0⟩, ⟨ci, gq, hci, d1⟩, hn9, hb9⟩ := id hS
  have nsq : s ≠ q := fun e => by rw [e, d0] at c0; cases c0
  have nvq : v ≠ q := fun e => by rw [e, d0] at c1; cases c1
  have nsvq : s ≠ vq := fun e => by rw [e, d1] at c0; cases c0; omega
  refine q_blk (lv2 := [(0, vr s), (1, vr q)]) (st2 := [vr q]) kJ5_append_cf1ce_0 rfl ?_
  refine AQ.of (AS.nn_t (tgt := 9) eJ5_append_cf1ce_1 (by decide)) ?_
  refine q_blk (lv2 := [(0, vr s), (1, vr q)]) (st2 := [vr q]) kJ5_append_cf1ce_9 rfl ?_
  refine AQ.callYi (av := []) (st := []) (c_J0_length hS) lk_RJ5_32 (by decide) rfl rfl d0 rfl (Nat.le_of_ble_eq_true rfl) eJ5_append_cf1ce_10 (fun z1 h3 e2 => ?_)
  obtain ⟨e2, rfl⟩ := e2
  obtain rfl := e2.symm
  refine q_blk (lv2 := [(0, vr s), (1, vr q), (2, vi n)]) (st2 := [vr s, vr s]) kJ5_append_cf1ce_13 rfl ?_
  refine q_gi eJ5_append_cf1ce_16 fl_RJ5_79 (Or.inl rfl) c0 (z := cnt) rfl ?_
  refine q_blk (lv2 := [(0, vr s), (1, vr q), (2, vi n)]) (st2 := [vi (cnt + n), vr s]) kJ5_append_cf1ce_19 rfl ?_
  refine AQ.callUv (av := [vi (cnt + n)]) (st := []) (c_J5_ensureCapacityInternal hB (by omega) (by omega)) lk_RJ5_100 (by decide) rfl rfl c0 (Nat.le_of_ble_eq_true rfl) eJ5_append_cf1ce_21 (fun h6 e5 => ?_)
  obtain ⟨⟨v1, cap1, fb1, B1, m1', k1, n1⟩, g7f, ⟨g7a, g7b⟩, g7c, g7d⟩ := e5
  have k8 := (g7f q (by omega) (by show ¬ _ = _; omega)).trans d0
  have F9 : ∀ q, q < h.2.1 → ¬ (fun q => q = s ∨ q = v) q → h6.1 q = h.1 q := fun q q0 q1 => (g7f q (by omega) (by show ¬ _ = _; omega)).trans ((fun _ _ _ => rfl) q q0 q1)
  have nsv1 := B1.ne
  obtain ⟨⟨bs1, bv1⟩, C0, C1, hn1, hb1⟩ := id B1
  have hne1 : v1 ≠ vq := fun e => n1.elim (fun z => hne (z.symm.trans e)) (fun z => by omega)
  have hS1 := hS.mv (h1 := h6) (by omega) (k8.trans d0.symm) (F9 vq bvq (fun c => c.elim (fun z => by omega) (fun z => hne z.symm)))
  refine q_blk (lv2 := [(0, vr s), (1, vr q), (2, vi n)]) (st2 := [vr s, vr s]) kJ5_append_cf1ce_24 rfl ?_
  refine q_gi eJ5_append_cf1ce_26 fl_RJ5_79 (Or.inl rfl) C0 (z := cnt) rfl ?_
  refine q_blk (lv2 := [(0, vr s), (1, vr q), (2, vi n)]) (st2 := [vr q, vi cnt, vr s]) kJ5_append_cf1ce_29 rfl ?_
  refine AQ.callUv (av := [vi cnt, vr q]) (st := []) (c_J5_putStringAt B1 hS1 hne1 ⟨by omega, by omega⟩) lk_RJ5_208 (by decide) rfl rfl C0 (Nat.le_of_ble_eq_true rfl) eJ5_append_cf1ce_30 (fun h12 e11 => ?_)
  obtain ⟨h12u, g13f, ⟨g13a, g13b⟩, g13c, g13d⟩ := e11
  have k14 := (g13f s (by omega) (by show ¬ _ = _; omega)).trans C0
  have k15 := (g13f q (by omega) (by show ¬ _ = _; omega)).trans k8
  have F16 : ∀ q, q < h.2.1 → ¬ (fun q => q = s ∨ q = v) q → h12.1 q = h.1 q := fun q q0 q1 => (g13f q (by omega) (fun c => n1.elim (fun z => q1 (Or.inr (c.trans z))) (fun z => by omega))).trans (F9 q q0 q1)
  refine q_blk (lv2 := [(0, vr s), (1, vr q), (2, vi n)]) (st2 := [vr s, vr s]) kJ5_append_cf1ce_33 rfl ?_
  refine q_gi eJ5_append_cf1ce_35 fl_RJ5_79 (Or.inl rfl) k14 (z := cnt) rfl ?_
  refine q_blk (lv2 := [(0, vr s), (1, vr q), (2, vi n)]) (st2 := [vi (cnt + n), vr s]) kJ5_append_cf1ce_38 rfl ?_
  refine q_pi eJ5_append_cf1ce_40 fl_RJ5_79 (fun q hq => by cases hq; exact Or.inl rfl) (Or.inl rfl) k14 (Nat.le_of_ble_eq_true rfl) (l2 := [0, 0, 0, (cnt + n)]) rfl (fun h17 e18 => ?_)
  have k19 := am_at e18
  have k20 := (am_ne e18 q (by omega)).trans k15
  have k21 := (am_ne e18 v1 (by omega)).trans h12u
  have e18u : h17.2.1 = h12.2.1 := congrArg Prod.fst (am_z e18)
  have e18v : h17.2.2 = h12.2.2 := congrArg Prod.snd (am_z e18)
  have F22 : ∀ q, q < h.2.1 → ¬ (fun q => q = s ∨ q = v) q → h17.1 q = h.1 q := fun q q0 q1 => (am_ne e18 q (fun c => q1 (Or.inl c))).trans (F16 q q0 q1)
  refine q_blk (lv2 := [(0, vr s), (1, vr q), (2, vi n)]) (st2 := [vr s]) kJ5_append_cf1ce_43 rfl ?_
  exact q_ra rfl eJ5_append_cf1ce_44 ⟨s, rfl, rfl, ⟨v1, cap1, _, ⟨⟨by omega, by omega⟩, k19, k21, ⟨by omega, by omega, by omega⟩, gm_cpy_r hb9 hb1 (by omega) (by omega)⟩, (fun j j0 j1 => (gm_cpy_o (Or.inl j1)).trans (k1 j j0 j1)), (fun j j0 j1 => gm_cpy_i j0 j1), n1⟩, ⟨F22, ⟨by omega, by omega⟩, by omega, by omega⟩⟩
