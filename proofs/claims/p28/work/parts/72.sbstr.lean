/-! Numbers into a StringBuilder; a StringBuilder as a String. -/

set_option maxRecDepth 4000 in
set_option maxHeartbeats 1000000 in
theorem c_J4_appendS {w : am_w} {h : AH} {s v : Nat} {cap cnt : Int} {fb : Int → Int} (hB : SBD h s v cap cnt fb) {q vq : Nat} {n : Int} {b : Int → Int} (hS : STR h q vq n b) (hne : v ≠ vq) (hl : cnt + n ≤ 1000)  : AE w m_J4_append_15ec4 6 [vr s, vr q] h (am_ref (fun z h1 => z = s ∧ (∃ v' cap' fb', SBD h1 s v' cap' (cnt + n) fb' ∧ (∀ j, 0 ≤ j → j < cnt → fb' j = fb j) ∧ (∀ j, 0 ≤ j → j < n → fb' (cnt + j) = b j) ∧ (v' = v ∨ h.2.1 ≤ v')) ∧ KF h h1 (fun q => q = s ∨ q = v) 1 3000)) := by
  refine AE.of wf_J4_append_15ec4 (Nat.le_of_ble_eq_true rfl) (am_ok_r) ?_
  have nsv := hB.ne
  obtain ⟨⟨bs, bv⟩, c0, c1, hn, hb⟩ := id hB
  refine q_blk (lv2 := [(0, vr s), (1, vr q)]) (st2 := [vr q, vr s]) kJ4_append_15ec4_0 rfl ?_
  refine AQ.callZr (av := [vr q]) (st := []) (c_J5_appendS hB hS hne hl) lk_RJ4_29 (by decide) rfl rfl c0 (Nat.le_of_ble_eq_true rfl) eJ4_append_15ec4_2 (fun z1 h3 e2 => ?_)
  refine q_blk (lv2 := [(0, vr s), (1, vr q)]) (st2 := [vr s]) kJ4_append_15ec4_5 rfl ?_
  exact q_ra rfl eJ4_append_15ec4_7 ⟨s, rfl, rfl, e2.2⟩

set_option maxRecDepth 4000 in
set_option maxHeartbeats 1000000 in
theorem c_J6_size1 {w : am_w} {h : AH} {n : Int} (n0 : 0 ≤ n) (n1 : n < 10)  : AE w m_J6_stringSize_0f7a4 1 [vi n] h (am_intp h (fun z => z = 1)) := by
  refine AE.of wf_J6_stringSize_0f7a4 (Nat.le_of_ble_eq_true rfl) (am_ok_ip) ?_
  refine q_blk (lv2 := [(0, vi n), (1, vi 1)]) (st2 := [vi n]) kJ6_stringSize_0f7a4_0 rfl ?_
  refine AQ.of (AS.if_lt_f eJ6_stringSize_0f7a4_3 (by first | assumption | exact ⟨by omega, by omega⟩ | exact ⟨by decide, by decide⟩) (by omega) (by decide)) ?_
  refine q_blk (lv2 := [(0, vi (-n)), (1, vi 0)]) (st2 := []) kJ6_stringSize_0f7a4_6 rfl ?_
  refine q_blk (lv2 := [(0, vi (-n)), (1, vi 0), (2, vi (-10)), (3, vi 1)]) (st2 := []) kJ6_stringSize_0f7a4_11 rfl ?_
  refine q_blk (lv2 := [(0, vi (-n)), (1, vi 0), (2, vi (-10)), (3, vi 1)]) (st2 := [vi 10, vi 1]) kJ6_stringSize_0f7a4_16 rfl ?_
  refine AQ.of (AS.ic_ge_f eJ6_stringSize_0f7a4_19 ⟨by decide, by decide⟩ ⟨by decide, by decide⟩ (by decide) (by decide)) ?_
  refine q_blk (lv2 := [(0, vi (-n)), (1, vi 0), (2, vi (-10)), (3, vi 1)]) (st2 := [vi (-10), vi (-n)]) kJ6_stringSize_0f7a4_22 rfl ?_
  refine AQ.of (AS.ic_le_f eJ6_stringSize_0f7a4_24 (by first | assumption | exact ⟨by omega, by omega⟩ | exact ⟨by decide, by decide⟩) ⟨by decide, by decide⟩ (by omega) (by decide)) ?_
  refine q_blk (lv2 := [(0, vi (-n)), (1, vi 0), (2, vi (-10)), (3, vi 1)]) (st2 := [vi (1 + 0)]) kJ6_stringSize_0f7a4_27 rfl ?_
  exact q_ri rfl eJ6_stringSize_0f7a4_30 ⟨(1 + 0), rfl, (by decide), rfl⟩

set_option maxRecDepth 4000 in
set_option maxHeartbeats 1000000 in
theorem c_J6_size2 {w : am_w} {h : AH} {n : Int} (n0 : 10 ≤ n) (n1 : n < 100)  : AE w m_J6_stringSize_0f7a4 1 [vi n] h (am_intp h (fun z => z = 2)) := by
  refine AE.of wf_J6_stringSize_0f7a4 (Nat.le_of_ble_eq_true rfl) (am_ok_ip) ?_
  refine q_blk (lv2 := [(0, vi n), (1, vi 1)]) (st2 := [vi n]) kJ6_stringSize_0f7a4_0 rfl ?_
  refine AQ.of (AS.if_lt_f eJ6_stringSize_0f7a4_3 (by first | assumption | exact ⟨by omega, by omega⟩ | exact ⟨by decide, by decide⟩) (by omega) (by decide)) ?_
  refine q_blk (lv2 := [(0, vi (-n)), (1, vi 0)]) (st2 := []) kJ6_stringSize_0f7a4_6 rfl ?_
  refine q_blk (lv2 := [(0, vi (-n)), (1, vi 0), (2, vi (-10)), (3, vi 1)]) (st2 := []) kJ6_stringSize_0f7a4_11 rfl ?_
  refine q_blk (lv2 := [(0, vi (-n)), (1, vi 0), (2, vi (-10)), (3, vi 1)]) (st2 := [vi 10, vi 1]) kJ6_stringSize_0f7a4_16 rfl ?_
  refine AQ.of (AS.ic_ge_f eJ6_stringSize_0f7a4_19 ⟨by decide, by decide⟩ ⟨by decide, by decide⟩ (by decide) (by decide)) ?_
  refine q_blk (lv2 := [(0, vi (-n)), (1, vi 0), (2, vi (-10)), (3, vi 1)]) (st2 := [vi (-10), vi (-n)]) kJ6_stringSize_0f7a4_22 rfl ?_
  refine AQ.of (AS.ic_le_t (tgt := 31) eJ6_stringSize_0f7a4_24 (by decide) (by first | assumption | exact ⟨by omega, by omega⟩ | exact ⟨by decide, by decide⟩) ⟨by decide, by decide⟩ (by omega)) ?_
  refine q_blk (lv2 := [(0, vi (-n)), (1, vi 0), (2, vi (10 * (-10))), (3, vi (1 + 1))]) (st2 := []) kJ6_stringSize_0f7a4_31 rfl ?_
  refine q_goto (tgt := 16) eJ6_stringSize_0f7a4_39 (by decide) ?_
  refine q_blk (lv2 := [(0, vi (-n)), (1, vi 0), (2, vi (10 * (-10))), (3, vi (1 + 1))]) (st2 := [vi 10, vi (1 + 1)]) kJ6_stringSize_0f7a4_16 rfl ?_
  refine AQ.of (AS.ic_ge_f eJ6_stringSize_0f7a4_19 (by first | assumption | exact ⟨by omega, by omega⟩ | exact ⟨by decide, by decide⟩) ⟨by decide, by decide⟩ (by decide) (by decide)) ?_
  refine q_blk (lv2 := [(0, vi (-n)), (1, vi 0), (2, vi (10 * (-10))), (3, vi (1 + 1))]) (st2 := [vi (10 * (-10)), vi (-n)]) kJ6_stringSize_0f7a4_22 rfl ?_
  refine AQ.of (AS.ic_le_f eJ6_stringSize_0f7a4_24 (by first | assumption | exact ⟨by omega, by omega⟩ | exact ⟨by decide, by decide⟩) (by first | assumption | exact ⟨by omega, by omega⟩ | exact ⟨by decide, by decide⟩) (by omega) (by decide)) ?_
  refine q_blk (lv2 := [(0, vi (-n)), (1, vi 0), (2, vi (10 * (-10))), (3, vi (1 + 1))]) (st2 := [vi ((1 + 1) + 0)]) kJ6_stringSize_0f7a4_27 rfl ?_
  exact q_ri rfl eJ6_stringSize_0f7a4_30 ⟨((1 + 1) + 0), rfl, (by decide), rfl⟩

set_option maxRecDepth 4000 in
set_option maxHeartbeats 1000000 in
theorem c_J6_size3 {w : am_w} {h : AH} {n : Int} (n0 : 100 ≤ n) (n1 : n < 1000)  : AE w m_J6_stringSize_0f7a4 1 [vi n] h (am_intp h (fun z => z = 3)) := by
  refine AE.of wf_J6_stringSize_0f7a4 (Nat.le_of_ble_eq_true rfl) (am_ok_ip) ?_
  refine q_blk (lv2 := [(0, vi n), (1, vi 1)]) (st2 := [vi n]) kJ6_stringSize_0f7a4_0 rfl ?_
  refine AQ.of (AS.if_lt_f eJ6_stringSize_0f7a4_3 (by first | assumption | exact ⟨by omega, by omega⟩ | exact ⟨by decide, by decide⟩) (by omega) (by decide)) ?_
  refine q_blk (lv2 := [(0, vi (-n)), (1, vi 0)]) (st2 := []) kJ6_stringSize_0f7a4_6 rfl ?_
  refine q_blk (lv2 := [(0, vi (-n)), (1, vi 0), (2, vi (-10)), (3, vi 1)]) (st2 := []) kJ6_stringSize_0f7a4_11 rfl ?_
  refine q_blk (lv2 := [(0, vi (-n)), (1, vi 0), (2, vi (-10)), (3, vi 1)]) (st2 := [vi 10, vi 1]) kJ6_stringSize_0f7a4_16 rfl ?_
  refine AQ.of (AS.ic_ge_f eJ6_stringSize_0f7a4_19 ⟨by decide, by decide⟩ ⟨by decide, by decide⟩ (by decide) (by decide)) ?_
  refine q_blk (lv2 := [(0, vi (-n)), (1, vi 0), (2, vi (-10)), (3, vi 1)]) (st2 := [vi (-10), vi (-n)]) kJ6_stringSize_0f7a4_22 rfl ?_
  refine AQ.of (AS.ic_le_t (tgt := 31) eJ6_stringSize_0f7a4_24 (by decide) (by first | assumption | exact ⟨by omega, by omega⟩ | exact ⟨by decide, by decide⟩) ⟨by decide, by decide⟩ (by omega)) ?_
  refine q_blk (lv2 := [(0, vi (-n)), (1, vi 0), (2, vi (10 * (-10))), (3, vi (1 + 1))]) (st2 := []) kJ6_stringSize_0f7a4_31 rfl ?_
  refine q_goto (tgt := 16) eJ6_stringSize_0f7a4_39 (by decide) ?_
  refine q_blk (lv2 := [(0, vi (-n)), (1, vi 0), (2, vi (10 * (-10))), (3, vi (1 + 1))]) (st2 := [vi 10, vi (1 + 1)]) kJ6_stringSize_0f7a4_16 rfl ?_
  refine AQ.of (AS.ic_ge_f eJ6_stringSize_0f7a4_19 (by first | assumption | exact ⟨by omega, by omega⟩ | exact ⟨by decide, by decide⟩) ⟨by decide, by decide⟩ (by decide) (by decide)) ?_
  refine q_blk (lv2 := [(0, vi (-n)), (1, vi 0), (2, vi (10 * (-10))), (3, vi (1 + 1))]) (st2 := [vi (10 * (-10)), vi (-n)]) kJ6_stringSize_0f7a4_22 rfl ?_
  refine AQ.of (AS.ic_le_t (tgt := 31) eJ6_stringSize_0f7a4_24 (by decide) (by first | assumption | exact ⟨by omega, by omega⟩ | exact ⟨by decide, by decide⟩) (by first | assumption | exact ⟨by omega, by omega⟩ | exact ⟨by decide, by decide⟩) (by omega)) ?_
  refine q_blk (lv2 := [(0, vi (-n)), (1, vi 0), (2, vi (10 * (10 * (-10)))), (3, vi ((1 + 1) + 1))]) (st2 := []) kJ6_stringSize_0f7a4_31 rfl ?_
  refine q_goto (tgt := 16) eJ6_stringSize_0f7a4_39 (by decide) ?_
  refine q_blk (lv2 := [(0, vi (-n)), (1, vi 0), (2, vi (10 * (10 * (-10)))), (3, vi ((1 + 1) + 1))]) (st2 := [vi 10, vi ((1 + 1) + 1)]) kJ6_stringSize_0f7a4_16 rfl ?_
  refine AQ.of (AS.ic_ge_f eJ6_stringSize_0f7a4_19 (by first | assumption | exact ⟨by omega, by omega⟩ | exact ⟨by decide, by decide⟩) ⟨by decide, by decide⟩ (by decide) (by decide)) ?_
  refine q_blk (lv2 := [(0, vi (-n)), (1, vi 0), (2, vi (10 * (10 * (-10)))), (3, vi ((1 + 1) + 1))]) (st2 := [vi (10 * (10 * (-10))), vi (-n)]) kJ6_stringSize_0f7a4_22 rfl ?_
  refine AQ.of (AS.ic_le_f eJ6_stringSize_0f7a4_24 (by first | assumption | exact ⟨by omega, by omega⟩ | exact ⟨by decide, by decide⟩) (by first | assumption | exact ⟨by omega, by omega⟩ | exact ⟨by decide, by decide⟩) (by omega) (by decide)) ?_
  refine q_blk (lv2 := [(0, vi (-n)), (1, vi 0), (2, vi (10 * (10 * (-10)))), (3, vi ((1 + 1) + 1))]) (st2 := [vi (((1 + 1) + 1) + 0)]) kJ6_stringSize_0f7a4_27 rfl ?_
  exact q_ri rfl eJ6_stringSize_0f7a4_30 ⟨(((1 + 1) + 1) + 0), rfl, (by decide), rfl⟩

set_option maxRecDepth 4000 in
set_option maxHeartbeats 1000000 in
theorem c_J6_size4 {w : am_w} {h : AH} {n : Int} (n0 : 1000 ≤ n) (n1 : n < 10000)  : AE w m_J6_stringSize_0f7a4 1 [vi n] h (am_intp h (fun z => z = 4)) := by
  refine AE.of wf_J6_stringSize_0f7a4 (Nat.le_of_ble_eq_true rfl) (am_ok_ip) ?_
  refine q_blk (lv2 := [(0, vi n), (1, vi 1)]) (st2 := [vi n]) kJ6_stringSize_0f7a4_0 rfl ?_
  refine AQ.of (AS.if_lt_f eJ6_stringSize_0f7a4_3 (by first | assumption | exact ⟨by omega, by omega⟩ | exact ⟨by decide, by decide⟩) (by omega) (by decide)) ?_
  refine q_blk (lv2 := [(0, vi (-n)), (1, vi 0)]) (st2 := []) kJ6_stringSize_0f7a4_6 rfl ?_
  refine q_blk (lv2 := [(0, vi (-n)), (1, vi 0), (2, vi (-10)), (3, vi 1)]) (st2 := []) kJ6_stringSize_0f7a4_11 rfl ?_
  refine q_blk (lv2 := [(0, vi (-n)), (1, vi 0), (2, vi (-10)), (3, vi 1)]) (st2 := [vi 10, vi 1]) kJ6_stringSize_0f7a4_16 rfl ?_
  refine AQ.of (AS.ic_ge_f eJ6_stringSize_0f7a4_19 ⟨by decide, by decide⟩ ⟨by decide, by decide⟩ (by decide) (by decide)) ?_
  refine q_blk (lv2 := [(0, vi (-n)), (1, vi 0), (2, vi (-10)), (3, vi 1)]) (st2 := [vi (-10), vi (-n)]) kJ6_stringSize_0f7a4_22 rfl ?_
  refine AQ.of (AS.ic_le_t (tgt := 31) eJ6_stringSize_0f7a4_24 (by decide) (by first | assumption | exact ⟨by omega, by omega⟩ | exact ⟨by decide, by decide⟩) ⟨by decide, by decide⟩ (by omega)) ?_
  refine q_blk (lv2 := [(0, vi (-n)), (1, vi 0), (2, vi (10 * (-10))), (3, vi (1 + 1))]) (st2 := []) kJ6_stringSize_0f7a4_31 rfl ?_
  refine q_goto (tgt := 16) eJ6_stringSize_0f7a4_39 (by decide) ?_
  refine q_blk (lv2 := [(0, vi (-n)), (1, vi 0), (2, vi (10 * (-10))), (3, vi (1 + 1))]) (st2 := [vi 10, vi (1 + 1)]) kJ6_stringSize_0f7a4_16 rfl ?_
  refine AQ.of (AS.ic_ge_f eJ6_stringSize_0f7a4_19 (by first | assumption | exact ⟨by omega, by omega⟩ | exact ⟨by decide, by decide⟩) ⟨by decide, by decide⟩ (by decide) (by decide)) ?_
  refine q_blk (lv2 := [(0, vi (-n)), (1, vi 0), (2, vi (10 * (-10))), (3, vi (1 + 1))]) (st2 := [vi (10 * (-10)), vi (-n)]) kJ6_stringSize_0f7a4_22 rfl ?_
  refine AQ.of (AS.ic_le_t (tgt := 31) eJ6_stringSize_0f7a4_24 (by decide) (by first | assumption | exact ⟨by omega, by omega⟩ | exact ⟨by decide, by decide⟩) (by first | assumption | exact ⟨by omega, by omega⟩ | exact ⟨by decide, by decide⟩) (by omega)) ?_
  refine q_blk (lv2 := [(0, vi (-n)), (1, vi 0), (2, vi (10 * (10 * (-10)))), (3, vi ((1 + 1) + 1))]) (st2 := []) kJ6_stringSize_0f7a4_31 rfl ?_
  refine q_goto (tgt := 16) eJ6_stringSize_0f7a4_39 (by decide) ?_
  refine q_blk (lv2 := [(0, vi (-n)), (1, vi 0), (2, vi (10 * (10 * (-10)))), (3, vi ((1 + 1) + 1))]) (st2 := [vi 10, vi ((1 + 1) + 1)]) kJ6_stringSize_0f7a4_16 rfl ?_
  refine AQ.of (AS.ic_ge_f eJ6_stringSize_0f7a4_19 (by first | assumption | exact ⟨by omega, by omega⟩ | exact ⟨by decide, by decide⟩) ⟨by decide, by decide⟩ (by decide) (by decide)) ?_
  refine q_blk (lv2 := [(0, vi (-n)), (1, vi 0), (2, vi (10 * (10 * (-10)))), (3, vi ((1 + 1) + 1))]) (st2 := [vi (10 * (10 * (-10))), vi (-n)]) kJ6_stringSize_0f7a4_22 rfl ?_
  refine AQ.of (AS.ic_le_t (tgt := 31) eJ6_stringSize_0f7a4_24 (by decide) (by first | assumption | exact ⟨by omega, by omega⟩ | exact ⟨by decide, by decide⟩) (by first | assumption | exact ⟨by omega, by omega⟩ | exact ⟨by decide, by decide⟩) (by omega)) ?_
  refine q_blk (lv2 := [(0, vi (-n)), (1, vi 0), (2, vi (10 * (10 * (10 * (-10))))), (3, vi (((1 + 1) + 1) + 1))]) (st2 := []) kJ6_stringSize_0f7a4_31 rfl ?_
  refine q_goto (tgt := 16) eJ6_stringSize_0f7a4_39 (by decide) ?_
  refine q_blk (lv2 := [(0, vi (-n)), (1, vi 0), (2, vi (10 * (10 * (10 * (-10))))), (3, vi (((1 + 1) + 1) + 1))]) (st2 := [vi 10, vi (((1 + 1) + 1) + 1)]) kJ6_stringSize_0f7a4_16 rfl ?_
  refine AQ.of (AS.ic_ge_f eJ6_stringSize_0f7a4_19 (by first | assumption | exact ⟨by omega, by omega⟩ | exact ⟨by decide, by decide⟩) ⟨by decide, by decide⟩ (by decide) (by decide)) ?_
  refine q_blk (lv2 := [(0, vi (-n)), (1, vi 0), (2, vi (10 * (10 * (10 * (-10))))), (3, vi (((1 + 1) + 1) + 1))]) (st2 := [vi (10 * (10 * (10 * (-10)))), vi (-n)]) kJ6_stringSize_0f7a4_22 rfl ?_
  refine AQ.of (AS.ic_le_f eJ6_stringSize_0f7a4_24 (by first | assumption | exact ⟨by omega, by omega⟩ | exact ⟨by decide, by decide⟩) (by first | assumption | exact ⟨by omega, by omega⟩ | exact ⟨by decide, by decide⟩) (by omega) (by decide)) ?_
  refine q_blk (lv2 := [(0, vi (-n)), (1, vi 0), (2, vi (10 * (10 * (10 * (-10))))), (3, vi (((1 + 1) + 1) + 1))]) (st2 := [vi ((((1 + 1) + 1) + 1) + 0)]) kJ6_stringSize_0f7a4_27 rfl ?_
  exact q_ri rfl eJ6_stringSize_0f7a4_30 ⟨((((1 + 1) + 1) + 1) + 0), rfl, (by decide), rfl⟩

theorem c_J6_stringSize {w : am_w} {h : AH} {n : Int} (n0 : 0 ≤ n) (n1 : n < 10000) : AE w m_J6_stringSize_0f7a4 1 [vi n] h (am_intp h (fun z => z = gm_dz n)) := by
  unfold gm_dz
  by_cases a : n < 10
  · rw [if_pos a]; exact c_J6_size1 n0 a
  · rw [if_neg a]
    by_cases b : n < 100
    · rw [if_pos b]; exact c_J6_size2 (by omega) b
    · rw [if_neg b]
      by_cases c : n < 1000
      · rw [if_pos c]; exact c_J6_size3 (by omega) c
      · rw [if_neg c]; exact c_J6_size4 (by omega) n1
theorem gm_dz_r {n : Int} (n0 : 0 ≤ n) : (1 ≤ gm_dz n ∧ gm_dz n ≤ 4) := by unfold gm_dz; split <;> (try split) <;> (try split) <;> omega
theorem gm_tdn {n : Int} (n0 : 0 ≤ n) : Int.tdiv (-n) 100 = -(n / 100) := by
  rw [Int.neg_tdiv, Int.tdiv_eq_ediv_of_nonneg n0]

set_option maxRecDepth 4000 in
set_option maxHeartbeats 4000000 in
theorem c_J6_chars1 {w : am_w} {h : AH} {u bd : Nat} {nu n ix : Int} {fu : Int → Int} (hG : DIG h bd) (cu : h.1 u = some (101, nu, fu, am_N)) (bu : u < h.2.1) (n0 : 0 ≤ n) (lo : 0 ≤ n) (n1 : n < 10) (x0 : gm_dz n ≤ ix ∧ ix ≤ nu ∧ nu ≤ 3000)  : AE w m_J6_getChars_ba4f3 1 [vi n, vi ix, vr u] h (am_int (fun z h1 => (∃ f', h1.1 u = some (101, nu, f', am_N) ∧ (∀ j, 0 ≤ j → j < gm_dz n → f' (ix - 1 - j) = gm_dgt n j) ∧ ∀ j, (j < ix - gm_dz n ∨ ix ≤ j) → f' j = fu j) ∧ KF h h1 (fun q => q = u) 0 0)) := by
  refine AE.of wf_J6_getChars_ba4f3 (Nat.le_of_ble_eq_true rfl) (am_ok_i) ?_
  obtain ⟨bdl, dga, dgo, dgt, dnn, dff, f1, f2, g1, g2, ⟨b1, b2, b3⟩, d0, d1, d2, hf1, hf2⟩ := id hG
  have nu1 : u ≠ dgo := fun e => by rw [e, d1] at cu; cases cu
  have nu2 : u ≠ dgt := fun e => by rw [e, d2] at cu; cases cu
  have nu3 : u ≠ dga := fun e => by rw [e, d0] at cu; cases cu
  have hz : gm_dz n = 1 := by unfold gm_dz; rw [if_pos (by omega)]
  rw [hz] at x0
  refine q_blk (lv2 := [(0, vi n), (1, vi ix), (2, vr u), (5, vi ix)]) (st2 := [vi n]) kJ6_getChars_ba4f3_0 rfl ?_
  refine AQ.of (AS.if_ge_t (tgt := 11) eJ6_getChars_ba4f3_4 (by decide) (by first | assumption | exact ⟨by omega, by omega⟩ | exact ⟨by decide, by decide⟩) (by omega)) ?_
  refine q_blk (lv2 := [(0, vi n), (1, vi ix), (2, vr u), (5, vi ix)]) (st2 := [vi 0]) kJ6_getChars_ba4f3_11 rfl ?_
  refine q_blk (lv2 := [(0, vi n), (1, vi ix), (2, vr u), (5, vi ix), (6, vi 0)]) (st2 := [vi 0]) kJ6_getChars_ba4f3_12 rfl ?_
  refine AQ.of (AS.if_ne_f eJ6_getChars_ba4f3_16 ⟨by decide, by decide⟩ (by decide) (by decide)) ?_
  refine q_blk (lv2 := [(0, vi (-n)), (1, vi ix), (2, vr u), (5, vi ix), (6, vi 0)]) (st2 := []) kJ6_getChars_ba4f3_19 rfl ?_
  refine q_blk (lv2 := [(0, vi (-n)), (1, vi ix), (2, vr u), (5, vi ix), (6, vi 0)]) (st2 := [vi (-100), vi (-n)]) kJ6_getChars_ba4f3_22 rfl ?_
  refine AQ.of (AS.ic_gt_t (tgt := 72) eJ6_getChars_ba4f3_25 (by decide) (by first | assumption | exact ⟨by omega, by omega⟩ | exact ⟨by decide, by decide⟩) ⟨by decide, by decide⟩ (by omega)) ?_
  refine q_blk (lv2 := [(0, vi (-n)), (1, vi ix), (2, vr u), (5, vi (ix + (-1))), (6, vi 0)]) (st2 := [vi (ix + (-1)), vr u]) kJ6_getChars_ba4f3_72 rfl ?_
  refine AQ.of (AS.getSo eJ6_getChars_ba4f3_78 d0 (am_gw 1417 (by decide +kernel) (by decide +kernel))) ?_
  refine q_blk (lv2 := [(0, vi (-n)), (1, vi ix), (2, vr u), (5, vi (ix + (-1))), (6, vi 0)]) (st2 := [vi (-(-n)), vr dgo, vi (ix + (-1)), vr u]) kJ6_getChars_ba4f3_81 rfl ?_
  refine q_ba eJ6_getChars_ba4f3_83 d1 (by decide) (by omega) (by omega) (z := (48 + (-(-n)) % 10)) (hf1 (-(-n)) (by omega) (by omega)) ?_
  refine q_bs eJ6_getChars_ba4f3_84 cu (by omega) (by omega) (by omega) (by omega) (fun h1 e2 => ?_)
  have k3 := am_at e2
  have k4 := (am_ne e2 dga (by omega)).trans d0
  have k5 := (am_ne e2 dgo (by omega)).trans d1
  have k6 := (am_ne e2 dgt (by omega)).trans d2
  have e2u : h1.2.1 = h.2.1 := congrArg Prod.fst (am_z e2)
  have e2v : h1.2.2 = h.2.2 := congrArg Prod.snd (am_z e2)
  have F7 : ∀ q, q < h.2.1 → ¬ (fun q => q = u) q → h1.1 q = h.1 q := fun q q0 q1 => (am_ne e2 q (fun c => q1 c)).trans ((fun _ _ _ => rfl) q q0 q1)
  refine q_blk (lv2 := [(0, vi (-n)), (1, vi ix), (2, vr u), (5, vi (ix + (-1))), (6, vi 0)]) (st2 := [vi (-9), vi (-n)]) kJ6_getChars_ba4f3_85 rfl ?_
  refine AQ.of (AS.ic_ge_t (tgt := 104) eJ6_getChars_ba4f3_88 (by decide) (by first | assumption | exact ⟨by omega, by omega⟩ | exact ⟨by decide, by decide⟩) ⟨by decide, by decide⟩ (by omega)) ?_
  refine q_blk (lv2 := [(0, vi (-n)), (1, vi ix), (2, vr u), (5, vi (ix + (-1))), (6, vi 0)]) (st2 := [vi 0]) kJ6_getChars_ba4f3_104 rfl ?_
  refine AQ.of (AS.if_eq_t (tgt := 118) eJ6_getChars_ba4f3_106 (by decide) ⟨by decide, by decide⟩ (by decide)) ?_
  refine q_blk (lv2 := [(0, vi (-n)), (1, vi ix), (2, vr u), (5, vi (ix + (-1))), (6, vi 0)]) (st2 := [vi (ix + (-1))]) kJ6_getChars_ba4f3_118 rfl ?_
  exact q_ri rfl eJ6_getChars_ba4f3_120 ⟨(ix + (-1)), rfl, ⟨_, k3, (fun j j0 j1 => by
    rw [hz] at j1
    rcases (show j = 0 by omega) with rfl <;> (unfold am_uI; repeat (first | rw [if_pos (by omega)] | rw [if_neg (by omega)]); unfold gm_dgt; repeat (first | rw [if_pos (by omega)] | rw [if_neg (by omega)]); try omega)), fun j hj => by rw [hz] at hj; unfold am_uI; repeat (first | rw [if_pos (by omega)] | rw [if_neg (by omega)])⟩, ⟨F7, ⟨by omega, by omega⟩, by omega, by omega⟩⟩

set_option maxRecDepth 4000 in
set_option maxHeartbeats 4000000 in
theorem c_J6_chars2 {w : am_w} {h : AH} {u bd : Nat} {nu n ix : Int} {fu : Int → Int} (hG : DIG h bd) (cu : h.1 u = some (101, nu, fu, am_N)) (bu : u < h.2.1) (n0 : 0 ≤ n) (lo : 10 ≤ n) (n1 : n < 100) (x0 : gm_dz n ≤ ix ∧ ix ≤ nu ∧ nu ≤ 3000)  : AE w m_J6_getChars_ba4f3 1 [vi n, vi ix, vr u] h (am_int (fun z h1 => (∃ f', h1.1 u = some (101, nu, f', am_N) ∧ (∀ j, 0 ≤ j → j < gm_dz n → f' (ix - 1 - j) = gm_dgt n j) ∧ ∀ j, (j < ix - gm_dz n ∨ ix ≤ j) → f' j = fu j) ∧ KF h h1 (fun q => q = u) 0 0)) := by
  refine AE.of wf_J6_getChars_ba4f3 (Nat.le_of_ble_eq_true rfl) (am_ok_i) ?_
  obtain ⟨bdl, dga, dgo, dgt, dnn, dff, f1, f2, g1, g2, ⟨b1, b2, b3⟩, d0, d1, d2, hf1, hf2⟩ := id hG
  have nu1 : u ≠ dgo := fun e => by rw [e, d1] at cu; cases cu
  have nu2 : u ≠ dgt := fun e => by rw [e, d2] at cu; cases cu
  have nu3 : u ≠ dga := fun e => by rw [e, d0] at cu; cases cu
  have hz : gm_dz n = 2 := by unfold gm_dz; rw [if_neg (by omega), if_pos (by omega)]
  rw [hz] at x0
  refine q_blk (lv2 := [(0, vi n), (1, vi ix), (2, vr u), (5, vi ix)]) (st2 := [vi n]) kJ6_getChars_ba4f3_0 rfl ?_
  refine AQ.of (AS.if_ge_t (tgt := 11) eJ6_getChars_ba4f3_4 (by decide) (by first | assumption | exact ⟨by omega, by omega⟩ | exact ⟨by decide, by decide⟩) (by omega)) ?_
  refine q_blk (lv2 := [(0, vi n), (1, vi ix), (2, vr u), (5, vi ix)]) (st2 := [vi 0]) kJ6_getChars_ba4f3_11 rfl ?_
  refine q_blk (lv2 := [(0, vi n), (1, vi ix), (2, vr u), (5, vi ix), (6, vi 0)]) (st2 := [vi 0]) kJ6_getChars_ba4f3_12 rfl ?_
  refine AQ.of (AS.if_ne_f eJ6_getChars_ba4f3_16 ⟨by decide, by decide⟩ (by decide) (by decide)) ?_
  refine q_blk (lv2 := [(0, vi (-n)), (1, vi ix), (2, vr u), (5, vi ix), (6, vi 0)]) (st2 := []) kJ6_getChars_ba4f3_19 rfl ?_
  refine q_blk (lv2 := [(0, vi (-n)), (1, vi ix), (2, vr u), (5, vi ix), (6, vi 0)]) (st2 := [vi (-100), vi (-n)]) kJ6_getChars_ba4f3_22 rfl ?_
  refine AQ.of (AS.ic_gt_t (tgt := 72) eJ6_getChars_ba4f3_25 (by decide) (by first | assumption | exact ⟨by omega, by omega⟩ | exact ⟨by decide, by decide⟩) ⟨by decide, by decide⟩ (by omega)) ?_
  refine q_blk (lv2 := [(0, vi (-n)), (1, vi ix), (2, vr u), (5, vi (ix + (-1))), (6, vi 0)]) (st2 := [vi (ix + (-1)), vr u]) kJ6_getChars_ba4f3_72 rfl ?_
  refine AQ.of (AS.getSo eJ6_getChars_ba4f3_78 d0 (am_gw 1417 (by decide +kernel) (by decide +kernel))) ?_
  refine q_blk (lv2 := [(0, vi (-n)), (1, vi ix), (2, vr u), (5, vi (ix + (-1))), (6, vi 0)]) (st2 := [vi (-(-n)), vr dgo, vi (ix + (-1)), vr u]) kJ6_getChars_ba4f3_81 rfl ?_
  refine q_ba eJ6_getChars_ba4f3_83 d1 (by decide) (by omega) (by omega) (z := (48 + (-(-n)) % 10)) (hf1 (-(-n)) (by omega) (by omega)) ?_
  refine q_bs eJ6_getChars_ba4f3_84 cu (by omega) (by omega) (by omega) (by omega) (fun h1 e2 => ?_)
  have k3 := am_at e2
  have k4 := (am_ne e2 dga (by omega)).trans d0
  have k5 := (am_ne e2 dgo (by omega)).trans d1
  have k6 := (am_ne e2 dgt (by omega)).trans d2
  have e2u : h1.2.1 = h.2.1 := congrArg Prod.fst (am_z e2)
  have e2v : h1.2.2 = h.2.2 := congrArg Prod.snd (am_z e2)
  have F7 : ∀ q, q < h.2.1 → ¬ (fun q => q = u) q → h1.1 q = h.1 q := fun q q0 q1 => (am_ne e2 q (fun c => q1 c)).trans ((fun _ _ _ => rfl) q q0 q1)
  refine q_blk (lv2 := [(0, vi (-n)), (1, vi ix), (2, vr u), (5, vi (ix + (-1))), (6, vi 0)]) (st2 := [vi (-9), vi (-n)]) kJ6_getChars_ba4f3_85 rfl ?_
  refine AQ.of (AS.ic_ge_f eJ6_getChars_ba4f3_88 (by first | assumption | exact ⟨by omega, by omega⟩ | exact ⟨by decide, by decide⟩) ⟨by decide, by decide⟩ (by omega) (by decide)) ?_
  refine q_blk (lv2 := [(0, vi (-n)), (1, vi ix), (2, vr u), (5, vi ((ix + (-1)) + (-1))), (6, vi 0)]) (st2 := [vi ((ix + (-1)) + (-1)), vr u]) kJ6_getChars_ba4f3_91 rfl ?_
  refine AQ.of (AS.getSt eJ6_getChars_ba4f3_97 k4 (am_gw 1419 (by decide +kernel) (by decide +kernel))) ?_
  refine q_blk (lv2 := [(0, vi (-n)), (1, vi ix), (2, vr u), (5, vi ((ix + (-1)) + (-1))), (6, vi 0)]) (st2 := [vi (-(-n)), vr dgt, vi ((ix + (-1)) + (-1)), vr u]) kJ6_getChars_ba4f3_100 rfl ?_
  refine q_ba eJ6_getChars_ba4f3_102 k6 (by decide) (by omega) (by omega) (z := (48 + (-(-n)) / 10)) (hf2 (-(-n)) (by omega) (by omega)) ?_
  refine q_bs eJ6_getChars_ba4f3_103 k3 (by omega) (by omega) (by omega) (by omega) (fun h8 e9 => ?_)
  have k10 := am_at e9
  have k11 := (am_ne e9 dga (by omega)).trans k4
  have k12 := (am_ne e9 dgo (by omega)).trans k5
  have k13 := (am_ne e9 dgt (by omega)).trans k6
  have e9u : h8.2.1 = h1.2.1 := congrArg Prod.fst (am_z e9)
  have e9v : h8.2.2 = h1.2.2 := congrArg Prod.snd (am_z e9)
  have F14 : ∀ q, q < h.2.1 → ¬ (fun q => q = u) q → h8.1 q = h.1 q := fun q q0 q1 => (am_ne e9 q (fun c => q1 c)).trans (F7 q q0 q1)
  refine q_blk (lv2 := [(0, vi (-n)), (1, vi ix), (2, vr u), (5, vi ((ix + (-1)) + (-1))), (6, vi 0)]) (st2 := [vi 0]) kJ6_getChars_ba4f3_104 rfl ?_
  refine AQ.of (AS.if_eq_t (tgt := 118) eJ6_getChars_ba4f3_106 (by decide) ⟨by decide, by decide⟩ (by decide)) ?_
  refine q_blk (lv2 := [(0, vi (-n)), (1, vi ix), (2, vr u), (5, vi ((ix + (-1)) + (-1))), (6, vi 0)]) (st2 := [vi ((ix + (-1)) + (-1))]) kJ6_getChars_ba4f3_118 rfl ?_
  exact q_ri rfl eJ6_getChars_ba4f3_120 ⟨((ix + (-1)) + (-1)), rfl, ⟨_, k10, (fun j j0 j1 => by
    rw [hz] at j1
    rcases (show j = 0 ∨ j = 1 by omega) with rfl | rfl <;> (unfold am_uI; repeat (first | rw [if_pos (by omega)] | rw [if_neg (by omega)]); unfold gm_dgt; repeat (first | rw [if_pos (by omega)] | rw [if_neg (by omega)]); try omega)), fun j hj => by rw [hz] at hj; unfold am_uI; repeat (first | rw [if_pos (by omega)] | rw [if_neg (by omega)])⟩, ⟨F14, ⟨by omega, by omega⟩, by omega, by omega⟩⟩

set_option maxRecDepth 4000 in
set_option maxHeartbeats 4000000 in
theorem c_J6_chars3 {w : am_w} {h : AH} {u bd : Nat} {nu n ix : Int} {fu : Int → Int} (hG : DIG h bd) (cu : h.1 u = some (101, nu, fu, am_N)) (bu : u < h.2.1) (n0 : 0 ≤ n) (lo : 100 ≤ n) (n1 : n < 1000) (x0 : gm_dz n ≤ ix ∧ ix ≤ nu ∧ nu ≤ 3000)  : AE w m_J6_getChars_ba4f3 1 [vi n, vi ix, vr u] h (am_int (fun z h1 => (∃ f', h1.1 u = some (101, nu, f', am_N) ∧ (∀ j, 0 ≤ j → j < gm_dz n → f' (ix - 1 - j) = gm_dgt n j) ∧ ∀ j, (j < ix - gm_dz n ∨ ix ≤ j) → f' j = fu j) ∧ KF h h1 (fun q => q = u) 0 0)) := by
  refine AE.of wf_J6_getChars_ba4f3 (Nat.le_of_ble_eq_true rfl) (am_ok_i) ?_
  obtain ⟨bdl, dga, dgo, dgt, dnn, dff, f1, f2, g1, g2, ⟨b1, b2, b3⟩, d0, d1, d2, hf1, hf2⟩ := id hG
  have nu1 : u ≠ dgo := fun e => by rw [e, d1] at cu; cases cu
  have nu2 : u ≠ dgt := fun e => by rw [e, d2] at cu; cases cu
  have nu3 : u ≠ dga := fun e => by rw [e, d0] at cu; cases cu
  have hz : gm_dz n = 3 := by unfold gm_dz; rw [if_neg (by omega), if_neg (by omega), if_pos (by omega)]
  rw [hz] at x0
  refine q_blk (lv2 := [(0, vi n), (1, vi ix), (2, vr u), (5, vi ix)]) (st2 := [vi n]) kJ6_getChars_ba4f3_0 rfl ?_
  refine AQ.of (AS.if_ge_t (tgt := 11) eJ6_getChars_ba4f3_4 (by decide) (by first | assumption | exact ⟨by omega, by omega⟩ | exact ⟨by decide, by decide⟩) (by omega)) ?_
  refine q_blk (lv2 := [(0, vi n), (1, vi ix), (2, vr u), (5, vi ix)]) (st2 := [vi 0]) kJ6_getChars_ba4f3_11 rfl ?_
  refine q_blk (lv2 := [(0, vi n), (1, vi ix), (2, vr u), (5, vi ix), (6, vi 0)]) (st2 := [vi 0]) kJ6_getChars_ba4f3_12 rfl ?_
  refine AQ.of (AS.if_ne_f eJ6_getChars_ba4f3_16 ⟨by decide, by decide⟩ (by decide) (by decide)) ?_
  refine q_blk (lv2 := [(0, vi (-n)), (1, vi ix), (2, vr u), (5, vi ix), (6, vi 0)]) (st2 := []) kJ6_getChars_ba4f3_19 rfl ?_
  refine q_blk (lv2 := [(0, vi (-n)), (1, vi ix), (2, vr u), (5, vi ix), (6, vi 0)]) (st2 := [vi (-100), vi (-n)]) kJ6_getChars_ba4f3_22 rfl ?_
  refine AQ.of (AS.ic_gt_f eJ6_getChars_ba4f3_25 (by first | assumption | exact ⟨by omega, by omega⟩ | exact ⟨by decide, by decide⟩) ⟨by decide, by decide⟩ (by omega) (by decide)) ?_
  refine q_blk (lv2 := [(0, vi (-n)), (1, vi ix), (2, vr u), (5, vi ix), (6, vi 0)]) (st2 := [vi 100, vi (-n)]) kJ6_getChars_ba4f3_28 rfl ?_
  refine AQ.of (AS.idiv eJ6_getChars_ba4f3_31 (by first | assumption | exact ⟨by omega, by omega⟩ | exact ⟨by decide, by decide⟩) ⟨by decide, by decide⟩ (by omega)) ?_
  rw [gm_tdn n0]
  refine q_blk (lv2 := [(0, vi (-(n / 100))), (1, vi ix), (2, vr u), (3, vi (-(n / 100))), (4, vi (((-(n / 100)) * 100) - (-n))), (5, vi (ix + (-1))), (6, vi 0)]) (st2 := [vi (ix + (-1)), vr u]) kJ6_getChars_ba4f3_32 rfl ?_
  refine AQ.of (AS.getSo eJ6_getChars_ba4f3_49 d0 (am_gw 1417 (by decide +kernel) (by decide +kernel))) ?_
  refine q_blk (lv2 := [(0, vi (-(n / 100))), (1, vi ix), (2, vr u), (3, vi (-(n / 100))), (4, vi (((-(n / 100)) * 100) - (-n))), (5, vi (ix + (-1))), (6, vi 0)]) (st2 := [vi (((-(n / 100)) * 100) - (-n)), vr dgo, vi (ix + (-1)), vr u]) kJ6_getChars_ba4f3_52 rfl ?_
  refine q_ba eJ6_getChars_ba4f3_54 d1 (by decide) (by omega) (by omega) (z := (48 + (((-(n / 100)) * 100) - (-n)) % 10)) (hf1 (((-(n / 100)) * 100) - (-n)) (by omega) (by omega)) ?_
  refine q_bs eJ6_getChars_ba4f3_55 cu (by omega) (by omega) (by omega) (by omega) (fun h1 e2 => ?_)
  have k3 := am_at e2
  have k4 := (am_ne e2 dga (by omega)).trans d0
  have k5 := (am_ne e2 dgo (by omega)).trans d1
  have k6 := (am_ne e2 dgt (by omega)).trans d2
  have e2u : h1.2.1 = h.2.1 := congrArg Prod.fst (am_z e2)
  have e2v : h1.2.2 = h.2.2 := congrArg Prod.snd (am_z e2)
  have F7 : ∀ q, q < h.2.1 → ¬ (fun q => q = u) q → h1.1 q = h.1 q := fun q q0 q1 => (am_ne e2 q (fun c => q1 c)).trans ((fun _ _ _ => rfl) q q0 q1)
  refine q_blk (lv2 := [(0, vi (-(n / 100))), (1, vi ix), (2, vr u), (3, vi (-(n / 100))), (4, vi (((-(n / 100)) * 100) - (-n))), (5, vi ((ix + (-1)) + (-1))), (6, vi 0)]) (st2 := [vi ((ix + (-1)) + (-1)), vr u]) kJ6_getChars_ba4f3_56 rfl ?_
  refine AQ.of (AS.getSt eJ6_getChars_ba4f3_62 k4 (am_gw 1419 (by decide +kernel) (by decide +kernel))) ?_
  refine q_blk (lv2 := [(0, vi (-(n / 100))), (1, vi ix), (2, vr u), (3, vi (-(n / 100))), (4, vi (((-(n / 100)) * 100) - (-n))), (5, vi ((ix + (-1)) + (-1))), (6, vi 0)]) (st2 := [vi (((-(n / 100)) * 100) - (-n)), vr dgt, vi ((ix + (-1)) + (-1)), vr u]) kJ6_getChars_ba4f3_65 rfl ?_
  refine q_ba eJ6_getChars_ba4f3_67 k6 (by decide) (by omega) (by omega) (z := (48 + (((-(n / 100)) * 100) - (-n)) / 10)) (hf2 (((-(n / 100)) * 100) - (-n)) (by omega) (by omega)) ?_
  refine q_bs eJ6_getChars_ba4f3_68 k3 (by omega) (by omega) (by omega) (by omega) (fun h8 e9 => ?_)
  have k10 := am_at e9
  have k11 := (am_ne e9 dga (by omega)).trans k4
  have k12 := (am_ne e9 dgo (by omega)).trans k5
  have k13 := (am_ne e9 dgt (by omega)).trans k6
  have e9u : h8.2.1 = h1.2.1 := congrArg Prod.fst (am_z e9)
  have e9v : h8.2.2 = h1.2.2 := congrArg Prod.snd (am_z e9)
  have F14 : ∀ q, q < h.2.1 → ¬ (fun q => q = u) q → h8.1 q = h.1 q := fun q q0 q1 => (am_ne e9 q (fun c => q1 c)).trans (F7 q q0 q1)
  refine q_goto (tgt := 22) eJ6_getChars_ba4f3_69 (by decide) ?_
  refine q_blk (lv2 := [(0, vi (-(n / 100))), (1, vi ix), (2, vr u), (3, vi (-(n / 100))), (4, vi (((-(n / 100)) * 100) - (-n))), (5, vi ((ix + (-1)) + (-1))), (6, vi 0)]) (st2 := [vi (-100), vi (-(n / 100))]) kJ6_getChars_ba4f3_22 rfl ?_
  refine AQ.of (AS.ic_gt_t (tgt := 72) eJ6_getChars_ba4f3_25 (by decide) (by first | assumption | exact ⟨by omega, by omega⟩ | exact ⟨by decide, by decide⟩) ⟨by decide, by decide⟩ (by omega)) ?_
  refine q_blk (lv2 := [(0, vi (-(n / 100))), (1, vi ix), (2, vr u), (3, vi (-(n / 100))), (4, vi (((-(n / 100)) * 100) - (-n))), (5, vi (((ix + (-1)) + (-1)) + (-1))), (6, vi 0)]) (st2 := [vi (((ix + (-1)) + (-1)) + (-1)), vr u]) kJ6_getChars_ba4f3_72 rfl ?_
  refine AQ.of (AS.getSo eJ6_getChars_ba4f3_78 k11 (am_gw 1417 (by decide +kernel) (by decide +kernel))) ?_
  refine q_blk (lv2 := [(0, vi (-(n / 100))), (1, vi ix), (2, vr u), (3, vi (-(n / 100))), (4, vi (((-(n / 100)) * 100) - (-n))), (5, vi (((ix + (-1)) + (-1)) + (-1))), (6, vi 0)]) (st2 := [vi (-(-(n / 100))), vr dgo, vi (((ix + (-1)) + (-1)) + (-1)), vr u]) kJ6_getChars_ba4f3_81 rfl ?_
  refine q_ba eJ6_getChars_ba4f3_83 k12 (by decide) (by omega) (by omega) (z := (48 + (-(-(n / 100))) % 10)) (hf1 (-(-(n / 100))) (by omega) (by omega)) ?_
  refine q_bs eJ6_getChars_ba4f3_84 k10 (by omega) (by omega) (by omega) (by omega) (fun h15 e16 => ?_)
  have k17 := am_at e16
  have k18 := (am_ne e16 dga (by omega)).trans k11
  have k19 := (am_ne e16 dgo (by omega)).trans k12
  have k20 := (am_ne e16 dgt (by omega)).trans k13
  have e16u : h15.2.1 = h8.2.1 := congrArg Prod.fst (am_z e16)
  have e16v : h15.2.2 = h8.2.2 := congrArg Prod.snd (am_z e16)
  have F21 : ∀ q, q < h.2.1 → ¬ (fun q => q = u) q → h15.1 q = h.1 q := fun q q0 q1 => (am_ne e16 q (fun c => q1 c)).trans (F14 q q0 q1)
  refine q_blk (lv2 := [(0, vi (-(n / 100))), (1, vi ix), (2, vr u), (3, vi (-(n / 100))), (4, vi (((-(n / 100)) * 100) - (-n))), (5, vi (((ix + (-1)) + (-1)) + (-1))), (6, vi 0)]) (st2 := [vi (-9), vi (-(n / 100))]) kJ6_getChars_ba4f3_85 rfl ?_
  refine AQ.of (AS.ic_ge_t (tgt := 104) eJ6_getChars_ba4f3_88 (by decide) (by first | assumption | exact ⟨by omega, by omega⟩ | exact ⟨by decide, by decide⟩) ⟨by decide, by decide⟩ (by omega)) ?_
  refine q_blk (lv2 := [(0, vi (-(n / 100))), (1, vi ix), (2, vr u), (3, vi (-(n / 100))), (4, vi (((-(n / 100)) * 100) - (-n))), (5, vi (((ix + (-1)) + (-1)) + (-1))), (6, vi 0)]) (st2 := [vi 0]) kJ6_getChars_ba4f3_104 rfl ?_
  refine AQ.of (AS.if_eq_t (tgt := 118) eJ6_getChars_ba4f3_106 (by decide) ⟨by decide, by decide⟩ (by decide)) ?_
  refine q_blk (lv2 := [(0, vi (-(n / 100))), (1, vi ix), (2, vr u), (3, vi (-(n / 100))), (4, vi (((-(n / 100)) * 100) - (-n))), (5, vi (((ix + (-1)) + (-1)) + (-1))), (6, vi 0)]) (st2 := [vi (((ix + (-1)) + (-1)) + (-1))]) kJ6_getChars_ba4f3_118 rfl ?_
  exact q_ri rfl eJ6_getChars_ba4f3_120 ⟨(((ix + (-1)) + (-1)) + (-1)), rfl, ⟨_, k17, (fun j j0 j1 => by
    rw [hz] at j1
    rcases (show j = 0 ∨ j = 1 ∨ j = 2 by omega) with rfl | rfl | rfl <;> (unfold am_uI; repeat (first | rw [if_pos (by omega)] | rw [if_neg (by omega)]); unfold gm_dgt; repeat (first | rw [if_pos (by omega)] | rw [if_neg (by omega)]); try omega)), fun j hj => by rw [hz] at hj; unfold am_uI; repeat (first | rw [if_pos (by omega)] | rw [if_neg (by omega)])⟩, ⟨F21, ⟨by omega, by omega⟩, by omega, by omega⟩⟩

set_option maxRecDepth 4000 in
set_option maxHeartbeats 4000000 in
theorem c_J6_chars4 {w : am_w} {h : AH} {u bd : Nat} {nu n ix : Int} {fu : Int → Int} (hG : DIG h bd) (cu : h.1 u = some (101, nu, fu, am_N)) (bu : u < h.2.1) (n0 : 0 ≤ n) (lo : 1000 ≤ n) (n1 : n < 10000) (x0 : gm_dz n ≤ ix ∧ ix ≤ nu ∧ nu ≤ 3000)  : AE w m_J6_getChars_ba4f3 1 [vi n, vi ix, vr u] h (am_int (fun z h1 => (∃ f', h1.1 u = some (101, nu, f', am_N) ∧ (∀ j, 0 ≤ j → j < gm_dz n → f' (ix - 1 - j) = gm_dgt n j) ∧ ∀ j, (j < ix - gm_dz n ∨ ix ≤ j) → f' j = fu j) ∧ KF h h1 (fun q => q = u) 0 0)) := by
  refine AE.of wf_J6_getChars_ba4f3 (Nat.le_of_ble_eq_true rfl) (am_ok_i) ?_
  obtain ⟨bdl, dga, dgo, dgt, dnn, dff, f1, f2, g1, g2, ⟨b1, b2, b3⟩, d0, d1, d2, hf1, hf2⟩ := id hG
  have nu1 : u ≠ dgo := fun e => by rw [e, d1] at cu; cases cu
  have nu2 : u ≠ dgt := fun e => by rw [e, d2] at cu; cases cu
  have nu3 : u ≠ dga := fun e => by rw [e, d0] at cu; cases cu
  have hz : gm_dz n = 4 := by unfold gm_dz; rw [if_neg (by omega), if_neg (by omega), if_neg (by omega)]
  rw [hz] at x0
  refine q_blk (lv2 := [(0, vi n), (1, vi ix), (2, vr u), (5, vi ix)]) (st2 := [vi n]) kJ6_getChars_ba4f3_0 rfl ?_
  refine AQ.of (AS.if_ge_t (tgt := 11) eJ6_getChars_ba4f3_4 (by decide) (by first | assumption | exact ⟨by omega, by omega⟩ | exact ⟨by decide, by decide⟩) (by omega)) ?_
  refine q_blk (lv2 := [(0, vi n), (1, vi ix), (2, vr u), (5, vi ix)]) (st2 := [vi 0]) kJ6_getChars_ba4f3_11 rfl ?_
  refine q_blk (lv2 := [(0, vi n), (1, vi ix), (2, vr u), (5, vi ix), (6, vi 0)]) (st2 := [vi 0]) kJ6_getChars_ba4f3_12 rfl ?_
  refine AQ.of (AS.if_ne_f eJ6_getChars_ba4f3_16 ⟨by decide, by decide⟩ (by decide) (by decide)) ?_
  refine q_blk (lv2 := [(0, vi (-n)), (1, vi ix), (2, vr u), (5, vi ix), (6, vi 0)]) (st2 := []) kJ6_getChars_ba4f3_19 rfl ?_
  refine q_blk (lv2 := [(0, vi (-n)), (1, vi ix), (2, vr u), (5, vi ix), (6, vi 0)]) (st2 := [vi (-100), vi (-n)]) kJ6_getChars_ba4f3_22 rfl ?_
  refine AQ.of (AS.ic_gt_f eJ6_getChars_ba4f3_25 (by first | assumption | exact ⟨by omega, by omega⟩ | exact ⟨by decide, by decide⟩) ⟨by decide, by decide⟩ (by omega) (by decide)) ?_
  refine q_blk (lv2 := [(0, vi (-n)), (1, vi ix), (2, vr u), (5, vi ix), (6, vi 0)]) (st2 := [vi 100, vi (-n)]) kJ6_getChars_ba4f3_28 rfl ?_
  refine AQ.of (AS.idiv eJ6_getChars_ba4f3_31 (by first | assumption | exact ⟨by omega, by omega⟩ | exact ⟨by decide, by decide⟩) ⟨by decide, by decide⟩ (by omega)) ?_
  rw [gm_tdn n0]
  refine q_blk (lv2 := [(0, vi (-(n / 100))), (1, vi ix), (2, vr u), (3, vi (-(n / 100))), (4, vi (((-(n / 100)) * 100) - (-n))), (5, vi (ix + (-1))), (6, vi 0)]) (st2 := [vi (ix + (-1)), vr u]) kJ6_getChars_ba4f3_32 rfl ?_
  refine AQ.of (AS.getSo eJ6_getChars_ba4f3_49 d0 (am_gw 1417 (by decide +kernel) (by decide +kernel))) ?_
  refine q_blk (lv2 := [(0, vi (-(n / 100))), (1, vi ix), (2, vr u), (3, vi (-(n / 100))), (4, vi (((-(n / 100)) * 100) - (-n))), (5, vi (ix + (-1))), (6, vi 0)]) (st2 := [vi (((-(n / 100)) * 100) - (-n)), vr dgo, vi (ix + (-1)), vr u]) kJ6_getChars_ba4f3_52 rfl ?_
  refine q_ba eJ6_getChars_ba4f3_54 d1 (by decide) (by omega) (by omega) (z := (48 + (((-(n / 100)) * 100) - (-n)) % 10)) (hf1 (((-(n / 100)) * 100) - (-n)) (by omega) (by omega)) ?_
  refine q_bs eJ6_getChars_ba4f3_55 cu (by omega) (by omega) (by omega) (by omega) (fun h1 e2 => ?_)
  have k3 := am_at e2
  have k4 := (am_ne e2 dga (by omega)).trans d0
  have k5 := (am_ne e2 dgo (by omega)).trans d1
  have k6 := (am_ne e2 dgt (by omega)).trans d2
  have e2u : h1.2.1 = h.2.1 := congrArg Prod.fst (am_z e2)
  have e2v : h1.2.2 = h.2.2 := congrArg Prod.snd (am_z e2)
  have F7 : ∀ q, q < h.2.1 → ¬ (fun q => q = u) q → h1.1 q = h.1 q := fun q q0 q1 => (am_ne e2 q (fun c => q1 c)).trans ((fun _ _ _ => rfl) q q0 q1)
  refine q_blk (lv2 := [(0, vi (-(n / 100))), (1, vi ix), (2, vr u), (3, vi (-(n / 100))), (4, vi (((-(n / 100)) * 100) - (-n))), (5, vi ((ix + (-1)) + (-1))), (6, vi 0)]) (st2 := [vi ((ix + (-1)) + (-1)), vr u]) kJ6_getChars_ba4f3_56 rfl ?_
  refine AQ.of (AS.getSt eJ6_getChars_ba4f3_62 k4 (am_gw 1419 (by decide +kernel) (by decide +kernel))) ?_
  refine q_blk (lv2 := [(0, vi (-(n / 100))), (1, vi ix), (2, vr u), (3, vi (-(n / 100))), (4, vi (((-(n / 100)) * 100) - (-n))), (5, vi ((ix + (-1)) + (-1))), (6, vi 0)]) (st2 := [vi (((-(n / 100)) * 100) - (-n)), vr dgt, vi ((ix + (-1)) + (-1)), vr u]) kJ6_getChars_ba4f3_65 rfl ?_
  refine q_ba eJ6_getChars_ba4f3_67 k6 (by decide) (by omega) (by omega) (z := (48 + (((-(n / 100)) * 100) - (-n)) / 10)) (hf2 (((-(n / 100)) * 100) - (-n)) (by omega) (by omega)) ?_
  refine q_bs eJ6_getChars_ba4f3_68 k3 (by omega) (by omega) (by omega) (by omega) (fun h8 e9 => ?_)
  have k10 := am_at e9
  have k11 := (am_ne e9 dga (by omega)).trans k4
  have k12 := (am_ne e9 dgo (by omega)).trans k5
  have k13 := (am_ne e9 dgt (by omega)).trans k6
  have e9u : h8.2.1 = h1.2.1 := congrArg Prod.fst (am_z e9)
  have e9v : h8.2.2 = h1.2.2 := congrArg Prod.snd (am_z e9)
  have F14 : ∀ q, q < h.2.1 → ¬ (fun q => q = u) q → h8.1 q = h.1 q := fun q q0 q1 => (am_ne e9 q (fun c => q1 c)).trans (F7 q q0 q1)
  refine q_goto (tgt := 22) eJ6_getChars_ba4f3_69 (by decide) ?_
  refine q_blk (lv2 := [(0, vi (-(n / 100))), (1, vi ix), (2, vr u), (3, vi (-(n / 100))), (4, vi (((-(n / 100)) * 100) - (-n))), (5, vi ((ix + (-1)) + (-1))), (6, vi 0)]) (st2 := [vi (-100), vi (-(n / 100))]) kJ6_getChars_ba4f3_22 rfl ?_
  refine AQ.of (AS.ic_gt_t (tgt := 72) eJ6_getChars_ba4f3_25 (by decide) (by first | assumption | exact ⟨by omega, by omega⟩ | exact ⟨by decide, by decide⟩) ⟨by decide, by decide⟩ (by omega)) ?_
  refine q_blk (lv2 := [(0, vi (-(n / 100))), (1, vi ix), (2, vr u), (3, vi (-(n / 100))), (4, vi (((-(n / 100)) * 100) - (-n))), (5, vi (((ix + (-1)) + (-1)) + (-1))), (6, vi 0)]) (st2 := [vi (((ix + (-1)) + (-1)) + (-1)), vr u]) kJ6_getChars_ba4f3_72 rfl ?_
  refine AQ.of (AS.getSo eJ6_getChars_ba4f3_78 k11 (am_gw 1417 (by decide +kernel) (by decide +kernel))) ?_
  refine q_blk (lv2 := [(0, vi (-(n / 100))), (1, vi ix), (2, vr u), (3, vi (-(n / 100))), (4, vi (((-(n / 100)) * 100) - (-n))), (5, vi (((ix + (-1)) + (-1)) + (-1))), (6, vi 0)]) (st2 := [vi (-(-(n / 100))), vr dgo, vi (((ix + (-1)) + (-1)) + (-1)), vr u]) kJ6_getChars_ba4f3_81 rfl ?_
  refine q_ba eJ6_getChars_ba4f3_83 k12 (by decide) (by omega) (by omega) (z := (48 + (-(-(n / 100))) % 10)) (hf1 (-(-(n / 100))) (by omega) (by omega)) ?_
  refine q_bs eJ6_getChars_ba4f3_84 k10 (by omega) (by omega) (by omega) (by omega) (fun h15 e16 => ?_)
  have k17 := am_at e16
  have k18 := (am_ne e16 dga (by omega)).trans k11
  have k19 := (am_ne e16 dgo (by omega)).trans k12
  have k20 := (am_ne e16 dgt (by omega)).trans k13
  have e16u : h15.2.1 = h8.2.1 := congrArg Prod.fst (am_z e16)
  have e16v : h15.2.2 = h8.2.2 := congrArg Prod.snd (am_z e16)
  have F21 : ∀ q, q < h.2.1 → ¬ (fun q => q = u) q → h15.1 q = h.1 q := fun q q0 q1 => (am_ne e16 q (fun c => q1 c)).trans (F14 q q0 q1)
  refine q_blk (lv2 := [(0, vi (-(n / 100))), (1, vi ix), (2, vr u), (3, vi (-(n / 100))), (4, vi (((-(n / 100)) * 100) - (-n))), (5, vi (((ix + (-1)) + (-1)) + (-1))), (6, vi 0)]) (st2 := [vi (-9), vi (-(n / 100))]) kJ6_getChars_ba4f3_85 rfl ?_
  refine AQ.of (AS.ic_ge_f eJ6_getChars_ba4f3_88 (by first | assumption | exact ⟨by omega, by omega⟩ | exact ⟨by decide, by decide⟩) ⟨by decide, by decide⟩ (by omega) (by decide)) ?_
  refine q_blk (lv2 := [(0, vi (-(n / 100))), (1, vi ix), (2, vr u), (3, vi (-(n / 100))), (4, vi (((-(n / 100)) * 100) - (-n))), (5, vi ((((ix + (-1)) + (-1)) + (-1)) + (-1))), (6, vi 0)]) (st2 := [vi ((((ix + (-1)) + (-1)) + (-1)) + (-1)), vr u]) kJ6_getChars_ba4f3_91 rfl ?_
  refine AQ.of (AS.getSt eJ6_getChars_ba4f3_97 k18 (am_gw 1419 (by decide +kernel) (by decide +kernel))) ?_
  refine q_blk (lv2 := [(0, vi (-(n / 100))), (1, vi ix), (2, vr u), (3, vi (-(n / 100))), (4, vi (((-(n / 100)) * 100) - (-n))), (5, vi ((((ix + (-1)) + (-1)) + (-1)) + (-1))), (6, vi 0)]) (st2 := [vi (-(-(n / 100))), vr dgt, vi ((((ix + (-1)) + (-1)) + (-1)) + (-1)), vr u]) kJ6_getChars_ba4f3_100 rfl ?_
  refine q_ba eJ6_getChars_ba4f3_102 k20 (by decide) (by omega) (by omega) (z := (48 + (-(-(n / 100))) / 10)) (hf2 (-(-(n / 100))) (by omega) (by omega)) ?_
  refine q_bs eJ6_getChars_ba4f3_103 k17 (by omega) (by omega) (by omega) (by omega) (fun h22 e23 => ?_)
  have k24 := am_at e23
  have k25 := (am_ne e23 dga (by omega)).trans k18
  have k26 := (am_ne e23 dgo (by omega)).trans k19
  have k27 := (am_ne e23 dgt (by omega)).trans k20
  have e23u : h22.2.1 = h15.2.1 := congrArg Prod.fst (am_z e23)
  have e23v : h22.2.2 = h15.2.2 := congrArg Prod.snd (am_z e23)
  have F28 : ∀ q, q < h.2.1 → ¬ (fun q => q = u) q → h22.1 q = h.1 q := fun q q0 q1 => (am_ne e23 q (fun c => q1 c)).trans (F21 q q0 q1)
  refine q_blk (lv2 := [(0, vi (-(n / 100))), (1, vi ix), (2, vr u), (3, vi (-(n / 100))), (4, vi (((-(n / 100)) * 100) - (-n))), (5, vi ((((ix + (-1)) + (-1)) + (-1)) + (-1))), (6, vi 0)]) (st2 := [vi 0]) kJ6_getChars_ba4f3_104 rfl ?_
  refine AQ.of (AS.if_eq_t (tgt := 118) eJ6_getChars_ba4f3_106 (by decide) ⟨by decide, by decide⟩ (by decide)) ?_
  refine q_blk (lv2 := [(0, vi (-(n / 100))), (1, vi ix), (2, vr u), (3, vi (-(n / 100))), (4, vi (((-(n / 100)) * 100) - (-n))), (5, vi ((((ix + (-1)) + (-1)) + (-1)) + (-1))), (6, vi 0)]) (st2 := [vi ((((ix + (-1)) + (-1)) + (-1)) + (-1))]) kJ6_getChars_ba4f3_118 rfl ?_
  exact q_ri rfl eJ6_getChars_ba4f3_120 ⟨((((ix + (-1)) + (-1)) + (-1)) + (-1)), rfl, ⟨_, k24, (fun j j0 j1 => by
    rw [hz] at j1
    rcases (show j = 0 ∨ j = 1 ∨ j = 2 ∨ j = 3 by omega) with rfl | rfl | rfl | rfl <;> (unfold am_uI; repeat (first | rw [if_pos (by omega)] | rw [if_neg (by omega)]); unfold gm_dgt; repeat (first | rw [if_pos (by omega)] | rw [if_neg (by omega)]); try omega)), fun j hj => by rw [hz] at hj; unfold am_uI; repeat (first | rw [if_pos (by omega)] | rw [if_neg (by omega)])⟩, ⟨F28, ⟨by omega, by omega⟩, by omega, by omega⟩⟩

theorem c_J6_getChars {w : am_w} {h : AH} {u bd : Nat} {nu n ix : Int} {fu : Int → Int} (hG : DIG h bd) (cu : h.1 u = some (101, nu, fu, am_N)) (bu : u < h.2.1) (n0 : 0 ≤ n) (n1 : n < 10000) (x0 : gm_dz n ≤ ix ∧ ix ≤ nu ∧ nu ≤ 3000) : AE w m_J6_getChars_ba4f3 1 [vi n, vi ix, vr u] h (am_int (fun z h1 => (∃ f', h1.1 u = some (101, nu, f', am_N) ∧ (∀ j, 0 ≤ j → j < gm_dz n → f' (ix - 1 - j) = gm_dgt n j) ∧ ∀ j, (j < ix - gm_dz n ∨ ix ≤ j) → f' j = fu j) ∧ KF h h1 (fun q => q = u) 0 0)) := by
  by_cases a : n < 10
  · exact c_J6_chars1 hG cu bu n0 (by omega) a x0
  · by_cases b : n < 100
    · exact c_J6_chars2 hG cu bu n0 (by omega) b x0
    · by_cases c : n < 1000
      · exact c_J6_chars3 hG cu bu n0 (by omega) c x0
      · exact c_J6_chars4 hG cu bu n0 (by omega) n1 x0
theorem gm_dgt_r {n j : Int} (n0 : 0 ≤ n) (n1 : n < 10000) : 48 ≤ gm_dgt n j ∧ gm_dgt n j < 58 := by unfold gm_dgt; split <;> (try split) <;> (try split) <;> omega

set_option maxRecDepth 4000 in
set_option maxHeartbeats 1000000 in
theorem c_J5_appendI {w : am_w} {h : AH} {s v : Nat} {cap cnt : Int} {fb : Int → Int} (hB : SBD h s v cap cnt fb) {bd : Nat} {n : Int} (hG : DIG h bd) (n0 : 0 ≤ n) (n1 : n < 10000) (hl : cnt + 4 ≤ 1000)  : AE w m_J5_append_c97b9 5 [vr s, vi n] h (am_ref (fun z h1 => z = s ∧ (∃ v' cap' fb', SBD h1 s v' cap' (cnt + gm_dz n) fb' ∧ (∀ j, 0 ≤ j → j < cnt → fb' j = fb j) ∧ (∀ j, 0 ≤ j → j < gm_dz n → fb' (cnt + gm_dz n - 1 - j) = gm_dgt n j) ∧ (v' = v ∨ h.2.1 ≤ v')) ∧ KF h h1 (fun q => q = s ∨ q = v) 1 3000)) := by
  refine AE.of wf_J5_append_c97b9 (Nat.le_of_ble_eq_true rfl) (am_ok_r) ?_
  have nsv := hB.ne
  obtain ⟨⟨bs, bv⟩, c0, c1, hn, hb⟩ := id hB
  have dz := gm_dz_r n0
  obtain ⟨bdl, dga, dgo, dgt, dnn, dff, f1, f2, g1, g2, ⟨b1, b2, b3⟩, d0, d1, d2, hf1, hf2⟩ := id hG
  have nsa : s ≠ dga := fun e => by rw [e, d0] at c0; cases c0
  have nso : s ≠ dgo := fun e => by rw [e, d1] at c0; cases c0
  have nst : s ≠ dgt := fun e => by rw [e, d2] at c0; cases c0
  refine q_blk (lv2 := [(0, vr s), (1, vi n)]) (st2 := [vr s]) kJ5_append_c97b9_0 rfl ?_
  refine q_gi eJ5_append_c97b9_1 fl_RJ5_79 (Or.inl rfl) c0 (z := cnt) rfl ?_
  refine q_blk (lv2 := [(0, vr s), (1, vi n), (2, vi cnt)]) (st2 := [vi n, vi cnt]) kJ5_append_c97b9_4 rfl ?_
  refine AQ.callSi (av := [vi n]) (st := [vi cnt]) (c_J6_stringSize n0 n1) lk_RJ5_245 (by decide) rfl rfl (Nat.le_of_ble_eq_true rfl) eJ5_append_c97b9_7 (fun z1 h3 e2 => ?_)
  obtain ⟨e2, rfl⟩ := e2
  obtain rfl := e2.symm
  refine q_blk (lv2 := [(0, vr s), (1, vi n), (2, vi cnt), (3, vi (cnt + (gm_dz n)))]) (st2 := [vi (cnt + (gm_dz n)), vr s]) kJ5_append_c97b9_10 rfl ?_
  refine AQ.callUv (av := [vi (cnt + (gm_dz n))]) (st := []) (c_J5_ensureCapacityInternal hB (by omega) (by omega)) lk_RJ5_100 (by decide) rfl rfl c0 (Nat.le_of_ble_eq_true rfl) eJ5_append_c97b9_14 (fun h6 e5 => ?_)
  obtain ⟨⟨v1, cap1, fb1, B1, m1', k1, n1v⟩, g7f, ⟨g7a, g7b⟩, g7c, g7d⟩ := e5
  have k8 := (g7f dga (by omega) (by show ¬ _ = _; omega)).trans d0
  have k9 := (g7f dgo (by omega) (by show ¬ _ = _; omega)).trans d1
  have k10 := (g7f dgt (by omega) (by show ¬ _ = _; omega)).trans d2
  have F11 : ∀ q, q < h.2.1 → ¬ (fun q => q = s ∨ q = v) q → h6.1 q = h.1 q := fun q q0 q1 => (g7f q (by omega) (by show ¬ _ = _; omega)).trans ((fun _ _ _ => rfl) q q0 q1)
  have nsv1 := B1.ne
  obtain ⟨⟨bs1, bv1⟩, C0, C1, hn1, hb1⟩ := id B1
  have w0 : v1 ≠ dga := fun e => by have a := C1; rw [e, k8] at a; cases a
  have w1 : v1 ≠ dgo := fun e => by have a := C1; rw [e, k9] at a; cases a
  have w2 : v1 ≠ dgt := fun e => by have a := C1; rw [e, k10] at a; cases a
  have hG1 : DIG h6 bd := ⟨by omega, dga, dgo, dgt, dnn, dff, f1, f2, g1, g2, ⟨b1, b2, b3⟩, k8, k9, k10, hf1, hf2⟩
  refine q_blk (lv2 := [(0, vr s), (1, vi n), (2, vi cnt), (3, vi (cnt + (gm_dz n)))]) (st2 := [vr s]) kJ5_append_c97b9_17 rfl ?_
  refine AQ.callUi (av := []) (st := []) (c_J5_isLatin1 B1) lk_RJ5_83 (by decide) rfl rfl C0 (Nat.le_of_ble_eq_true rfl) eJ5_append_c97b9_18 (fun z12 h14 e13 => ?_)
  obtain ⟨e13, rfl⟩ := e13
  obtain rfl : z12 = 1 := by rcases e13 with a | a; exact a.1; exact absurd trivial a.2
  refine AQ.of (AS.if_eq_f eJ5_append_c97b9_21 ⟨by decide, by decide⟩ (by decide) (by decide)) ?_
  refine q_blk (lv2 := [(0, vr s), (1, vi n), (2, vi cnt), (3, vi (cnt + (gm_dz n)))]) (st2 := [vr s, vi (cnt + (gm_dz n)), vi n]) kJ5_append_c97b9_24 rfl ?_
  refine q_gr eJ5_append_c97b9_27 fl_RJ5_15 (Or.inr ⟨_, rfl⟩) C0 rfl ?_
  refine AQ.callSi (av := [vi n, vi (cnt + (gm_dz n)), vr v1]) (st := []) (c_J6_getChars hG1 C1 (by omega) n0 n1 ⟨by omega, by omega, by omega⟩) lk_RJ5_248 (by decide) rfl rfl (Nat.le_of_ble_eq_true rfl) eJ5_append_c97b9_30 (fun z15 h17 e16 => ?_)
  obtain ⟨⟨fg, Cg, dg1, dg2⟩, g18f, ⟨g18a, g18b⟩, g18c, g18d⟩ := e16
  have k19 := (g18f s (by omega) (by show ¬ _ = _; omega)).trans C0
  have k20 := (g18f dga (by omega) (by show ¬ _ = _; omega)).trans k8
  have k21 := (g18f dgo (by omega) (by show ¬ _ = _; omega)).trans k9
  have k22 := (g18f dgt (by omega) (by show ¬ _ = _; omega)).trans k10
  have F23 : ∀ q, q < h.2.1 → ¬ (fun q => q = s ∨ q = v) q → h17.1 q = h.1 q := fun q q0 q1 => (g18f q (by omega) (fun c => n1v.elim (fun z => q1 (Or.inr (c.trans z))) (fun z => by omega))).trans (F11 q q0 q1)
  refine q_blk (lv2 := [(0, vr s), (1, vi n), (2, vi cnt), (3, vi (cnt + (gm_dz n)))]) (st2 := []) kJ5_append_c97b9_33 rfl ?_
  refine q_goto (tgt := 48) eJ5_append_c97b9_34 (by decide) ?_
  refine q_blk (lv2 := [(0, vr s), (1, vi n), (2, vi cnt), (3, vi (cnt + (gm_dz n)))]) (st2 := [vi (cnt + (gm_dz n)), vr s]) kJ5_append_c97b9_48 rfl ?_
  refine q_pi eJ5_append_c97b9_50 fl_RJ5_79 (fun q hq => by cases hq; exact Or.inl rfl) (Or.inl rfl) k19 (Nat.le_of_ble_eq_true rfl) (l2 := [0, 0, 0, (cnt + (gm_dz n))]) rfl (fun h24 e25 => ?_)
  have k26 := am_at e25
  have k27 := (am_ne e25 dga (by omega)).trans k20
  have k28 := (am_ne e25 dgo (by omega)).trans k21
  have k29 := (am_ne e25 dgt (by omega)).trans k22
  have k30 := (am_ne e25 v1 (by omega)).trans Cg
  have e25u : h24.2.1 = h17.2.1 := congrArg Prod.fst (am_z e25)
  have e25v : h24.2.2 = h17.2.2 := congrArg Prod.snd (am_z e25)
  have F31 : ∀ q, q < h.2.1 → ¬ (fun q => q = s ∨ q = v) q → h24.1 q = h.1 q := fun q q0 q1 => (am_ne e25 q (fun c => q1 (Or.inl c))).trans (F23 q q0 q1)
  refine q_blk (lv2 := [(0, vr s), (1, vi n), (2, vi cnt), (3, vi (cnt + (gm_dz n)))]) (st2 := [vr s]) kJ5_append_c97b9_53 rfl ?_
  exact q_ra rfl eJ5_append_c97b9_54 ⟨s, rfl, rfl, ⟨v1, cap1, _, ⟨⟨by omega, by omega⟩, k26, k30, ⟨by omega, by omega, by omega⟩, fun j j0 j1 => by
    by_cases c : j < cnt ∨ cnt + gm_dz n ≤ j
    · rw [dg2 j (by omega)]; exact hb1 j j0 j1
    · have := dg1 (cnt + gm_dz n - 1 - j) (by omega) (by omega)
      rw [show cnt + gm_dz n - 1 - (cnt + gm_dz n - 1 - j) = j by omega] at this
      rw [this]
      have := gm_dgt_r (j := cnt + gm_dz n - 1 - j) n0 n1
      omega⟩, (fun j j0 j1 => (dg2 j (by omega)).trans (k1 j j0 j1)), (fun j j0 j1 => dg1 j j0 j1), n1v⟩, ⟨F31, ⟨by omega, by omega⟩, by omega, by omega⟩⟩

set_option maxRecDepth 4000 in
set_option maxHeartbeats 1000000 in
theorem c_J4_appendI {w : am_w} {h : AH} {s v : Nat} {cap cnt : Int} {fb : Int → Int} (hB : SBD h s v cap cnt fb) {bd : Nat} {n : Int} (hG : DIG h bd) (n0 : 0 ≤ n) (n1 : n < 10000) (hl : cnt + 4 ≤ 1000)  : AE w m_J4_append_bf812 6 [vr s, vi n] h (am_ref (fun z h1 => z = s ∧ (∃ v' cap' fb', SBD h1 s v' cap' (cnt + gm_dz n) fb' ∧ (∀ j, 0 ≤ j → j < cnt → fb' j = fb j) ∧ (∀ j, 0 ≤ j → j < gm_dz n → fb' (cnt + gm_dz n - 1 - j) = gm_dgt n j) ∧ (v' = v ∨ h.2.1 ≤ v')) ∧ KF h h1 (fun q => q = s ∨ q = v) 1 3000)) := by
  refine AE.of wf_J4_append_bf812 (Nat.le_of_ble_eq_true rfl) (am_ok_r) ?_
  have nsv := hB.ne
  obtain ⟨⟨bs, bv⟩, c0, c1, hn, hb⟩ := id hB
  refine q_blk (lv2 := [(0, vr s), (1, vi n)]) (st2 := [vi n, vr s]) kJ4_append_bf812_0 rfl ?_
  refine AQ.callZr (av := [vi n]) (st := []) (c_J5_appendI hB hG n0 n1 hl) lk_RJ4_53 (by decide) rfl rfl c0 (Nat.le_of_ble_eq_true rfl) eJ4_append_bf812_2 (fun z1 h3 e2 => ?_)
  refine q_blk (lv2 := [(0, vr s), (1, vi n)]) (st2 := [vr s]) kJ4_append_bf812_5 rfl ?_
  exact q_ra rfl eJ4_append_bf812_7 ⟨s, rfl, rfl, e2.2⟩

set_option maxRecDepth 4000 in
set_option maxHeartbeats 1000000 in
theorem c_J7_checkLength {w : am_w} {h : AH} {n : Int} (n0 : 0 ≤ n) (n1 : n < 2147483648)  : AE w m_J7_checkLength_df160 1 [vi 0, vi n] h (am_unit (fun h1 => h = h1)) := by
  refine AE.of wf_J7_checkLength_df160 (Nat.le_of_ble_eq_true rfl) (am_ok_v) ?_
  refine q_blk (lv2 := [(0, vi 0), (1, vi n)]) (st2 := [vi 0, vi n]) kJ7_checkLength_df160_0 rfl ?_
  refine AQ.of (AS.ic_ge_t (tgt := 37) eJ7_checkLength_df160_2 (by decide) (by first | assumption | exact ⟨by omega, by omega⟩ | exact ⟨by decide, by decide⟩) ⟨by decide, by decide⟩ (by omega)) ?_
  exact q_rv rfl eJ7_checkLength_df160_37 ⟨rfl, rfl⟩

set_option maxRecDepth 4000 in
set_option maxHeartbeats 1000000 in
theorem c_J7_copyOfRangeByte {w : am_w} {h : AH} {v : Nat} {cap cnt : Int} {fb : Int → Int} (c1 : h.1 v = some (101, cap, fb, am_N)) (bv : v < h.2.1) (hb : ∀ j, 0 ≤ j → j < cap → 0 ≤ fb j ∧ fb j < 128) (l0 : 0 ≤ cnt ∧ cnt ≤ cap ∧ cap ≤ 3000)  : AE w m_J7_copyOfRangeByte_39247 2 [vr v, vi 0, vi cnt] h (am_ref (fun q h1 => (h.2.1 ≤ q ∧ q < h1.2.1) ∧ (∃ f', h1.1 q = some (101, cnt, f', am_N) ∧ ∀ j, 0 ≤ j → j < cnt → f' j = fb j) ∧ KF h h1 NO 1 3000)) := by
  refine AE.of wf_J7_copyOfRangeByte_39247 (Nat.le_of_ble_eq_true rfl) (am_ok_rA) ?_
  refine q_blk (lv2 := [(0, vr v), (1, vi 0), (2, vi cnt)]) (st2 := [vi cnt, vi 0]) kJ7_copyOfRangeByte_39247_0 rfl ?_
  refine AQ.callSv (av := [vi 0, vi cnt]) (st := []) (c_J7_checkLength (by omega) (by omega)) lk_RJ7_343 (by decide) rfl rfl (Nat.le_of_ble_eq_true rfl) eJ7_copyOfRangeByte_39247_2 (fun h3 e2 => ?_)
  obtain rfl := e2
  refine q_blk (lv2 := [(0, vr v), (1, vi 0), (2, vi cnt), (3, vi (cnt - 0))]) (st2 := [vi (cnt - 0)]) kJ7_copyOfRangeByte_39247_5 rfl ?_
  obtain ⟨t4, e6t⟩ : ∃ q : Nat, h.2.1 = q := ⟨_, rfl⟩
  refine q_na (k := 101) ((cnt - 0).toNat) rfl e6t eJ7_copyOfRangeByte_39247_10 (Or.inr (Or.inl ⟨rfl, rfl⟩)) (am_gw 119 (by decide +kernel) (by decide +kernel)) (by omega) (by omega) (fun h5 e6c e6f e6z => ?_)
  have k7 := (e6f v (by omega)).trans c1
  have e6u : h5.2.1 = t4 + 1 := by rw [e6z]
  have e6v : h5.2.2 = h.2.2 + ((cnt - 0).toNat) := by rw [e6z]
  have F8 : ∀ q, q < h.2.1 → ¬ NO q → h5.1 q = h.1 q := fun q q0 q1 => (e6f q (by omega)).trans ((fun _ _ _ => rfl) q q0 q1)
  refine q_blk (lv2 := [(0, vr v), (1, vi 0), (2, vi cnt), (3, vi (cnt - 0)), (4, vr t4)]) (st2 := [vr v, vi 0, vr t4, vi 0, vr v]) kJ7_copyOfRangeByte_39247_12 rfl ?_
  refine q_al eJ7_copyOfRangeByte_39247_20 k7 (by decide) ?_
  refine q_blk (lv2 := [(0, vr v), (1, vi 0), (2, vi cnt), (3, vi (cnt - 0)), (4, vr t4)]) (st2 := [vi (cnt - 0), vi (cap - 0), vi 0, vr t4, vi 0, vr v]) kJ7_copyOfRangeByte_39247_21 rfl ?_
  refine AQ.of (AS.mmin eJ7_copyOfRangeByte_39247_24 (by first | assumption | exact ⟨by omega, by omega⟩ | exact ⟨by decide, by decide⟩) (by first | assumption | exact ⟨by omega, by omega⟩ | exact ⟨by decide, by decide⟩) (am_gw 996 (by decide +kernel) (by decide +kernel)) (am_gw 570 (by decide +kernel) (by decide +kernel)) (am_gw 53 (by decide +kernel) (by decide +kernel)) (am_gw 571 (by decide +kernel) (by decide +kernel)) (by decide) (Nat.le_of_ble_eq_true rfl)) ?_
  obtain ⟨z9, e10⟩ : ∃ q : Int, q = (if (cnt - 0) < (cap - 0) then (cnt - 0) else (cap - 0)) := ⟨_, rfl⟩
  rw [← e10]
  rw [show z9 = cnt by rw [e10]; split <;> omega]
  refine q_ab eJ7_copyOfRangeByte_39247_27 (Or.inl rfl) (fun j j0 j1 => by have := hb j j0 j1; omega) k7 e6c (by omega) (by omega) (by omega) (by omega) (by omega) (am_gw 997 (by decide +kernel) (by decide +kernel)) (am_gw 454 (by decide +kernel) (by decide +kernel)) (am_gw 453 (by decide +kernel) (by decide +kernel)) (am_gw 57 (by decide +kernel) (by decide +kernel)) (by decide) (Nat.le_of_ble_eq_true rfl) (fun h11 e12 => ?_)
  have k13 := (am_ne e12 v (by omega)).trans k7
  have k14 := am_at e12
  have e12u : h11.2.1 = h5.2.1 := congrArg Prod.fst (am_z e12)
  have e12v : h11.2.2 = h5.2.2 := congrArg Prod.snd (am_z e12)
  have F15 : ∀ q, q < h.2.1 → ¬ NO q → h11.1 q = h.1 q := fun q q0 q1 => (am_ne e12 q (by omega)).trans (F8 q q0 q1)
  refine q_blk (lv2 := [(0, vr v), (1, vi 0), (2, vi cnt), (3, vi (cnt - 0)), (4, vr t4)]) (st2 := [vr t4]) kJ7_copyOfRangeByte_39247_30 rfl ?_
  exact q_rA rfl eJ7_copyOfRangeByte_39247_32 ⟨t4, rfl, ⟨by omega, by omega⟩, ⟨_, (by have k9 := k14; rw [Int.sub_zero] at k9; exact k9), fun j j0 j1 => by have := gm_cpy_i (f := fb) (g := am_Z) (dp := 0) (n := cnt) j0 j1; rw [Int.zero_add] at this; exact this⟩, ⟨F15, ⟨by omega, by omega⟩, by omega, by omega⟩⟩

set_option maxRecDepth 4000 in
set_option maxHeartbeats 1000000 in
theorem c_J7_copyOfRange {w : am_w} {h : AH} {v : Nat} {cap cnt : Int} {fb : Int → Int} (c1 : h.1 v = some (101, cap, fb, am_N)) (bv : v < h.2.1) (hb : ∀ j, 0 ≤ j → j < cap → 0 ≤ fb j ∧ fb j < 128) (l0 : 0 ≤ cnt ∧ cnt ≤ cap ∧ cap ≤ 3000)  : AE w m_J7_copyOfRange_39247 3 [vr v, vi 0, vi cnt] h (am_ref (fun q h1 => (h.2.1 ≤ q ∧ q < h1.2.1) ∧ (∃ f', h1.1 q = some (101, cnt, f', am_N) ∧ ∀ j, 0 ≤ j → j < cnt → f' j = fb j) ∧ KF h h1 NO 1 3000)) := by
  refine AE.of wf_J7_copyOfRange_39247 (Nat.le_of_ble_eq_true rfl) (am_ok_rA) ?_
  refine q_blk (lv2 := [(0, vr v), (1, vi 0), (2, vi cnt)]) (st2 := [vi 0]) kJ7_copyOfRange_39247_0 rfl ?_
  refine AQ.of (AS.if_ne_f eJ7_copyOfRange_39247_1 ⟨by decide, by decide⟩ (by decide) (by decide)) ?_
  refine q_blk (lv2 := [(0, vr v), (1, vi 0), (2, vi cnt)]) (st2 := [vr v, vi cnt]) kJ7_copyOfRange_39247_4 rfl ?_
  refine q_al eJ7_copyOfRange_39247_6 c1 (by decide) ?_
  refine AQ.ic_eq (tgt := 17) eJ7_copyOfRange_39247_7 (by decide) (by first | assumption | exact ⟨by omega, by omega⟩ | exact ⟨by decide, by decide⟩) (by first | assumption | exact ⟨by omega, by omega⟩ | exact ⟨by decide, by decide⟩) (fun br1 => ?_) (fun br1 => ?_)
  · skip
    refine q_blk (lv2 := [(0, vr v), (1, vi 0), (2, vi cnt)]) (st2 := [vr v]) kJ7_copyOfRange_39247_17 rfl ?_
    obtain ⟨t2, e4t⟩ : ∃ q : Nat, h.2.1 = q := ⟨_, rfl⟩
    refine q_cl e4t eJ7_copyOfRange_39247_18 c1 (fun j j0 j1 => by have := hb j j0 j1; omega) (am_gw 1344 (by decide +kernel) (by decide +kernel)) (am_gw 1345 (by decide +kernel) (by decide +kernel)) (am_gw 991 (by decide +kernel) (by decide +kernel)) (am_gw 992 (by decide +kernel) (by decide +kernel)) (am_gw 1346 (by decide +kernel) (by decide +kernel)) (am_nw 1347 (by decide +kernel) (by decide +kernel)) (by decide) (Nat.le_of_ble_eq_true rfl) (fun h3 e4c e4f e4z => ?_)
    have k5 := (e4f v (by omega)).trans c1
    have e4u : h3.2.1 = t2 + 1 := by rw [e4z]
    have e4v : h3.2.2 = h.2.2 + cap.toNat := by rw [e4z]
    have F6 : ∀ q, q < h.2.1 → ¬ NO q → h3.1 q = h.1 q := fun q q0 q1 => (e4f q (by omega)).trans ((fun _ _ _ => rfl) q q0 q1)
    refine AQ.of (AS.castB eJ7_copyOfRange_39247_21 e4c (am_gw 1348 (by decide +kernel) (by decide +kernel))) ?_
    exact q_rA rfl eJ7_copyOfRange_39247_24 ⟨t2, rfl, ⟨by omega, by omega⟩, ⟨fb, (by have k9 := e4c; rw [show cap = cnt by omega] at k9; exact k9), fun j _ _ => rfl⟩, ⟨F6, ⟨by omega, by omega⟩, by omega, by omega⟩⟩
  · skip
    refine q_blk (lv2 := [(0, vr v), (1, vi 0), (2, vi cnt)]) (st2 := [vi cnt, vi 0, vr v]) kJ7_copyOfRange_39247_10 rfl ?_
    refine AQ.callSr (av := [vr v, vi 0, vi cnt]) (st := []) (c_J7_copyOfRangeByte c1 bv hb l0) lk_RJ7_339 (by decide) rfl rfl (Nat.le_of_ble_eq_true rfl) eJ7_copyOfRange_39247_13 (fun z7 h9 e8 => ?_)
    exact q_rA rfl eJ7_copyOfRange_39247_16 ⟨z7, rfl, e8⟩

set_option maxRecDepth 4000 in
set_option maxHeartbeats 1000000 in
theorem c_J0_initB {w : am_w} {h : AH} {a s v : Nat} {cap cnt : Int} {fb : Int → Int} (hc : h.1 a = some (12, 4, am_L (List.replicate 4 0), am_G (List.replicate 4 none))) (hl : a < h.2.1) (hB : SBD h s v cap cnt fb)  : AE w m_J0_init_db425 4 [vr a, vr s, vn none] h (am_unit (fun h1 => (∃ t f' g, h1.1 a = some (12, 4, am_L [0, 0, 0, 0], am_G [some t, none, none, none]) ∧ h1.1 t = some (101, cnt, f', g) ∧ (∀ j, 0 ≤ j → j < cnt → f' j = fb j) ∧ h.2.1 ≤ t ∧ t < h1.2.1) ∧ KF h h1 (fun q => q = a) 1 3000)) := by
  refine AE.of wf_J0_init_db425 (Nat.le_of_ble_eq_true rfl) (am_ok_v) ?_
  have nsv := hB.ne
  obtain ⟨⟨bs, bv⟩, c0, c1, hn, hb⟩ := id hB
  have nas : a ≠ s := fun e => by rw [e, c0] at hc; cases hc
  have nav : a ≠ v := fun e => by rw [e, c1] at hc; cases hc
  refine q_blk (lv2 := [(0, vr a), (1, vr s), (2, vn none)]) (st2 := [vr a]) kJ0_init_db425_0 rfl ?_
  refine AQ.of (AS.objInit eJ0_init_db425_1 (am_gw 1441 (by decide +kernel) (by decide +kernel)) (am_gw 77 (by decide +kernel) (by decide +kernel)) (am_gw 78 (by decide +kernel) (by decide +kernel)) (by decide) (Nat.le_of_ble_eq_true rfl)) ?_
  refine q_blk (lv2 := [(0, vr a), (1, vr s), (2, vn none)]) (st2 := [vr s]) kJ0_init_db425_4 rfl ?_
  refine AQ.callUr (av := []) (st := []) (c_J5_getValue hB) lk_RJ0_552 (by decide) rfl rfl c0 (Nat.le_of_ble_eq_true rfl) eJ0_init_db425_5 (fun z1 h3 e2 => ?_)
  obtain ⟨e2, rfl⟩ := e2
  obtain rfl := e2.symm
  refine q_blk (lv2 := [(0, vr a), (1, vr s), (2, vn none), (3, vr v)]) (st2 := [vr s]) kJ0_init_db425_8 rfl ?_
  refine AQ.callUi (av := []) (st := []) (c_J4_length hB) lk_RJ0_549 (by decide) rfl rfl c0 (Nat.le_of_ble_eq_true rfl) eJ0_init_db425_10 (fun z4 h6 e5 => ?_)
  obtain ⟨e5, rfl⟩ := e5
  obtain rfl := e5.symm
  refine q_blk (lv2 := [(0, vr a), (1, vr s), (2, vn none), (3, vr v), (4, vi cnt)]) (st2 := [vr s]) kJ0_init_db425_13 rfl ?_
  refine AQ.callUi (av := []) (st := []) (c_J5_isLatin1 hB) lk_RJ0_1047 (by decide) rfl rfl c0 (Nat.le_of_ble_eq_true rfl) eJ0_init_db425_16 (fun z7 h9 e8 => ?_)
  obtain ⟨e8, rfl⟩ := e8
  obtain rfl : z7 = 1 := by rcases e8 with a | a; exact a.1; exact absurd trivial a.2
  refine AQ.of (AS.if_eq_f eJ0_init_db425_19 ⟨by decide, by decide⟩ (by decide) (by decide)) ?_
  refine q_blk (lv2 := [(0, vr a), (1, vr s), (2, vn none), (3, vr v), (4, vi cnt)]) (st2 := [vi 0, vr a]) kJ0_init_db425_22 rfl ?_
  refine q_pb eJ0_init_db425_24 fl_RJ0_15 (fun q hq => by cases hq; exact Or.inr ⟨rfl, rfl, (am_gw 1484 (by decide +kernel) (by decide +kernel))⟩) rfl ⟨by decide, by decide⟩ hc (Nat.le_of_ble_eq_true rfl) (l2 := [0, 0, 0, 0]) rfl (fun h10 e11 => ?_)
  have k12 := (am_ne e11 s (by omega)).trans c0
  have k13 := (am_ne e11 v (by omega)).trans c1
  have k14 := am_at e11
  have e11u : h10.2.1 = h.2.1 := congrArg Prod.fst (am_z e11)
  have e11v : h10.2.2 = h.2.2 := congrArg Prod.snd (am_z e11)
  have F15 : ∀ q, q < h.2.1 → ¬ (fun q => q = a) q → h10.1 q = h.1 q := fun q q0 q1 => (am_ne e11 q (fun c => q1 c)).trans ((fun _ _ _ => rfl) q q0 q1)
  refine q_blk (lv2 := [(0, vr a), (1, vr s), (2, vn none), (3, vr v), (4, vi cnt)]) (st2 := [vi cnt, vi 0, vr v, vr a]) kJ0_init_db425_27 rfl ?_
  refine AQ.callSr (av := [vr v, vi 0, vi cnt]) (st := [vr a]) (c_J7_copyOfRange k13 (by omega) hb ⟨by omega, by omega, by omega⟩) lk_RJ0_54 (by decide) rfl rfl (Nat.le_of_ble_eq_true rfl) eJ0_init_db425_32 (fun z16 h18 e17 => ?_)
  obtain ⟨⟨z16a, z16b⟩, ⟨f9, z16c, f9e⟩, g19f, ⟨g19a, g19b⟩, g19c, g19d⟩ := e17
  have k20 := (g19f s (by omega) (fun x => x)).trans k12
  have k21 := (g19f v (by omega) (fun x => x)).trans k13
  have k22 := (g19f a (by omega) (fun x => x)).trans k14
  have F23 : ∀ q, q < h.2.1 → ¬ (fun q => q = a) q → h18.1 q = h.1 q := fun q q0 q1 => (g19f q (by omega) (fun x => x)).trans (F15 q q0 q1)
  refine q_pr eJ0_init_db425_35 fl_RJ0_9 (fun q hq => by cases hq; exact Or.inr ⟨rfl, rfl, (am_gw 1483 (by decide +kernel) (by decide +kernel))⟩) (Or.inr ⟨_, rfl⟩) k22 (Nat.le_of_ble_eq_true rfl) (l2 := [some z16, none, none, none]) rfl (fun h24 e25 => ?_)
  have k26 := (am_ne e25 s (by omega)).trans k20
  have k27 := (am_ne e25 v (by omega)).trans k21
  have k28 := am_at e25
  have k29 := (am_ne e25 z16 (by omega)).trans z16c
  have e25u : h24.2.1 = h18.2.1 := congrArg Prod.fst (am_z e25)
  have e25v : h24.2.2 = h18.2.2 := congrArg Prod.snd (am_z e25)
  have F30 : ∀ q, q < h.2.1 → ¬ (fun q => q = a) q → h24.1 q = h.1 q := fun q q0 q1 => (am_ne e25 q (fun c => q1 c)).trans (F23 q q0 q1)
  refine q_goto (tgt := 97) eJ0_init_db425_38 (by decide) ?_
  exact q_rv rfl eJ0_init_db425_97 ⟨rfl, ⟨z16, f9, _, k28, k29, f9e, by omega, by omega⟩, ⟨F30, ⟨by omega, by omega⟩, by omega, by omega⟩⟩

set_option maxRecDepth 4000 in
set_option maxHeartbeats 1000000 in
theorem c_J0_initA {w : am_w} {h : AH} {a s v : Nat} {cap cnt : Int} {fb : Int → Int} (hc : h.1 a = some (12, 4, am_L (List.replicate 4 0), am_G (List.replicate 4 none))) (hl : a < h.2.1) (hB : SBD h s v cap cnt fb)  : AE w m_J0_init_81219 5 [vr a, vr s] h (am_unit (fun h1 => (∃ t f' g, h1.1 a = some (12, 4, am_L [0, 0, 0, 0], am_G [some t, none, none, none]) ∧ h1.1 t = some (101, cnt, f', g) ∧ (∀ j, 0 ≤ j → j < cnt → f' j = fb j) ∧ h.2.1 ≤ t ∧ t < h1.2.1) ∧ KF h h1 (fun q => q = a) 1 3000)) := by
  refine AE.of wf_J0_init_81219 (Nat.le_of_ble_eq_true rfl) (am_ok_v) ?_
  have nsv := hB.ne
  obtain ⟨⟨bs, bv⟩, c0, c1, hn, hb⟩ := id hB
  have nas : a ≠ s := fun e => by rw [e, c0] at hc; cases hc
  have nav : a ≠ v := fun e => by rw [e, c1] at hc; cases hc
  refine q_blk (lv2 := [(0, vr a), (1, vr s)]) (st2 := [vr s, vr a]) kJ0_init_81219_0 rfl ?_
  refine AQ.of (AS.null eJ0_init_81219_2) ?_
  refine AQ.callIv (av := [vr s, vn none]) (st := []) (c_J0_initB hc hl hB) lk_RJ0_489 (by decide) rfl rfl (Nat.le_of_ble_eq_true rfl) eJ0_init_81219_3 (fun h3 e2 => ?_)
  exact q_rv rfl eJ0_init_81219_6 ⟨rfl, e2⟩

set_option maxRecDepth 4000 in
set_option maxHeartbeats 1000000 in
theorem c_J4_toString {w : am_w} {h : AH} {s v : Nat} {cap cnt : Int} {fb : Int → Int} (hB : SBD h s v cap cnt fb) (hl : cnt ≤ 1000)  : AE w m_J4_toString_0e30d 6 [vr s] h (am_ref (fun q h1 => (∃ vq b, STR h1 q vq cnt b ∧ (∀ j, 0 ≤ j → j < cnt → b j = fb j) ∧ h.2.1 ≤ q ∧ h.2.1 ≤ vq) ∧ KF h h1 NO 2 3004)) := by
  refine AE.of wf_J4_toString_0e30d (Nat.le_of_ble_eq_true rfl) (am_ok_r) ?_
  have nsv := hB.ne
  obtain ⟨⟨bs, bv⟩, c0, c1, hn, hb⟩ := id hB
  obtain ⟨t1, e3t⟩ : ∃ q : Nat, h.2.1 = q := ⟨_, rfl⟩
  refine q_no (ci := 12) e3t eJ4_toString_0e30d_0 rfl (am_gw 1433 (by decide +kernel) (by decide +kernel)) (am_gw 1434 (by decide +kernel) (by decide +kernel)) in_RJ0 (fun h2 e3c e3f e3z => ?_)
  have k4 := (e3f s (by omega)).trans c0
  have k5 := (e3f v (by omega)).trans c1
  have e3u : h2.2.1 = t1 + 1 := by rw [e3z]
  have e3v : h2.2.2 = h.2.2 + 4 := by rw [e3z]
  have F6 : ∀ q, q < h.2.1 → ¬ NO q → h2.1 q = h.1 q := fun q q0 q1 => (e3f q (by omega)).trans ((fun _ _ _ => rfl) q q0 q1)
  refine q_blk (lv2 := [(0, vr s)]) (st2 := [vr s, vr t1, vr t1]) kJ4_toString_0e30d_3 rfl ?_
  have hB1 := hB.mv (h1 := h2) (by omega) (k4.trans c0.symm) (k5.trans c1.symm)
  refine AQ.callIv (av := [vr s]) (st := [vr t1]) (c_J0_initA e3c (by omega) hB1) lk_RJ4_137 (by decide) rfl rfl (Nat.le_of_ble_eq_true rfl) eJ4_toString_0e30d_5 (fun h9 e8 => ?_)
  obtain ⟨⟨t9, f9, g9, h9p, h9q, f9e, t9a, t9b⟩, g10f, ⟨g10a, g10b⟩, g10c, g10d⟩ := e8
  have k11 := (g10f s (by omega) (by show ¬ _ = _; omega)).trans k4
  have k12 := (g10f v (by omega) (by show ¬ _ = _; omega)).trans k5
  have F13 : ∀ q, q < h.2.1 → ¬ NO q → h9.1 q = h.1 q := fun q q0 q1 => (g10f q (by omega) (by show ¬ _ = _; omega)).trans (F6 q q0 q1)
  refine AQ.strw h9p rfl rfl (fun h14 e15 => ?_)
  have k16 := (am_ne e15 s (by omega)).trans k11
  have k17 := (am_ne e15 v (by omega)).trans k12
  have k18 := am_at e15
  have k19 := (am_ne e15 t9 (by omega)).trans h9q
  have e15u : h14.2.1 = h9.2.1 := congrArg Prod.fst (am_z e15)
  have e15v : h14.2.2 = h9.2.2 := congrArg Prod.snd (am_z e15)
  have F20 : ∀ q, q < h.2.1 → ¬ NO q → h14.1 q = h.1 q := fun q q0 q1 => (am_ne e15 q (by omega)).trans (F13 q q0 q1)
  exact q_ra rfl eJ4_toString_0e30d_8 ⟨t1, rfl, ⟨t9, f9, ⟨⟨by omega, by omega⟩, ⟨_, _, k18⟩, ⟨101, _, Or.inl rfl, k19⟩, ⟨by omega, by omega⟩, fun j j0 j1 => by rw [f9e j j0 j1]; exact hb j j0 (by omega)⟩, f9e, by omega, by omega⟩, ⟨F20, ⟨by omega, by omega⟩, by omega, by omega⟩⟩
