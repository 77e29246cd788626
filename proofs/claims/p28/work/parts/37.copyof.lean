/-! java/util/Arrays: what copies code. -/
def yXA_copyOf : MethodName := ⟨"java/util/Arrays", "copyOf", "([II)[I"⟩
abbrev cXA_copyOf : ByteArray := prog_38_method_123_code
abbrev m_XA_copyOf : YR := (yXA_copyOf, cXA_copyOf, 3, (some (FieldType.array FieldType.int)), [])
theorem wf_XA_copyOf : am_wf m_XA_copyOf := ⟨am_gw 988 (by decide +kernel) (by decide +kernel), by decide +kernel⟩
theorem in_RXA : Cond.initialized "java/util/Arrays" ∈ GW := am_gw 68 (by decide +kernel) (by decide +kernel)
theorem im_XA_copyOf : Cond.static yXA_copyOf ∈ GW := am_gw 987 (by decide +kernel) (by decide +kernel)
theorem lk_XA_copyOf : am_lk m_XA_copyOf 2 := ⟨wf_XA_copyOf, rfl, in_RXA, ⟨by decide +kernel, by decide +kernel⟩, by decide +kernel, by decide⟩
theorem lk_RX6_218 : am_lkS RX6 218 m_XA_copyOf 2 := ⟨lk_XA_copyOf, am_gw 986 (by decide +kernel) (by decide +kernel), im_XA_copyOf⟩
theorem kXA_copyOf_0 : am_dec cXA_copyOf 0 [.iload_n 1, .aload_n 0] 2 = true := by decide +kernel
theorem kXA_copyOf_14 : am_dec cXA_copyOf 14 [.iload_n 1] 15 = true := by decide +kernel
theorem kXA_copyOf_17 : am_dec cXA_copyOf 17 [.astore_n 2, .aload_n 0, .iconst 0, .aload_n 2, .iconst 0, .aload_n 0] 23 = true := by decide +kernel
theorem kXA_copyOf_24 : am_dec cXA_copyOf 24 [.iload_n 1] 25 = true := by decide +kernel
theorem kXA_copyOf_31 : am_dec cXA_copyOf 31 [.aload_n 2] 32 = true := by decide +kernel
theorem eXA_copyOf_2 : decode cXA_copyOf 2 = .ok (.arraylength, 1) := by decide +kernel
theorem eXA_copyOf_3 : decode cXA_copyOf 3 = .ok (.if_icmp .ne 11, 3) := by decide +kernel
theorem eXA_copyOf_15 : decode cXA_copyOf 15 = .ok (.newarray .int, 2) := by decide +kernel
theorem eXA_copyOf_23 : decode cXA_copyOf 23 = .ok (.arraylength, 1) := by decide +kernel
theorem eXA_copyOf_25 : decode cXA_copyOf 25 = .ok (.invokestatic 304, 3) := by decide +kernel
theorem eXA_copyOf_28 : decode cXA_copyOf 28 = .ok (.invokestatic 150, 3) := by decide +kernel
theorem eXA_copyOf_32 : decode cXA_copyOf 32 = .ok (.areturn, 1) := by decide +kernel
theorem am_ok_ra {P : Nat → AH → Prop} {X : FieldType} : ∀ v h', am_ref P (.inl v) h' → am_okr (some (.array X)) v := fun v h' ⟨z, e, _⟩ => by cases e; exact ⟨z, rfl⟩
theorem q_raA {w : am_w} {y : YR} {d pc q : Nat} {lv : List (Nat × AV)} {h : AH} {Q : RV → AH → Prop} {C : FieldType} (hr : y.2.2.2.1 = some (.array C)) (hd : decode y.2.1 pc = .ok (.areturn, 1)) (hq : Q (.inl (some (vr q))) h) : AQ w y d pc lv [vr q] h Q := AQ.ret (v := some (vr q)) (by rw [hr]; exact hd) (by rw [hr]; exact ⟨q, rfl⟩) hq
set_option maxHeartbeats 1000000 in
theorem c_XA_copyOf {w : am_w} {h : AH} {a : Nat} {f : Int → Int} (hc : h.1 a = some (100, 800, f, am_N)) (ha : a < h.2.1) {m : Int} (m0 : 0 ≤ m) (m1 : m < 800)  : AE w m_XA_copyOf 2 [vr a, vi m] h (am_ref (fun z h1 => z = h.2.1 ∧ h1.2 = (h.2.1 + 1, h.2.2 + m.toNat) ∧ (∃ g, h1.1 h.2.1 = some (100, m, g, am_N) ∧ ∀ k, 0 ≤ k → k < m → g k = f k) ∧ ∀ q, q ≠ h.2.1 → h1.1 q = h.1 q)) := by
  refine AE.of wf_XA_copyOf (Nat.le_of_ble_eq_true rfl) (am_ok_ra) ?_
  refine q_blk (lv2 := [(0, vr a), (1, vi m)]) (st2 := [vr a, vi m]) kXA_copyOf_0 rfl ?_
  refine q_al eXA_copyOf_2 hc (by decide) ?_
  refine AQ.of (AS.ic_ne_t (tgt := 14) eXA_copyOf_3 (by decide) (by first | assumption | exact ⟨by omega, by omega⟩) ⟨by decide, by decide⟩ (by omega)) ?_
  refine q_blk (lv2 := [(0, vr a), (1, vi m)]) (st2 := [vi m]) kXA_copyOf_14 rfl ?_
  refine AQ.of (AS.newA (k := 100) eXA_copyOf_15 (Or.inl ⟨rfl, rfl⟩) (am_gw 120 (by decide +kernel) (by decide +kernel)) (by omega) (by omega)) ?_
  have hn0 : (am_new h (100, m, fun _ => 0, fun _ => none) (Int.toNat m)).1 h.2.1 = some (100, m, fun _ => 0, am_N) := am_new_at h _ _
  have hn1 : (am_new h (100, m, fun _ => 0, fun _ => none) (Int.toNat m)).1 a = some (100, 800, f, am_N) := (if_neg (by omega)).trans hc
  refine q_blk (lv2 := [(0, vr a), (1, vi m), (2, vr h.2.1)]) (st2 := [vr a, vi 0, vr h.2.1, vi 0, vr a]) kXA_copyOf_17 rfl ?_
  refine q_al eXA_copyOf_23 hn1 (by decide) ?_
  refine q_blk (lv2 := [(0, vr a), (1, vi m), (2, vr h.2.1)]) (st2 := [vi m, vi 800, vi 0, vr h.2.1, vi 0, vr a]) kXA_copyOf_24 rfl ?_
  refine AQ.of (AS.mmin eXA_copyOf_25 ⟨by decide, by decide⟩ (by first | assumption | exact ⟨by omega, by omega⟩) (am_gw 996 (by decide +kernel) (by decide +kernel)) (am_gw 570 (by decide +kernel) (by decide +kernel)) (am_gw 53 (by decide +kernel) (by decide +kernel)) (am_gw 571 (by decide +kernel) (by decide +kernel)) (by decide) (Nat.le_of_ble_eq_true rfl)) ?_
  obtain ⟨z1, e2⟩ : ∃ q : Int, q = (if m < 800 then m else 800) := ⟨_, rfl⟩
  rw [← e2]
  refine q_ac eXA_copyOf_28 hn1 hn0 (by omega) (by omega) (by omega) (by omega) (by omega) (am_gw 997 (by decide +kernel) (by decide +kernel)) (am_gw 454 (by decide +kernel) (by decide +kernel)) (am_gw 453 (by decide +kernel) (by decide +kernel)) (am_gw 57 (by decide +kernel) (by decide +kernel)) (by decide) (Nat.le_of_ble_eq_true rfl) (fun h3 e4 => ?_)
  have k5 := (am_ne e4 a (by omega)).trans hn1
  have k6 := am_at e4
  refine q_blk (lv2 := [(0, vr a), (1, vi m), (2, vr h.2.1)]) (st2 := [vr h.2.1]) kXA_copyOf_31 rfl ?_
  exact q_raA rfl eXA_copyOf_32 ⟨h.2.1, rfl, rfl, (am_z e4).trans rfl, ⟨_, k6, fun k k0 k1 => by unfold am_cpy; rw [if_pos (by omega), show 0 + (k - 0) = k by omega]⟩, fun q hq => (am_ne e4 q hq).trans (if_neg hq)⟩
