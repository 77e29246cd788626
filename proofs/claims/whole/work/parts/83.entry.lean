/-! The law: its entry. -/
theorem CCS.loc0 {h h1 : AH} {o u b a j t s r : Nat} {D cm : Int → Int} {sc : Nat} {L : GL} {tx : Int → Int} {bl le : Int} (k : CCS h o u b a j t s r D cm sc L tx bl le []) (f : ∀ q, o ≤ q → q < o + 256 → h1.1 q = h.1 q) (fs : h1.1 sc = h.1 sc) (so : sc < o) (l : h.2.1 ≤ h1.2.1) : CCS h1 o u b a j t s r D cm sc L tx bl le [] := by
  obtain ⟨⟨k1, k2, k3, k4, k5, k6, k7, k8⟩, c0, ⟨c1, x1⟩, c2, c3, ⟨v1, v2, v3, ⟨ci, fc, gc, w0, w1, w2⟩, v5, v6⟩, c5, c6, c7, ⟨kd, st, vl, tc, he, nu, px, cl, hs, er, ea, cd, ⟨t0, t1, t2, t3, t4, t5, t6, t7⟩, q1⟩, c9, c10, c11⟩ := k
  exact ⟨⟨k1, k2, k3, k4, k5, k6, k7, Nat.le_trans k8 l⟩, (f _ (by omega) (by omega)).trans c0, ⟨(f _ (by omega) (by omega)).trans c1, x1⟩, c2, c3.loc (fun q a b => f q (by omega) (by omega)) v1.2.2.2.1.2, ⟨v1, v2, v3, ⟨ci, fc, gc, w0, fs.trans w1, w2⟩, v5, Or.inl so⟩, c5.loc (fun q a b => f q (by omega) (by omega)), (f _ (by omega) (by omega)).trans c6, c7.loc (f _ (by omega) (by omega)), ⟨kd, st, vl, tc, he, nu, px, cl, hs, er, ea, cd, ⟨(f _ (by omega) (by omega)).trans t0, (f _ (by omega) (by omega)).trans t1, (f _ (by omega) (by omega)).trans t2, (f _ (by omega) (by omega)).trans t3, (f _ (by omega) (by omega)).trans t4, t5, (f _ (by omega) (by omega)).trans t6, t7.loc (f _ (by omega) (by omega))⟩, q1⟩, SCD.loc9 c9 (fun q a b => f q (by omega) (by omega)), c10.loc (fun q a b => f q (by omega) (by omega)), fun e he => absurd he List.not_mem_nil⟩
theorem gm_emp_22 : am_uI (am_uI am_Z 0 2) 1 2 = gm_emp 2 2 := by
  funext i
  unfold am_uI am_Z gm_emp
  split <;> split <;> first | rfl | omega
theorem j_entry {nm : String} {T : List (Nat × Nat × Nat × Nat)} {w : am_w} {h : AH} {o b : Nat} {len : Int} {g : Int → Int} (hb : ∃ G, h.1 b = some (110, len, g, G)) (hP : PLN w h o) (ho : h.2.1 = o) (bo : b < o) (l0 : 0 ≤ len ∧ len ≤ 3072) (hg : ∀ k, am_r (g k)) : AQ w (mL nm T) 24 0 [(0, vr b)] [] h (fun r h' => r = .inl (some (vi 1)) ∧ (h'.2.1 ≤ h.2.1 + 6500 ∧ h'.2.2 ≤ h.2.2 + 4960000)) := by
  obtain ⟨G, sb⟩ := hb
  refine q_no (ci := 7) ho eL_law_0 rfl (show Cond.classLink RL 8 RX8 ∈ GW from am_gw 113 (by decide +kernel) (by decide +kernel)) (am_gw 114 (by decide +kernel) (by decide +kernel)) in_RX8 (fun h1 c1 f1 z1 => ?_)
  refine q_blk (lv2 := [(0, vr b)]) (st2 := [vr o, vr o]) kL_law_3 rfl ?_
  have hP1 : PLN w h1 o := by
    obtain ⟨⟨ci, f, g9, c0, c1, c2⟩, k3⟩ := hP
    exact ⟨⟨ci, f, g9, c0, (f1 _ (by omega)).trans c1, c2⟩, k3⟩
  refine AQ.callIv (av := []) (st := [vr o]) (c_X8_init c1 (by rw [z1]) hP1) lk_RL_81 (by decide) rfl rfl (Nat.le_of_ble_eq_true rfl) eL_law_4 (fun h2 p2 => ?_)
  obtain ⟨k2, z2, f2⟩ := p2
  have t2 : h2.2.1 = o + 256 := by rw [z2]
  refine q_blk (lv2 := [(0, vr b), (1, vr o)]) (st2 := []) kL_law_7 rfl ?_
  refine q_no (ci := 8) t2 eL_law_8 rfl (show Cond.classLink RL 82 RX9 ∈ GW from am_gw 1176 (by decide +kernel) (by decide +kernel)) (am_gw 1177 (by decide +kernel) (by decide +kernel)) in_RX9 (fun h3 c3 f3 z3 => ?_)
  refine q_blk (lv2 := [(0, vr b), (1, vr o)]) (st2 := [vr (o + 256), vr (o + 256)]) kL_law_11 rfl ?_
  refine AQ.callIv (av := []) (st := [vr (o + 256)]) (c_X9_init c3 (by rw [z3])) lk_RL_84 (by decide) rfl rfl (Nat.le_of_ble_eq_true rfl) eL_law_12 (fun h4 p4 => ?_)
  obtain ⟨k4, z4, f4⟩ := p4
  have t4 : h4.2.1 = o + 270 := by rw [z4]
  refine q_blk (lv2 := [(0, vr b), (1, vr o), (2, vr (o + 256))]) (st2 := [vi 1]) kL_law_15 rfl ?_
  refine q_na (k := 102) 1 rfl t4 eL_law_17 (Or.inr (Or.inr ⟨rfl, rfl⟩)) (am_gw 1245 (by decide +kernel) (by decide +kernel)) (by decide) (by decide) (fun h5 c5 f5 z5 => ?_)
  refine q_blk (lv2 := [(0, vr b), (1, vr o), (2, vr (o + 256)), (3, vr (o + 270)), (4, vi 0)]) (st2 := []) kL_law_19 rfl ?_
  have lo : ∀ q, q < o + 256 → h5.1 q = h2.1 q := fun q hq => (f5 q (by omega)).trans ((f4 q (by omega)).trans (f3 q (by omega)))
  have lw : ∀ q, q < o → h5.1 q = h.1 q := fun q hq => (lo q (by omega)).trans ((f2 q hq).trans (f1 q (by omega)))
  have t5 : h5.2.1 = o + 271 := by rw [z5]
  have s5 : h5.2.2 ≤ h.2.2 + 30000 := by
    have e1 : h1.2.2 = h.2.2 + 9 := by rw [z1]
    have e2 : h2.2.2 = h1.2.2 + gm_slots := by rw [z2]
    have e3 : h3.2.2 = h2.2.2 + 20 := by rw [z3]
    have e4 : h4.2.2 = h3.2.2 + 17388 := by rw [z4]
    have e5 : h5.2.2 = h4.2.2 + 1 := by rw [z5]
    have e6 : gm_slots ≤ 8000 := by decide
    omega
  have hP5 : PLN w h5 o := by
    obtain ⟨⟨ci, f, g9, c0, c1, c2⟩, k3⟩ := hP
    exact ⟨⟨ci, f, g9, c0, (lw _ k3).trans c1, c2⟩, k3⟩
  have m5 : MA h5 (o + 256) 0 0 (-1) 0 am_Z (fun _ => am_Z) (gm_emp 2 2) := by
    rw [← gm_emp_22]
    exact k4.go fun q q0 q1 => f5 q (by omega)
  have k5 : CCS h5 o (o + 1) (o + 2) (o + 26) (o + 50) (o + 52) (o + 59) (o + 62) (gm_emp 2 2) am_Z (w.2 100) gm_pln am_Z 0 (-1) [] := k2.loc0 (fun q _ q1 => lo q q1) (lo _ (by have := hP.2; omega)) hP.2 (by rw [t2, t5]; omega)
  have J : JI w h5 o (o + 256) (o + 270) := ⟨gm_emp 2 2, am_Z, w.2 100, gm_pln, am_Z, 0, -1, [], am_Z, 0, 0, am_Z, fun _ => am_Z, ⟨k5, c5, by omega, hP5, Or.inl hP.2, fun e he => absurd he List.not_mem_nil, GV.emp, fun e he => absurd he List.not_mem_nil⟩, m5, BX.none, Or.inl ⟨rfl, rfl, rfl⟩, rfl, by decide, fun k e he => by simp at he⟩
  exact (j_loop J ⟨G, (lw b bo).trans sb⟩ bo l0 hg).mono fun r h' q => ⟨q.1, by omega, by omega⟩
