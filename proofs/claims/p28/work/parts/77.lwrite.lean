/-! The law's text: words and numbers. -/
theorem lkJ_RL_23 : am_lkV RL 23 m_J0_length_8abf5 0 := lk_RL_23
theorem lkJ_RL_29 : am_lkV RL 29 m_J0_charAt_5068e 1 := lk_RL_29
theorem gx_take {Y : List Int} {k : Int} (k0 : 0 ≤ k) (k1 : k < Y.length) : Y.take (k + 1).toNat = Y.take k.toNat ++ [gx_z Y k] := by
  obtain ⟨n, rfl⟩ := Int.eq_ofNat_of_zero_le k0
  have l : n < Y.length := by omega
  rw [show ((n : Int) + 1).toNat = n + 1 by omega, show (n : Int).toNat = n by omega, List.take_add_one, List.getElem?_eq_getElem l]
  unfold gx_z
  rw [List.getD_eq_getElem?_getD, show (n : Int).toNat = n by omega, List.getElem?_eq_getElem l]
  rfl
theorem gx_ch {Y : List Int} {b : Int → Int} (hb : ∀ (k : Nat) (c : Int), Y[k]? = some c → b k = c) {k : Int} (k0 : 0 ≤ k) (k1 : k < Y.length) : b k = gx_z Y k := by
  obtain ⟨n, rfl⟩ := Int.eq_ofNat_of_zero_le k0
  have l : n < Y.length := by omega
  unfold gx_z
  rw [List.getD_eq_getElem?_getD, show (n : Int).toNat = n by omega, List.getElem?_eq_getElem l]
  exact hb n _ (List.getElem?_eq_getElem l)
/-- the numbers, each after a space -/
def gx_nums (f : Int → Int) : Nat → List Int
  | 0 => []
  | n + 1 => gx_nums f n ++ (32 :: gm_dl (f n))
theorem gx_nums_s {f : Int → Int} {k : Int} (k0 : 0 ≤ k) : gx_nums f (k + 1).toNat = gx_nums f k.toNat ++ (32 :: gm_dl (f k)) := by
  obtain ⟨n, rfl⟩ := Int.eq_ofNat_of_zero_le k0
  rfl
theorem gm_dl_2 {n : Int} (n0 : 0 ≤ n) (n1 : n < 100) : (gm_dl n).length ≤ 2 := by
  unfold gm_dl
  split
  · exact (by decide : 1 ≤ 2)
  · first | exact Nat.le_refl 2 | (rw [if_pos (by omega)]; exact Nat.le_refl 2)
theorem gx_nums_l {f : Int → Int} : ∀ {n : Nat}, (∀ k : Int, 0 ≤ k → k < n → 0 ≤ f k ∧ f k < 100) → (gx_nums f n).length ≤ 3 * n
  | 0, _ => Nat.le_refl _
  | n + 1, h => by
    have a := gx_nums_l (n := n) fun k k0 k1 => h k k0 (by omega)
    have b := h n (by omega) (by omega)
    have c := gm_dl_2 b.1 b.2
    show (gx_nums f n ++ (32 :: gm_dl (f n))).length ≤ _
    rw [List.length_append, List.length_cons]
    omega

set_option maxRecDepth 4000 in
set_option maxHeartbeats 1000000 in
theorem c_L_write {w : am_w} {h : AH} {o bu : Nat} {D cm : Int → Int} {sc : Nat} {L : GL} {le : Int} {Hs : List GE} {Z : List Int} (hT : TXS w h o bu D cm sc L le Hs Z) {q vq : Nat} {Y : List Int} (hS : STL h q vq Y) (nq : ¬ (o ≤ q ∧ q < o + 256)) (nv : ¬ (o ≤ vq ∧ vq < o + 256)) (hl : (Z.length : Int) + Y.length < 780)  : AE w m_L_write 10 [vr o, vr bu, vr q] h (am_unit (fun h1 => TXS w h1 o bu D cm sc L le Hs (Z ++ Y) ∧ KF h h1 (fun q => (o ≤ q ∧ q < o + 256) ∨ q = bu) 0 0)) := by
  refine AE.of wf_L_write (Nat.le_of_ble_eq_true rfl) (am_ok_v) ?_
  obtain ⟨⟨tx9, L9, -⟩, ⟨fb9, d9, -⟩, -, -⟩ := id hT
  obtain ⟨C9, -, ⟨b0, b1⟩, -⟩ := id L9
  have e8 := C9.1.2.2.2.2.2.2.2
  have nqb : q ≠ bu := fun e => by obtain ⟨b, ⟨-, ⟨nn, ff, c⟩, -⟩, -⟩ := id hS; rw [e, d9] at c; cases c
  have nvb : vq ≠ bu := fun e => by obtain ⟨b, ⟨-, -, ⟨ci, g, k, c⟩, -⟩, -⟩ := id hS; rw [e, d9] at c; have k9 : 100 = ci := congrArg Prod.fst (Option.some.inj c); omega
  refine q_blk (lv2 := [(0, vr o), (1, vr bu), (2, vr q), (3, vi 0)]) (st2 := []) kL_write_0 rfl ?_
  refine am_lp2 (I := fun (k : Int) (hh : AH) => (0 ≤ k ∧ k ≤ Y.length) ∧ TXS w hh o bu D cm sc L le Hs (Z ++ Y.take k.toNat) ∧ STL hh q vq Y ∧ KF h hh (fun q => (o ≤ q ∧ q < o + 256) ∨ q = bu) 0 0) (μ := fun (k : Int) (hh : AH) => ((Y.length : Int) - k).toNat) (G := fun (k : Int) (hh : AH) => AQ w m_L_write 10 2 [(0, vr o), (1, vr bu), (2, vr q), (3, vi k)] [] hh (am_unit (fun h1 => TXS w h1 o bu D cm sc L le Hs (Z ++ Y) ∧ KF h h1 (fun q => (o ≤ q ∧ q < o + 256) ∨ q = bu) 0 0))) ?_ 0 h (⟨⟨by omega, by omega⟩, (by rw [show (0 : Int).toNat = 0 from rfl, List.take_zero, List.append_nil]; exact hT), hS, KF.rf⟩)
  intro k hh hI2 ih1
  obtain ⟨⟨k0, k1⟩, hT9, hS9, kfF, ⟨kfa, kfb⟩, kfc, kfd⟩ := hI2
  obtain ⟨b, S9, hb⟩ := id hS9
  obtain ⟨⟨bq, bvq⟩, ⟨nn, ff, c0⟩, ⟨ci, gv, hci, c1⟩, hn, hr⟩ := id S9
  refine q_blk (lv2 := [(0, vr o), (1, vr bu), (2, vr q), (3, vi k)]) (st2 := [vr q, vi k]) kL_write_2 rfl ?_
  refine AQ.callYi (av := []) (st := [vi k]) (c_J0_length S9) lkJ_RL_23 (by decide) rfl rfl c0 rfl (Nat.le_of_ble_eq_true rfl) eL_write_4 (fun z3 h5 e4 => ?_)
  obtain ⟨e4, rfl⟩ := e4
  obtain rfl := e4.symm
  refine AQ.ic_ge (tgt := 26) eL_write_7 (by decide) (by first | assumption | exact ⟨by omega, by omega⟩ | exact ⟨by decide, by decide⟩) (by first | assumption | exact ⟨by omega, by omega⟩ | exact ⟨by decide, by decide⟩) (fun br6 => ?_) (fun br6 => ?_)
  · skip
    exact q_rv rfl eL_write_26 ⟨rfl, (by rw [show k.toNat = Y.length by omega, List.take_length] at hT9; exact hT9), ⟨kfF, ⟨by omega, by omega⟩, by omega, by omega⟩⟩
  · skip
    refine q_blk (lv2 := [(0, vr o), (1, vr bu), (2, vr q), (3, vi k)]) (st2 := [vi k, vr q, vr bu, vr o]) kL_write_10 rfl ?_
    refine AQ.callYi (av := [vi k]) (st := [vr bu, vr o]) (c_J0_charAt S9 (j := k) (by omega) (by omega)) lkJ_RL_29 (by decide) rfl rfl c0 rfl (Nat.le_of_ble_eq_true rfl) eL_write_14 (fun z7 h9 e8 => ?_)
    obtain ⟨e8, rfl⟩ := e8
    obtain rfl := e8.symm
    have hr9 := hr k k0 (by omega)
    refine AQ.callSv (av := [vr o, vr bu, vi (b k)]) (st := []) (c_L_put hT9 (c := (b k)) ⟨by omega, by omega⟩ (by rw [List.length_append, List.length_take]; omega)) lk_RL_33 (by decide) rfl rfl (Nat.le_of_ble_eq_true rfl) eL_write_17 (fun h12 e11 => ?_)
    obtain ⟨h12T, g13f, ⟨g13a, g13b⟩, g13c, g13d⟩ := e11
    have k14 := (g13f q (by omega) (fun c => c.elim nq (fun z => nqb z))).trans c0
    have k15 := (g13f vq (by omega) (fun c => c.elim nv (fun z => nvb z))).trans c1
    have F16 : ∀ q, q < h.2.1 → ¬ (fun q => (o ≤ q ∧ q < o + 256) ∨ q = bu) q → h12.1 q = h.1 q := fun q q0 q1 => (g13f q (by omega) q1).trans (kfF q q0 q1)
    refine q_blk (lv2 := [(0, vr o), (1, vr bu), (2, vr q), (3, vi (k + 1))]) (st2 := []) kL_write_20 rfl ?_
    refine q_goto (tgt := 2) eL_write_23 (by decide) ?_
    exact ih1 (k + 1) h12 (⟨⟨by omega, by omega⟩, (by rw [gx_take k0 (by omega), ← gx_ch hb k0 (by omega), ← List.append_assoc]; exact h12T), hS9.mv (by omega) (k14.trans c0.symm) (k15.trans c1.symm), ⟨F16, ⟨by omega, by omega⟩, by omega, by omega⟩⟩) (by omega)

set_option maxRecDepth 4000 in
set_option maxHeartbeats 1000000 in
theorem c_L_wn1 {w : am_w} {h : AH} {o bu : Nat} {D cm : Int → Int} {sc : Nat} {L : GL} {le : Int} {Hs : List GE} {Z : List Int} (hT : TXS w h o bu D cm sc L le Hs Z) {n : Int} (n0 : 0 ≤ n) (n1 : n < 10) (hl : (Z.length : Int) + 2 < 780)  : AE w m_L_writeNumber 9 [vr o, vr bu, vi n] h (am_unit (fun h1 => TXS w h1 o bu D cm sc L le Hs (Z ++ gm_dl n) ∧ KF h h1 (fun q => (o ≤ q ∧ q < o + 256) ∨ q = bu) 0 0)) := by
  refine AE.of wf_L_writeNumber (Nat.le_of_ble_eq_true rfl) (am_ok_v) ?_
  obtain ⟨⟨tx9, L9, -⟩, ⟨fb9, d9, -⟩, -, -⟩ := id hT
  obtain ⟨C9, -, ⟨b0, b1⟩, -⟩ := id L9
  have e8 := C9.1.2.2.2.2.2.2.2
  refine q_blk (lv2 := [(0, vr o), (1, vr bu), (2, vi n), (3, vi 1)]) (st2 := []) kL_writeNumber_0 rfl ?_
  refine q_blk (lv2 := [(0, vr o), (1, vr bu), (2, vi n), (3, vi 1)]) (st2 := [vi 10, vi n, vi 1]) kL_writeNumber_2 rfl ?_
  refine AQ.of (AS.idiv eL_writeNumber_6 (by first | assumption | exact ⟨by omega, by omega⟩ | exact ⟨by decide, by decide⟩) ⟨by decide, by decide⟩ (by omega)) ?_
  rw [show (Int.tdiv n 10) = (n / 10) from Int.tdiv_eq_ediv_of_nonneg (by omega)]
  refine AQ.of (AS.ic_gt_t (tgt := 18) eL_writeNumber_7 (by decide) ⟨by decide, by decide⟩ (by first | assumption | exact ⟨by omega, by omega⟩ | exact ⟨by decide, by decide⟩) (by omega)) ?_
  refine q_blk (lv2 := [(0, vr o), (1, vr bu), (2, vi n), (3, vi 1)]) (st2 := [vi 1]) kL_writeNumber_18 rfl ?_
  refine AQ.of (AS.if_le_f eL_writeNumber_19 ⟨by decide, by decide⟩ (by decide) (by decide)) ?_
  refine q_blk (lv2 := [(0, vr o), (1, vr bu), (2, vi n), (3, vi 1)]) (st2 := [vi 1, vi n, vi 48, vr bu, vr o]) kL_writeNumber_22 rfl ?_
  refine AQ.of (AS.idiv eL_writeNumber_28 (by first | assumption | exact ⟨by omega, by omega⟩ | exact ⟨by decide, by decide⟩) ⟨by decide, by decide⟩ (by omega)) ?_
  rw [show (Int.tdiv n 1) = n from Int.tdiv_one n]
  refine q_blk (lv2 := [(0, vr o), (1, vr bu), (2, vi n), (3, vi 1)]) (st2 := [vi 10, vi n, vi 48, vr bu, vr o]) kL_writeNumber_29 rfl ?_
  refine AQ.of (AS.irem eL_writeNumber_31 (by first | assumption | exact ⟨by omega, by omega⟩ | exact ⟨by decide, by decide⟩) ⟨by decide, by decide⟩ (by omega)) ?_
  rw [show (Int.tmod n 10) = (n % 10) from Int.tmod_eq_emod_of_nonneg (by omega)]
  refine q_blk (lv2 := [(0, vr o), (1, vr bu), (2, vi n), (3, vi 1)]) (st2 := [vi (48 + (n % 10)), vr bu, vr o]) kL_writeNumber_32 rfl ?_
  refine AQ.callSv (av := [vr o, vr bu, vi (48 + (n % 10))]) (st := []) (c_L_put hT (c := (48 + (n % 10))) ⟨by omega, by omega⟩ (by omega)) lk_RL_33 (by decide) rfl rfl (Nat.le_of_ble_eq_true rfl) eL_writeNumber_33 (fun h3 e2 => ?_)
  obtain ⟨h3T, g4f, ⟨g4a, g4b⟩, g4c, g4d⟩ := e2
  have F5 : ∀ q, q < h.2.1 → ¬ (fun q => (o ≤ q ∧ q < o + 256) ∨ q = bu) q → h3.1 q = h.1 q := fun q q0 q1 => (g4f q (by omega) q1).trans ((fun _ _ _ => rfl) q q0 q1)
  refine q_blk (lv2 := [(0, vr o), (1, vr bu), (2, vi n), (3, vi 1)]) (st2 := [vi 10, vi 1]) kL_writeNumber_36 rfl ?_
  refine AQ.of (AS.idiv eL_writeNumber_39 ⟨by decide, by decide⟩ ⟨by decide, by decide⟩ (by omega)) ?_
  rw [show (Int.tdiv 1 10) = 0 from rfl]
  refine q_blk (lv2 := [(0, vr o), (1, vr bu), (2, vi n), (3, vi 0)]) (st2 := []) kL_writeNumber_40 rfl ?_
  refine q_goto (tgt := 18) eL_writeNumber_41 (by decide) ?_
  refine q_blk (lv2 := [(0, vr o), (1, vr bu), (2, vi n), (3, vi 0)]) (st2 := [vi 0]) kL_writeNumber_18 rfl ?_
  refine AQ.of (AS.if_le_t (tgt := 44) eL_writeNumber_19 (by decide) ⟨by decide, by decide⟩ (by decide)) ?_
  exact q_rv rfl eL_writeNumber_44 ⟨rfl, (by unfold gm_dl; rw [if_pos (by omega)]; have t9 := h3T; rw [show 48 + n % 10 = 48 + n by omega] at t9; exact t9), ⟨F5, ⟨by omega, by omega⟩, by omega, by omega⟩⟩

set_option maxRecDepth 4000 in
set_option maxHeartbeats 1000000 in
theorem c_L_wn2 {w : am_w} {h : AH} {o bu : Nat} {D cm : Int → Int} {sc : Nat} {L : GL} {le : Int} {Hs : List GE} {Z : List Int} (hT : TXS w h o bu D cm sc L le Hs Z) {n : Int} (n0 : 10 ≤ n) (n1 : n < 100) (hl : (Z.length : Int) + 2 < 780)  : AE w m_L_writeNumber 9 [vr o, vr bu, vi n] h (am_unit (fun h1 => TXS w h1 o bu D cm sc L le Hs (Z ++ gm_dl n) ∧ KF h h1 (fun q => (o ≤ q ∧ q < o + 256) ∨ q = bu) 0 0)) := by
  refine AE.of wf_L_writeNumber (Nat.le_of_ble_eq_true rfl) (am_ok_v) ?_
  obtain ⟨⟨tx9, L9, -⟩, ⟨fb9, d9, -⟩, -, -⟩ := id hT
  obtain ⟨C9, -, ⟨b0, b1⟩, -⟩ := id L9
  have e8 := C9.1.2.2.2.2.2.2.2
  refine q_blk (lv2 := [(0, vr o), (1, vr bu), (2, vi n), (3, vi 1)]) (st2 := []) kL_writeNumber_0 rfl ?_
  refine q_blk (lv2 := [(0, vr o), (1, vr bu), (2, vi n), (3, vi 1)]) (st2 := [vi 10, vi n, vi 1]) kL_writeNumber_2 rfl ?_
  refine AQ.of (AS.idiv eL_writeNumber_6 (by first | assumption | exact ⟨by omega, by omega⟩ | exact ⟨by decide, by decide⟩) ⟨by decide, by decide⟩ (by omega)) ?_
  rw [show (Int.tdiv n 10) = (n / 10) from Int.tdiv_eq_ediv_of_nonneg (by omega)]
  refine AQ.of (AS.ic_gt_f eL_writeNumber_7 ⟨by decide, by decide⟩ (by first | assumption | exact ⟨by omega, by omega⟩ | exact ⟨by decide, by decide⟩) (by omega) (by decide)) ?_
  refine q_blk (lv2 := [(0, vr o), (1, vr bu), (2, vi n), (3, vi (1 * 10))]) (st2 := []) kL_writeNumber_10 rfl ?_
  rw [show (1 : Int) * 10 = 10 from rfl]
  refine q_goto (tgt := 2) eL_writeNumber_15 (by decide) ?_
  refine q_blk (lv2 := [(0, vr o), (1, vr bu), (2, vi n), (3, vi 10)]) (st2 := [vi 10, vi n, vi 10]) kL_writeNumber_2 rfl ?_
  refine AQ.of (AS.idiv eL_writeNumber_6 (by first | assumption | exact ⟨by omega, by omega⟩ | exact ⟨by decide, by decide⟩) ⟨by decide, by decide⟩ (by omega)) ?_
  rw [show (Int.tdiv n 10) = (n / 10) from Int.tdiv_eq_ediv_of_nonneg (by omega)]
  refine AQ.of (AS.ic_gt_t (tgt := 18) eL_writeNumber_7 (by decide) ⟨by decide, by decide⟩ (by first | assumption | exact ⟨by omega, by omega⟩ | exact ⟨by decide, by decide⟩) (by omega)) ?_
  refine q_blk (lv2 := [(0, vr o), (1, vr bu), (2, vi n), (3, vi 10)]) (st2 := [vi 10]) kL_writeNumber_18 rfl ?_
  refine AQ.of (AS.if_le_f eL_writeNumber_19 ⟨by decide, by decide⟩ (by decide) (by decide)) ?_
  refine q_blk (lv2 := [(0, vr o), (1, vr bu), (2, vi n), (3, vi 10)]) (st2 := [vi 10, vi n, vi 48, vr bu, vr o]) kL_writeNumber_22 rfl ?_
  refine AQ.of (AS.idiv eL_writeNumber_28 (by first | assumption | exact ⟨by omega, by omega⟩ | exact ⟨by decide, by decide⟩) ⟨by decide, by decide⟩ (by omega)) ?_
  rw [show (Int.tdiv n 10) = (n / 10) from Int.tdiv_eq_ediv_of_nonneg (by omega)]
  refine q_blk (lv2 := [(0, vr o), (1, vr bu), (2, vi n), (3, vi 10)]) (st2 := [vi 10, vi (n / 10), vi 48, vr bu, vr o]) kL_writeNumber_29 rfl ?_
  refine AQ.of (AS.irem eL_writeNumber_31 (by first | assumption | exact ⟨by omega, by omega⟩ | exact ⟨by decide, by decide⟩) ⟨by decide, by decide⟩ (by omega)) ?_
  rw [show (Int.tmod (n / 10) 10) = ((n / 10) % 10) from Int.tmod_eq_emod_of_nonneg (by omega)]
  refine q_blk (lv2 := [(0, vr o), (1, vr bu), (2, vi n), (3, vi 10)]) (st2 := [vi (48 + ((n / 10) % 10)), vr bu, vr o]) kL_writeNumber_32 rfl ?_
  refine AQ.callSv (av := [vr o, vr bu, vi (48 + ((n / 10) % 10))]) (st := []) (c_L_put hT (c := (48 + ((n / 10) % 10))) ⟨by omega, by omega⟩ (by omega)) lk_RL_33 (by decide) rfl rfl (Nat.le_of_ble_eq_true rfl) eL_writeNumber_33 (fun h3 e2 => ?_)
  obtain ⟨h3T, g4f, ⟨g4a, g4b⟩, g4c, g4d⟩ := e2
  have F5 : ∀ q, q < h.2.1 → ¬ (fun q => (o ≤ q ∧ q < o + 256) ∨ q = bu) q → h3.1 q = h.1 q := fun q q0 q1 => (g4f q (by omega) q1).trans ((fun _ _ _ => rfl) q q0 q1)
  refine q_blk (lv2 := [(0, vr o), (1, vr bu), (2, vi n), (3, vi 10)]) (st2 := [vi 10, vi 10]) kL_writeNumber_36 rfl ?_
  refine AQ.of (AS.idiv eL_writeNumber_39 ⟨by decide, by decide⟩ ⟨by decide, by decide⟩ (by omega)) ?_
  rw [show (Int.tdiv 10 10) = 1 from rfl]
  refine q_blk (lv2 := [(0, vr o), (1, vr bu), (2, vi n), (3, vi 1)]) (st2 := []) kL_writeNumber_40 rfl ?_
  refine q_goto (tgt := 18) eL_writeNumber_41 (by decide) ?_
  refine q_blk (lv2 := [(0, vr o), (1, vr bu), (2, vi n), (3, vi 1)]) (st2 := [vi 1]) kL_writeNumber_18 rfl ?_
  refine AQ.of (AS.if_le_f eL_writeNumber_19 ⟨by decide, by decide⟩ (by decide) (by decide)) ?_
  refine q_blk (lv2 := [(0, vr o), (1, vr bu), (2, vi n), (3, vi 1)]) (st2 := [vi 1, vi n, vi 48, vr bu, vr o]) kL_writeNumber_22 rfl ?_
  refine AQ.of (AS.idiv eL_writeNumber_28 (by first | assumption | exact ⟨by omega, by omega⟩ | exact ⟨by decide, by decide⟩) ⟨by decide, by decide⟩ (by omega)) ?_
  rw [show (Int.tdiv n 1) = n from Int.tdiv_one n]
  refine q_blk (lv2 := [(0, vr o), (1, vr bu), (2, vi n), (3, vi 1)]) (st2 := [vi 10, vi n, vi 48, vr bu, vr o]) kL_writeNumber_29 rfl ?_
  refine AQ.of (AS.irem eL_writeNumber_31 (by first | assumption | exact ⟨by omega, by omega⟩ | exact ⟨by decide, by decide⟩) ⟨by decide, by decide⟩ (by omega)) ?_
  rw [show (Int.tmod n 10) = (n % 10) from Int.tmod_eq_emod_of_nonneg (by omega)]
  refine q_blk (lv2 := [(0, vr o), (1, vr bu), (2, vi n), (3, vi 1)]) (st2 := [vi (48 + (n % 10)), vr bu, vr o]) kL_writeNumber_32 rfl ?_
  refine AQ.callSv (av := [vr o, vr bu, vi (48 + (n % 10))]) (st := []) (c_L_put h3T (c := (48 + (n % 10))) ⟨by omega, by omega⟩ (by rw [List.length_append]; show ((Z.length + 1 : Nat) : Int) + 1 < 780; omega)) lk_RL_33 (by decide) rfl rfl (Nat.le_of_ble_eq_true rfl) eL_writeNumber_33 (fun h8 e7 => ?_)
  obtain ⟨h8T, g9f, ⟨g9a, g9b⟩, g9c, g9d⟩ := e7
  have F10 : ∀ q, q < h.2.1 → ¬ (fun q => (o ≤ q ∧ q < o + 256) ∨ q = bu) q → h8.1 q = h.1 q := fun q q0 q1 => (g9f q (by omega) q1).trans (F5 q q0 q1)
  refine q_blk (lv2 := [(0, vr o), (1, vr bu), (2, vi n), (3, vi 1)]) (st2 := [vi 10, vi 1]) kL_writeNumber_36 rfl ?_
  refine AQ.of (AS.idiv eL_writeNumber_39 ⟨by decide, by decide⟩ ⟨by decide, by decide⟩ (by omega)) ?_
  rw [show (Int.tdiv 1 10) = 0 from rfl]
  refine q_blk (lv2 := [(0, vr o), (1, vr bu), (2, vi n), (3, vi 0)]) (st2 := []) kL_writeNumber_40 rfl ?_
  refine q_goto (tgt := 18) eL_writeNumber_41 (by decide) ?_
  refine q_blk (lv2 := [(0, vr o), (1, vr bu), (2, vi n), (3, vi 0)]) (st2 := [vi 0]) kL_writeNumber_18 rfl ?_
  refine AQ.of (AS.if_le_t (tgt := 44) eL_writeNumber_19 (by decide) ⟨by decide, by decide⟩ (by decide)) ?_
  exact q_rv rfl eL_writeNumber_44 ⟨rfl, (by unfold gm_dl; rw [if_neg (by omega), if_pos (by omega)]; have t9 := h8T; rw [show 48 + n / 10 % 10 = 48 + n / 10 by omega, List.append_assoc] at t9; exact t9), ⟨F10, ⟨by omega, by omega⟩, by omega, by omega⟩⟩

theorem c_L_writeNumber {w : am_w} {h : AH} {o bu : Nat} {D cm : Int → Int} {sc : Nat} {L : GL} {le : Int} {Hs : List GE} {Z : List Int} (hT : TXS w h o bu D cm sc L le Hs Z) {n : Int} (n0 : 0 ≤ n) (n1 : n < 100) (hl : (Z.length : Int) + 2 < 780) : AE w m_L_writeNumber 9 [vr o, vr bu, vi n] h (am_unit (fun h1 => TXS w h1 o bu D cm sc L le Hs (Z ++ gm_dl n) ∧ KF h h1 (fun q => (o ≤ q ∧ q < o + 256) ∨ q = bu) 0 0)) := by
  by_cases a : n < 10
  · exact c_L_wn1 hT n0 a hl
  · exact c_L_wn2 hT (by omega) n1 hl

set_option maxRecDepth 4000 in
set_option maxHeartbeats 4000000 in
theorem c_L_writeNumbers {w : am_w} {h : AH} {o bu : Nat} {D cm : Int → Int} {sc : Nat} {L : GL} {le : Int} {Hs : List GE} {Z : List Int} (hT : TXS w h o bu D cm sc L le Hs Z) {na : Nat} {nc : Int} {f : Int → Int} (cn : h.1 na = some (100, nc, f, am_N)) (bn : na < h.2.1) (nn1 : ¬ (o ≤ na ∧ na < o + 256)) (nn2 : na ≠ bu) (hc : 0 ≤ nc ∧ nc ≤ 20) (hf : ∀ k, 0 ≤ k → k < nc → 0 ≤ f k ∧ f k < 100) {q vq : Nat} {Y : List Int} (hS : STL h q vq Y) (nq : ¬ (o ≤ q ∧ q < o + 256)) (nv : ¬ (o ≤ vq ∧ vq < o + 256)) (hl : (Z.length : Int) + Y.length + 3 * nc + 10 < 780) {bs : Nat} (hW : TXW w h bs) (hbo : bs ≤ o)  : AE w m_L_writeNumbers 11 [vr o, vr bu, vr q, vr na] h (am_unit (fun h1 => TXS w h1 o bu D cm sc L le Hs (Z ++ Y ++ gx_nums f nc.toNat) ∧ KF h h1 (fun q => (o ≤ q ∧ q < o + 256) ∨ q = bu) 0 0)) := by
  refine AE.of wf_L_writeNumbers (Nat.le_of_ble_eq_true rfl) (am_ok_v) ?_
  obtain ⟨⟨tx9, L9, -⟩, ⟨fb9, d9, -⟩, -, -⟩ := id hT
  obtain ⟨C9, -, ⟨b0, b1⟩, -⟩ := id L9
  have e8 := C9.1.2.2.2.2.2.2.2
  have nqb : q ≠ bu := fun e => by obtain ⟨b, ⟨-, ⟨nn, ff, c⟩, -⟩, -⟩ := id hS; rw [e, d9] at c; cases c
  have nvb : vq ≠ bu := fun e => by obtain ⟨b, ⟨-, -, ⟨ci, g, k, c⟩, -⟩, -⟩ := id hS; rw [e, d9] at c; have k9 : 100 = ci := congrArg Prod.fst (Option.some.inj c); omega
  have hsb := hS.b.1
  have hsb1 := hsb.1
  have hsb2 := hsb.2
  have l19 := hW.2.1.st (i := 19) hW.1 (by decide)
  have l19b := (hW.2.1 19 (by decide)).1
  have l19c := l19b.1
  have l19d := l19b.2
  have a19 : am_len 19 = 1 := rfl
  have hbs := hW.1
  refine q_blk (lv2 := [(0, vr o), (1, vr bu), (2, vr q), (3, vr na)]) (st2 := [vr q, vr bu, vr o]) kL_writeNumbers_0 rfl ?_
  refine AQ.callSv (av := [vr o, vr bu, vr q]) (st := []) (c_L_write hT hS nq nv (by omega)) lk_RL_120 (by decide) rfl rfl (Nat.le_of_ble_eq_true rfl) eL_writeNumbers_3 (fun h3 e2 => ?_)
  obtain ⟨h3T, g4f, ⟨g4a, g4b⟩, g4c, g4d⟩ := e2
  have k5 := (g4f na (by omega) (fun c => c.elim nn1 nn2)).trans cn
  have F6 : ∀ q, q < h.2.1 → ¬ (fun q => (o ≤ q ∧ q < o + 256) ∨ q = bu) q → h3.1 q = h.1 q := fun q q0 q1 => (g4f q (by omega) q1).trans ((fun _ _ _ => rfl) q q0 q1)
  refine q_blk (lv2 := [(0, vr o), (1, vr bu), (2, vr q), (3, vr na), (4, vr na)]) (st2 := [vr na]) kL_writeNumbers_6 rfl ?_
  refine q_al eL_writeNumbers_11 k5 (by decide) ?_
  refine q_blk (lv2 := [(0, vr o), (1, vr bu), (2, vr q), (3, vr na), (4, vr na), (5, vi nc), (6, vi 0)]) (st2 := []) kL_writeNumbers_12 rfl ?_
  refine am_lp2 (I := fun (k : Int) (hh : AH) => (0 ≤ k ∧ k ≤ nc) ∧ TXS w hh o bu D cm sc L le Hs (Z ++ Y ++ gx_nums f k.toNat) ∧ KF h hh (fun q => (o ≤ q ∧ q < o + 256) ∨ q = bu) 0 0) (μ := fun (k : Int) (hh : AH) => (nc - k).toNat) (G := fun (k : Int) (hh : AH) => AQ w m_L_writeNumbers 11 17 [(0, vr o), (1, vr bu), (2, vr q), (3, vr na), (4, vr na), (5, vi nc), (6, vi k)] [] hh (am_unit (fun h1 => TXS w h1 o bu D cm sc L le Hs (Z ++ Y ++ gx_nums f nc.toNat) ∧ KF h h1 (fun q => (o ≤ q ∧ q < o + 256) ∨ q = bu) 0 0))) ?_ 0 h3 (⟨⟨by omega, by omega⟩, (by show TXS _ _ _ _ _ _ _ _ _ _ (Z ++ Y ++ []); rw [List.append_nil]; exact h3T), ⟨F6, ⟨by omega, by omega⟩, by omega, by omega⟩⟩)
  intro k hh hI8 ih7
  obtain ⟨⟨k0, k1⟩, hT9, kfF, ⟨kfa, kfb⟩, kfc, kfd⟩ := hI8
  have kn9 := (kfF na bn (fun c => c.elim nn1 nn2)).trans cn
  refine q_blk (lv2 := [(0, vr o), (1, vr bu), (2, vr q), (3, vr na), (4, vr na), (5, vi nc), (6, vi k)]) (st2 := [vi nc, vi k]) kL_writeNumbers_17 rfl ?_
  refine AQ.ic_ge (tgt := 51) eL_writeNumbers_21 (by decide) (by first | assumption | exact ⟨by omega, by omega⟩ | exact ⟨by decide, by decide⟩) (by first | assumption | exact ⟨by omega, by omega⟩ | exact ⟨by decide, by decide⟩) (fun br9 => ?_) (fun br9 => ?_)
  · skip
    exact q_rv rfl eL_writeNumbers_51 ⟨rfl, (by rw [show k = nc by omega] at hT9; exact hT9), ⟨kfF, ⟨by omega, by omega⟩, by omega, by omega⟩⟩
  · skip
    refine q_blk (lv2 := [(0, vr o), (1, vr bu), (2, vr q), (3, vr na), (4, vr na), (5, vi nc), (6, vi k)]) (st2 := [vi k, vr na]) kL_writeNumbers_24 rfl ?_
    refine q_ia eL_writeNumbers_28 kn9 (by decide) (by omega) (by omega) (z := (f k)) rfl ?_
    have fk := hf k k0 (by omega)
    have gl := gx_nums_l (f := f) (n := k.toNat) (fun j j0 j1 => hf j j0 (by omega))
    refine q_blk (lv2 := [(0, vr o), (1, vr bu), (2, vr q), (3, vr na), (4, vr na), (5, vi nc), (6, vi k), (7, vi (f k))]) (st2 := [vr bu, vr o]) kL_writeNumbers_29 rfl ?_
    refine AQ.of (AS.ldcS (i := 19) (by decide) (by decide) eL_writeNumbers_33) ?_
    refine AQ.callSv (av := [vr o, vr bu, vr (w.2 19)]) (st := []) (c_L_write hT9 (l19.mv (h1 := hh) (by omega) (kfF (w.2 19) (by omega) (fun c => c.elim (fun z => by omega) (fun z => by omega))) (kfF (w.2 (200 + 19)) (by omega) (fun c => c.elim (fun z => by omega) (fun z => by omega)))) (fun z => by omega) (fun z => by omega) (by rw [List.length_append, List.length_append, gm_lit_l]; omega)) lk_RL_120 (by decide) rfl rfl (Nat.le_of_ble_eq_true rfl) eL_writeNumbers_35 (fun h12 e11 => ?_)
    obtain ⟨h12T, g13f, ⟨g13a, g13b⟩, g13c, g13d⟩ := e11
    have k14 := (g13f na (by omega) (fun c => c.elim nn1 nn2)).trans kn9
    have F15 : ∀ q, q < h.2.1 → ¬ (fun q => (o ≤ q ∧ q < o + 256) ∨ q = bu) q → h12.1 q = h.1 q := fun q q0 q1 => (g13f q (by omega) q1).trans (kfF q q0 q1)
    refine q_blk (lv2 := [(0, vr o), (1, vr bu), (2, vr q), (3, vr na), (4, vr na), (5, vi nc), (6, vi k), (7, vi (f k))]) (st2 := [vi (f k), vr bu, vr o]) kL_writeNumbers_38 rfl ?_
    refine AQ.callSv (av := [vr o, vr bu, vi (f k)]) (st := []) (c_L_writeNumber h12T (n := (f k)) (by omega) (by omega) (by rw [List.length_append, List.length_append, List.length_append, gm_lit_l]; omega)) lk_RL_126 (by decide) rfl rfl (Nat.le_of_ble_eq_true rfl) eL_writeNumbers_42 (fun h18 e17 => ?_)
    obtain ⟨h18T, g19f, ⟨g19a, g19b⟩, g19c, g19d⟩ := e17
    have k20 := (g19f na (by omega) (fun c => c.elim nn1 nn2)).trans k14
    have F21 : ∀ q, q < h.2.1 → ¬ (fun q => (o ≤ q ∧ q < o + 256) ∨ q = bu) q → h18.1 q = h.1 q := fun q q0 q1 => (g19f q (by omega) q1).trans (F15 q q0 q1)
    refine q_blk (lv2 := [(0, vr o), (1, vr bu), (2, vr q), (3, vr na), (4, vr na), (5, vi nc), (6, vi (k + 1)), (7, vi (f k))]) (st2 := []) kL_writeNumbers_45 rfl ?_
    refine q_goto (tgt := 17) eL_writeNumbers_48 (by decide) ?_
    refine q_sub (lv2 := [(0, vr o), (1, vr bu), (2, vr q), (3, vr na), (4, vr na), (5, vi nc), (6, vi (k + 1))]) [0, 1, 2, 3, 4, 5, 6] rfl ?_
    exact ih7 (k + 1) h18 (⟨⟨by omega, by omega⟩, (by rw [gx_nums_s k0, show (32 :: gm_dl (f k)) = gm_lit 19 ++ gm_dl (f k) from rfl, ← List.append_assoc, ← List.append_assoc]; exact h18T), ⟨F21, ⟨by omega, by omega⟩, by omega, by omega⟩⟩) (by omega)
