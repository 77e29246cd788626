/-! The law's Shape. -/
/-- a polygon of the law's: the object, its row of corners; where its cells may lie -/
def LSH (h : AH) (B : Nat → Prop) (a : Nat) (n cl ow : Int) (xs ys : Int → Int) : Prop := ∃ ca cf, (B a ∧ B ca) ∧ h.1 a = some (11, 3, am_L [ow, cl, 0], am_G [none, none, some ca]) ∧ h.1 ca = some (100, n, cf, am_N) ∧ ∀ k, 0 ≤ k → k < n → cf k = 100 * xs k + ys k
theorem LSH.ob {h : AH} {B : Nat → Prop} {a : Nat} {n cl ow : Int} {xs ys : Int → Int} (hS : LSH h B a n cl ow xs ys) : am_ob h a 11 := by
  obtain ⟨ca, cf, -, c0, -⟩ := hS
  exact ⟨_, _, _, c0⟩
theorem gm_d100 {x y : Int} (hx : am_c x) (hy : am_c y) : Int.tdiv (100 * x + y) 100 = x ∧ Int.tmod (100 * x + y) 100 = y := by
  unfold am_c at hx hy
  constructor
  · rw [Int.tdiv_eq_ediv_of_nonneg (by omega)]; omega
  · rw [Int.tmod_eq_emod_of_nonneg (by omega)]; omega
theorem gm_md0 {n k : Int} (h0 : 0 ≤ k) (h1 : k < n) : Int.tmod k n = k := by
  rw [Int.tmod_eq_emod_of_nonneg h0]; exact Int.emod_eq_of_lt h0 h1
theorem gm_md9 {n k : Int} (h0 : 0 ≤ k) (h1 : k < n) : Int.tmod (k + 1) n = gm_nx n k := by
  unfold gm_nx
  rw [Int.tmod_eq_emod_of_nonneg (by omega)]
  by_cases e : k + 1 < n
  · rw [if_pos e]; exact Int.emod_eq_of_lt (by omega) e
  · rw [if_neg e, show k + 1 = n by omega]; exact Int.emod_self
theorem gm_md2 {n k : Int} (h0 : 0 ≤ k) (h1 : k < n) : Int.tmod (k + 2) n = gm_nx n (gm_nx n k) := by
  have q := gm_nx_r h0 h1
  rw [← gm_md9 q.1 q.2]
  rw [Int.tmod_eq_emod_of_nonneg (by omega), Int.tmod_eq_emod_of_nonneg (by omega)]
  unfold gm_nx
  by_cases e : k + 1 < n
  · rw [if_pos e, show k + 2 = k + 1 + 1 by omega]
  · rw [if_neg e, show k + 2 = 0 + 1 + n by omega, Int.add_emod_right]
theorem gm_sm_nx (P : Int → Int) {n : Int} (h : 1 ≤ n) : gm_sm (fun k => P (gm_nx n k)) n.toNat = gm_sm P n.toNat := by
  obtain ⟨m, rfl⟩ : ∃ m : Nat, n = (m : Int) + 1 := ⟨(n - 1).toNat, by omega⟩
  rw [show ((m : Int) + 1).toNat = m + 1 by omega]
  have hh : ∀ (f : Int → Int) (m : Nat), gm_sm f (m + 1) = f 0 + gm_sm (fun t => f (t + 1)) m := by
    intro f m
    induction m with
    | zero => simp [gm_sm]
    | succ m ih =>
      show gm_sm f (m + 1) + f ((m : Int) + 1) = f 0 + (gm_sm (fun t => f (t + 1)) m + f ((m : Int) + 1))
      rw [ih]; omega
  rw [hh P m]
  show gm_sm (fun k => P (gm_nx ((m : Int) + 1) k)) m + P (gm_nx ((m : Int) + 1) m) = _
  rw [show gm_nx ((m : Int) + 1) m = 0 by unfold gm_nx; rw [if_neg (by omega)]]
  rw [gm_sm_c (g := fun t => P (t + 1)) (fun k k0 k1 => by show P (gm_nx _ k) = _; unfold gm_nx; rw [if_pos (by omega)])]
  omega
theorem gm_sm_ad (f g : Int → Int) : ∀ m : Nat, gm_sm (fun t => f t + g t) m = gm_sm f m + gm_sm g m
  | 0 => rfl
  | m + 1 => by
    simp only [gm_sm]
    rw [gm_sm_ad f g m]; omega
def gm_dbl (n : Int) (xs ys : Int → Int) (k : Int) : Int := (xs k - xs (gm_nx n k)) * (ys k + ys (gm_nx n k))
theorem gm_dbl_ar {n : Int} {xs ys : Int → Int} (h : 1 ≤ n) : gm_sm (gm_dbl n xs ys) n.toNat = gm_ar n xs ys := by
  have e : ∀ k, gm_dbl n xs ys k + xs (gm_nx n k) * ys (gm_nx n k) = gm_cr2 n xs ys k + xs k * ys k := fun k => by unfold gm_dbl gm_cr2; grind
  have e1 := gm_sm_ad (gm_dbl n xs ys) (fun k => xs (gm_nx n k) * ys (gm_nx n k)) n.toNat
  have e2 := gm_sm_ad (gm_cr2 n xs ys) (fun k => xs k * ys k) n.toNat
  have e3 := gm_sm_nx (fun k => xs k * ys k) h
  have e4 : gm_sm (fun t => gm_dbl n xs ys t + xs (gm_nx n t) * ys (gm_nx n t)) n.toNat = gm_sm (fun t => gm_cr2 n xs ys t + xs t * ys t) n.toNat := gm_sm_c fun k _ _ => e k
  unfold gm_ar
  omega
/-- a dent, as the law counts it: at the corner behind -/
def gm_dnt (n : Int) (xs ys : Int → Int) (k : Int) : Int := (xs (gm_nx n k) - xs k) * (ys (gm_nx n (gm_nx n k)) - ys (gm_nx n k)) - (ys (gm_nx n k) - ys k) * (xs (gm_nx n (gm_nx n k)) - xs (gm_nx n k))
def gm_dn1 (n : Int) (xs ys : Int → Int) (k : Int) : Int := if (if 0 < gm_ar n xs ys then (1 : Int) else -1) * gm_dnt n xs ys k < 0 then 1 else 0
theorem gm_dnt_de {n : Int} {xs ys : Int → Int} (h : 1 ≤ n) : gm_sm (gm_dn1 n xs ys) n.toNat = gm_de n xs ys := by
  unfold gm_de
  rw [← gm_sm_nx (gm_de1 n xs ys) h]
  refine gm_sm_c fun k k0 k1 => ?_
  have hp : gm_pv n (gm_nx n k) = k := by
    unfold gm_pv gm_nx
    by_cases e : k + 1 < n
    · rw [if_pos e, if_pos (by omega)]; omega
    · rw [if_neg e, if_neg (by omega)]; omega
  have e : gm_tn n xs ys (gm_nx n k) = gm_dnt n xs ys k := by
    unfold gm_tn gm_dnt gm_turn
    rw [hp]; grind
  show gm_dn1 n xs ys k = gm_de1 n xs ys (gm_nx n k)
  unfold gm_dn1 gm_de1
  rw [e]
  by_cases a : 0 < gm_ar n xs ys
  · rw [if_pos a, if_pos a, Int.one_mul]
  · rw [if_neg a, if_neg a]
    by_cases b : 0 < gm_dnt n xs ys k
    · rw [if_pos (by omega), if_pos b]
    · rw [if_neg (by omega), if_neg b]

set_option maxHeartbeats 1000000 in
theorem c_X12_x {w : am_w} {h : AH} {B : Nat → Prop} {a : Nat} {n cl ow : Int} {xs ys : Int → Int} (hS : LSH h B a n cl ow xs ys) (hV : VC n xs ys) (hn0 : 1 ≤ n) (hn1 : n ≤ 12) {k : Int} (k0 : 0 ≤ k) (k1 : k ≤ 1000)  : AE w m_X12_x 1 [vr a, vi k] h (am_intp h (fun z => z = xs (Int.tmod k n))) := by
  refine AE.of wf_X12_x (Nat.le_of_ble_eq_true rfl) (am_ok_ip) ?_
  obtain ⟨ca, cf, -, c0, c1, hx⟩ := id hS
  have t1 := gm_tm k0 (show 0 < n by omega)
  have t2 := hV _ t1.1 t1.2
  have t3 := gm_d100 t2.1 t2.2
  have t4 := t2.1.1
  have t5 := t2.1.2
  have t6 := t2.2.1
  have t7 := t2.2.2
  refine q_blk (lv2 := [(0, vr a), (1, vi k)]) (st2 := [vr a]) kX12_x_0 rfl ?_
  refine q_gr eX12_x_1 fl_RX12_7 (Or.inr ⟨_, rfl⟩) c0 rfl ?_
  refine q_blk (lv2 := [(0, vr a), (1, vi k)]) (st2 := [vr a, vi k, vr ca]) kX12_x_4 rfl ?_
  refine q_gr eX12_x_6 fl_RX12_7 (Or.inr ⟨_, rfl⟩) c0 rfl ?_
  refine q_al eX12_x_9 c1 (by decide) ?_
  refine AQ.of (AS.irem eX12_x_10 (by first | assumption | exact ⟨by omega, by omega⟩) (by first | assumption | exact ⟨by omega, by omega⟩) (by omega)) ?_
  refine q_ia eX12_x_11 c1 (by decide) (by omega) (by omega) (z := (100 * xs (Int.tmod k n) + ys (Int.tmod k n))) (hx _ (by omega) (by omega)) ?_
  refine q_blk (lv2 := [(0, vr a), (1, vi k)]) (st2 := [vi 100, vi (100 * xs (Int.tmod k n) + ys (Int.tmod k n))]) kX12_x_12 rfl ?_
  refine AQ.of (AS.idiv eX12_x_14 (by first | assumption | exact ⟨by omega, by omega⟩) ⟨by decide, by decide⟩ (by omega)) ?_
  exact q_ri rfl eX12_x_15 ⟨(Int.tdiv (100 * xs (Int.tmod k n) + ys (Int.tmod k n)) 100), rfl, t3.1, rfl⟩

theorem c_X12_x0 {w : am_w} {h : AH} {B : Nat → Prop} {a : Nat} {n cl ow : Int} {xs ys : Int → Int} (hS : LSH h B a n cl ow xs ys) (hV : VC n xs ys) (hn0 : 1 ≤ n) (hn1 : n ≤ 12) {k : Int} (k0 : 0 ≤ k) (k1 : k < n) : AE w m_X12_x 1 [vr a, vi k] h (am_intp h (fun z => z = xs k)) := by
  have := c_X12_x (w := w) hS hV hn0 hn1 k0 (show k ≤ 1000 by omega)
  rw [gm_md0 k0 k1] at this
  exact this
theorem c_X12_x1 {w : am_w} {h : AH} {B : Nat → Prop} {a : Nat} {n cl ow : Int} {xs ys : Int → Int} (hS : LSH h B a n cl ow xs ys) (hV : VC n xs ys) (hn0 : 1 ≤ n) (hn1 : n ≤ 12) {k : Int} (k0 : 0 ≤ k) (k1 : k < n) : AE w m_X12_x 1 [vr a, vi (k + 1)] h (am_intp h (fun z => z = xs (gm_nx n k))) := by
  have := c_X12_x (w := w) hS hV hn0 hn1 (show 0 ≤ k + 1 by omega) (show k + 1 ≤ 1000 by omega)
  rw [gm_md9 k0 k1] at this
  exact this
theorem c_X12_x2 {w : am_w} {h : AH} {B : Nat → Prop} {a : Nat} {n cl ow : Int} {xs ys : Int → Int} (hS : LSH h B a n cl ow xs ys) (hV : VC n xs ys) (hn0 : 1 ≤ n) (hn1 : n ≤ 12) {k : Int} (k0 : 0 ≤ k) (k1 : k < n) : AE w m_X12_x 1 [vr a, vi (k + 2)] h (am_intp h (fun z => z = xs (gm_nx n (gm_nx n k)))) := by
  have := c_X12_x (w := w) hS hV hn0 hn1 (show 0 ≤ k + 2 by omega) (show k + 2 ≤ 1000 by omega)
  rw [gm_md2 k0 k1] at this
  exact this

set_option maxHeartbeats 1000000 in
theorem c_X12_y {w : am_w} {h : AH} {B : Nat → Prop} {a : Nat} {n cl ow : Int} {xs ys : Int → Int} (hS : LSH h B a n cl ow xs ys) (hV : VC n xs ys) (hn0 : 1 ≤ n) (hn1 : n ≤ 12) {k : Int} (k0 : 0 ≤ k) (k1 : k ≤ 1000)  : AE w m_X12_y 1 [vr a, vi k] h (am_intp h (fun z => z = ys (Int.tmod k n))) := by
  refine AE.of wf_X12_y (Nat.le_of_ble_eq_true rfl) (am_ok_ip) ?_
  obtain ⟨ca, cf, -, c0, c1, hx⟩ := id hS
  have t1 := gm_tm k0 (show 0 < n by omega)
  have t2 := hV _ t1.1 t1.2
  have t3 := gm_d100 t2.1 t2.2
  have t4 := t2.1.1
  have t5 := t2.1.2
  have t6 := t2.2.1
  have t7 := t2.2.2
  refine q_blk (lv2 := [(0, vr a), (1, vi k)]) (st2 := [vr a]) kX12_y_0 rfl ?_
  refine q_gr eX12_y_1 fl_RX12_7 (Or.inr ⟨_, rfl⟩) c0 rfl ?_
  refine q_blk (lv2 := [(0, vr a), (1, vi k)]) (st2 := [vr a, vi k, vr ca]) kX12_y_4 rfl ?_
  refine q_gr eX12_y_6 fl_RX12_7 (Or.inr ⟨_, rfl⟩) c0 rfl ?_
  refine q_al eX12_y_9 c1 (by decide) ?_
  refine AQ.of (AS.irem eX12_y_10 (by first | assumption | exact ⟨by omega, by omega⟩) (by first | assumption | exact ⟨by omega, by omega⟩) (by omega)) ?_
  refine q_ia eX12_y_11 c1 (by decide) (by omega) (by omega) (z := (100 * xs (Int.tmod k n) + ys (Int.tmod k n))) (hx _ (by omega) (by omega)) ?_
  refine q_blk (lv2 := [(0, vr a), (1, vi k)]) (st2 := [vi 100, vi (100 * xs (Int.tmod k n) + ys (Int.tmod k n))]) kX12_y_12 rfl ?_
  refine AQ.of (AS.irem eX12_y_14 (by first | assumption | exact ⟨by omega, by omega⟩) ⟨by decide, by decide⟩ (by omega)) ?_
  exact q_ri rfl eX12_y_15 ⟨(Int.tmod (100 * xs (Int.tmod k n) + ys (Int.tmod k n)) 100), rfl, t3.2, rfl⟩

theorem c_X12_y0 {w : am_w} {h : AH} {B : Nat → Prop} {a : Nat} {n cl ow : Int} {xs ys : Int → Int} (hS : LSH h B a n cl ow xs ys) (hV : VC n xs ys) (hn0 : 1 ≤ n) (hn1 : n ≤ 12) {k : Int} (k0 : 0 ≤ k) (k1 : k < n) : AE w m_X12_y 1 [vr a, vi k] h (am_intp h (fun z => z = ys k)) := by
  have := c_X12_y (w := w) hS hV hn0 hn1 k0 (show k ≤ 1000 by omega)
  rw [gm_md0 k0 k1] at this
  exact this
theorem c_X12_y1 {w : am_w} {h : AH} {B : Nat → Prop} {a : Nat} {n cl ow : Int} {xs ys : Int → Int} (hS : LSH h B a n cl ow xs ys) (hV : VC n xs ys) (hn0 : 1 ≤ n) (hn1 : n ≤ 12) {k : Int} (k0 : 0 ≤ k) (k1 : k < n) : AE w m_X12_y 1 [vr a, vi (k + 1)] h (am_intp h (fun z => z = ys (gm_nx n k))) := by
  have := c_X12_y (w := w) hS hV hn0 hn1 (show 0 ≤ k + 1 by omega) (show k + 1 ≤ 1000 by omega)
  rw [gm_md9 k0 k1] at this
  exact this
theorem c_X12_y2 {w : am_w} {h : AH} {B : Nat → Prop} {a : Nat} {n cl ow : Int} {xs ys : Int → Int} (hS : LSH h B a n cl ow xs ys) (hV : VC n xs ys) (hn0 : 1 ≤ n) (hn1 : n ≤ 12) {k : Int} (k0 : 0 ≤ k) (k1 : k < n) : AE w m_X12_y 1 [vr a, vi (k + 2)] h (am_intp h (fun z => z = ys (gm_nx n (gm_nx n k)))) := by
  have := c_X12_y (w := w) hS hV hn0 hn1 (show 0 ≤ k + 2 by omega) (show k + 2 ≤ 1000 by omega)
  rw [gm_md2 k0 k1] at this
  exact this

set_option maxHeartbeats 1000000 in
theorem c_X12_sides {w : am_w} {h : AH} {B : Nat → Prop} {a : Nat} {n cl ow : Int} {xs ys : Int → Int} (hS : LSH h B a n cl ow xs ys) (hV : VC n xs ys) (hn0 : 1 ≤ n) (hn1 : n ≤ 12) (hcl : cl = 0 ∨ cl = 1)  : AE w m_X12_sides 1 [vr a] h (am_intp h (fun z => z = gm_ns n cl)) := by
  refine AE.of wf_X12_sides (Nat.le_of_ble_eq_true rfl) (am_ok_ip) ?_
  obtain ⟨ca, cf, -, c0, c1, hx⟩ := id hS
  refine q_blk (lv2 := [(0, vr a)]) (st2 := [vr a]) kX12_sides_0 rfl ?_
  refine q_gi eX12_sides_1 fl_RX12_18 (Or.inr rfl) c0 (z := cl) rfl ?_
  refine AQ.if_eq (tgt := 15) eX12_sides_4 (by decide) (by first | assumption | exact ⟨by omega, by omega⟩) (fun br1 => ?_) (fun br1 => ?_)
  · skip
    refine q_blk (lv2 := [(0, vr a)]) (st2 := [vr a]) kX12_sides_15 rfl ?_
    refine q_gr eX12_sides_16 fl_RX12_7 (Or.inr ⟨_, rfl⟩) c0 rfl ?_
    refine q_al eX12_sides_19 c1 (by decide) ?_
    refine q_blk (lv2 := [(0, vr a)]) (st2 := [vi (n - 1)]) kX12_sides_20 rfl ?_
    exact q_ri rfl eX12_sides_22 ⟨(n - 1), rfl, (by unfold gm_ns; first | rw [if_neg (by assumption)] | rw [if_pos (by assumption)]), rfl⟩
  · skip
    refine q_blk (lv2 := [(0, vr a)]) (st2 := [vr a]) kX12_sides_7 rfl ?_
    refine q_gr eX12_sides_8 fl_RX12_7 (Or.inr ⟨_, rfl⟩) c0 rfl ?_
    refine q_al eX12_sides_11 c1 (by decide) ?_
    refine q_goto (tgt := 22) eX12_sides_12 (by decide) ?_
    exact q_ri rfl eX12_sides_22 ⟨n, rfl, (by unfold gm_ns; first | rw [if_neg (by assumption)] | rw [if_pos (by assumption)]), rfl⟩

set_option maxHeartbeats 1000000 in
theorem c_X12_doubled {w : am_w} {h : AH} {B : Nat → Prop} {a : Nat} {n cl ow : Int} {xs ys : Int → Int} (hS : LSH h B a n cl ow xs ys) (hV : VC n xs ys) (hn0 : 1 ≤ n) (hn1 : n ≤ 12)  : AE w m_X12_doubled 2 [vr a] h (am_intp h (fun z => z = gm_ar n xs ys)) := by
  refine AE.of wf_X12_doubled (Nat.le_of_ble_eq_true rfl) (am_ok_ip) ?_
  obtain ⟨ca, cf, -, c0, c1, hx⟩ := id hS
  refine q_blk (lv2 := [(0, vr a), (1, vi 0), (2, vi 0)]) (st2 := []) kX12_doubled_0 rfl ?_
  refine am_lp2 (I := fun (s : Int) (k : Int) => (0 ≤ k ∧ k ≤ n) ∧ s = gm_sm (gm_dbl n xs ys) k.toNat) (μ := fun (s : Int) (k : Int) => (n - k).toNat) (G := fun (s : Int) (k : Int) => AQ w m_X12_doubled 2 4 [(0, vr a), (1, vi s), (2, vi k)] [] h (am_intp h (fun z => z = gm_ar n xs ys))) ?_ 0 0 (⟨⟨by omega, by omega⟩, rfl⟩)
  intro s k hI2 ih1
  obtain ⟨⟨k0, k1⟩, hs⟩ := hI2
  refine q_blk (lv2 := [(0, vr a), (1, vi s), (2, vi k)]) (st2 := [vr a, vi k]) kX12_doubled_4 rfl ?_
  refine q_gr eX12_doubled_6 fl_RX12_7 (Or.inr ⟨_, rfl⟩) c0 rfl ?_
  refine q_al eX12_doubled_9 c1 (by decide) ?_
  refine AQ.ic_ge (tgt := 49) eX12_doubled_10 (by decide) (by first | assumption | exact ⟨by omega, by omega⟩) (by first | assumption | exact ⟨by omega, by omega⟩) (fun br3 => ?_) (fun br3 => ?_)
  · skip
    refine q_blk (lv2 := [(0, vr a), (1, vi s), (2, vi k)]) (st2 := [vi s]) kX12_doubled_49 rfl ?_
    exact q_ri rfl eX12_doubled_50 ⟨s, rfl, (by rw [hs, show k = n by omega]; exact gm_dbl_ar hn0), rfl⟩
  · skip
    refine q_blk (lv2 := [(0, vr a), (1, vi s), (2, vi k)]) (st2 := [vi k, vr a, vi s]) kX12_doubled_13 rfl ?_
    refine q_Vi (av := [vi k]) (st := [vi s]) (c_X12_x0 hS hV hn0 hn1 (k := k) (by omega) (by omega)) lk_RX12_22 (by decide) rfl rfl hS.ob ⟨_, rfl, rfl⟩ (Nat.le_of_ble_eq_true rfl) eX12_doubled_16 (fun z4 e5 => ?_)
    subst e5
    refine q_blk (lv2 := [(0, vr a), (1, vi s), (2, vi k)]) (st2 := [vi (k + 1), vr a, vi (xs k), vi s]) kX12_doubled_19 rfl ?_
    refine q_Vi (av := [vi (k + 1)]) (st := [vi (xs k), vi s]) (c_X12_x1 hS hV hn0 hn1 (k := k) (by omega) (by omega)) lk_RX12_22 (by decide) rfl rfl hS.ob ⟨_, rfl, rfl⟩ (Nat.le_of_ble_eq_true rfl) eX12_doubled_23 (fun z6 e7 => ?_)
    subst e7
    refine q_blk (lv2 := [(0, vr a), (1, vi s), (2, vi k)]) (st2 := [vi k, vr a, vi ((xs k) - (xs (gm_nx n k))), vi s]) kX12_doubled_26 rfl ?_
    refine q_Vi (av := [vi k]) (st := [vi ((xs k) - (xs (gm_nx n k))), vi s]) (c_X12_y0 hS hV hn0 hn1 (k := k) (by omega) (by omega)) lk_RX12_26 (by decide) rfl rfl hS.ob ⟨_, rfl, rfl⟩ (Nat.le_of_ble_eq_true rfl) eX12_doubled_29 (fun z8 e9 => ?_)
    subst e9
    refine q_blk (lv2 := [(0, vr a), (1, vi s), (2, vi k)]) (st2 := [vi (k + 1), vr a, vi (ys k), vi ((xs k) - (xs (gm_nx n k))), vi s]) kX12_doubled_32 rfl ?_
    refine q_Vi (av := [vi (k + 1)]) (st := [vi (ys k), vi ((xs k) - (xs (gm_nx n k))), vi s]) (c_X12_y1 hS hV hn0 hn1 (k := k) (by omega) (by omega)) lk_RX12_26 (by decide) rfl rfl hS.ob ⟨_, rfl, rfl⟩ (Nat.le_of_ble_eq_true rfl) eX12_doubled_36 (fun z10 e11 => ?_)
    subst e11
    refine q_blk (lv2 := [(0, vr a), (1, vi (s + (((xs k) - (xs (gm_nx n k))) * ((ys k) + (ys (gm_nx n k)))))), (2, vi (k + 1))]) (st2 := []) kX12_doubled_39 rfl ?_
    refine q_goto (tgt := 4) eX12_doubled_46 (by decide) ?_
    exact ih1 (s + (((xs k) - (xs (gm_nx n k))) * ((ys k) + (ys (gm_nx n k))))) (k + 1) (⟨⟨by omega, by omega⟩, by rw [gm_sm_s _ k0, hs]; rfl⟩) (by omega)

theorem gm_cmr {a b : Int} (ha : -1000 ≤ a ∧ a ≤ 1000) (hb : b ≠ 0) : (-1000 ≤ Int.tmod a b ∧ Int.tmod a b ≤ 1000) ∧ (Int.tmod a b).natAbs < b.natAbs ∧ Int.gcd b (Int.tmod a b) = Int.gcd a b := by
  have h1 : (Int.tmod a b).natAbs = a.natAbs % b.natAbs := Int.natAbs_tmod a b
  have h2 : a.natAbs % b.natAbs < b.natAbs := Nat.mod_lt _ (by omega)
  have h3 : a.natAbs % b.natAbs ≤ a.natAbs := Nat.mod_le _ _
  refine ⟨by omega, by omega, ?_⟩
  show Nat.gcd b.natAbs (Int.tmod a b).natAbs = Nat.gcd a.natAbs b.natAbs
  rw [h1, Nat.gcd_comm a.natAbs b.natAbs, Nat.gcd_comm b.natAbs (a.natAbs % b.natAbs)]
  exact (Nat.gcd_rec b.natAbs a.natAbs).symm

set_option maxHeartbeats 1000000 in
theorem c_L_common0 {w : am_w} {h : AH} {a : Int} (ha : -1000 ≤ a ∧ a ≤ 1000)  : AE w m_L_common 2 [vi a, vi 0] h (am_intp h (fun z => z = (Int.gcd a 0 : Int))) := by
  refine AE.of wf_L_common (Nat.le_of_ble_eq_true rfl) (am_ok_ip) ?_
  refine q_blk (lv2 := [(0, vi a), (1, vi 0)]) (st2 := [vi 0]) kL_common_0 rfl ?_
  refine AQ.of (AS.if_ne_f eL_common_1 ⟨by decide, by decide⟩ (by decide) (by decide)) ?_
  refine q_blk (lv2 := [(0, vi a), (1, vi 0)]) (st2 := [vi a]) kL_common_4 rfl ?_
  refine AQ.of (AS.mabs eL_common_5 (by first | assumption | exact ⟨by omega, by omega⟩) (am_gw 551 (by decide +kernel) (by decide +kernel)) (am_gw 372 (by decide +kernel) (by decide +kernel)) (am_gw 53 (by decide +kernel) (by decide +kernel)) (am_gw 373 (by decide +kernel) (by decide +kernel)) (by decide) (Nat.le_of_ble_eq_true rfl)) ?_
  obtain ⟨z1, e2⟩ : ∃ q : Int, q = (if 0 ≤ a then a else -a) := ⟨_, rfl⟩
  rw [← e2]
  refine q_goto (tgt := 18) eL_common_8 (by decide) ?_
  exact q_ri rfl eL_common_18 ⟨z1, rfl, (by rw [Int.gcd_zero_right]; have := e2; omega), rfl⟩

set_option maxHeartbeats 1000000 in
theorem c_L_commonN {w : am_w} {h : AH} : ∀ {N : Nat} {a b : Int}, (-1000 ≤ a ∧ a ≤ 1000) → (-1000 ≤ b ∧ b ≤ 1000) → b.natAbs ≤ N → AE w m_L_common (N + 2) [vi a, vi b] h (am_intp h (fun z => z = (Int.gcd a b : Int))) := by
  intro N
  induction N with
  | zero =>
    intro a b ha hb hN
    obtain rfl : b = 0 := by omega
    exact c_L_common0 ha
  | succ N ih =>
    intro a b ha hb hN
    refine AE.of wf_L_common (Nat.le_of_ble_eq_true rfl) (am_ok_ip) ?_
    refine q_blk (lv2 := [(0, vi a), (1, vi b)]) (st2 := [vi b]) kL_common_0 rfl ?_
    refine AQ.if_ne (tgt := 11) eL_common_1 (by decide) (by first | assumption | exact ⟨by omega, by omega⟩) (fun br1 => ?_) (fun br1 => ?_)
    · skip
      have h1 := gm_cmr ha br1
      refine q_blk (lv2 := [(0, vi a), (1, vi b)]) (st2 := [vi b, vi a, vi b]) kL_common_11 rfl ?_
      refine AQ.of (AS.irem eL_common_14 (by first | assumption | exact ⟨by omega, by omega⟩) (by first | assumption | exact ⟨by omega, by omega⟩) (by omega)) ?_
      refine q_Si (av := [vi b, vi (Int.tmod a b)]) (st := []) (ih ⟨by omega, by omega⟩ h1.1 (by have := h1.2.1; omega)) lk_RL_117 (by omega) rfl rfl (Nat.le_of_ble_eq_true rfl) eL_common_15 (fun z2 e3 => ?_)
      subst e3
      exact q_ri rfl eL_common_18 ⟨(Int.gcd b (Int.tmod a b) : Int), rfl, (by have := h1.2.2; omega), rfl⟩
    · skip
      refine q_blk (lv2 := [(0, vi a), (1, vi b)]) (st2 := [vi a]) kL_common_4 rfl ?_
      refine AQ.of (AS.mabs eL_common_5 (by first | assumption | exact ⟨by omega, by omega⟩) (am_gw 551 (by decide +kernel) (by decide +kernel)) (am_gw 372 (by decide +kernel) (by decide +kernel)) (am_gw 53 (by decide +kernel) (by decide +kernel)) (am_gw 373 (by decide +kernel) (by decide +kernel)) (by omega) (Nat.le_of_ble_eq_true rfl)) ?_
      obtain ⟨z4, e5⟩ : ∃ q : Int, q = (if 0 ≤ a then a else -a) := ⟨_, rfl⟩
      rw [← e5]
      refine q_goto (tgt := 18) eL_common_8 (by decide) ?_
      exact q_ri rfl eL_common_18 ⟨z4, rfl, (by subst br1; rw [Int.gcd_zero_right]; have := e5; omega), rfl⟩


theorem c_L_common {w : am_w} {h : AH} {a b : Int} (ha : -60 ≤ a ∧ a ≤ 60) (hb : -60 ≤ b ∧ b ≤ 60) : AE w m_L_common 62 [vi a, vi b] h (am_intp h (fun z => z = (Int.gcd a b : Int))) := c_L_commonN (N := 60) ⟨by omega, by omega⟩ ⟨by omega, by omega⟩ (by omega)

set_option maxHeartbeats 1000000 in
theorem c_X12_border {w : am_w} {h : AH} {B : Nat → Prop} {a : Nat} {n cl ow : Int} {xs ys : Int → Int} (hS : LSH h B a n cl ow xs ys) (hV : VC n xs ys) (hn0 : 1 ≤ n) (hn1 : n ≤ 12)  : AE w m_X12_border 64 [vr a] h (am_intp h (fun z => z = gm_bo n xs ys)) := by
  refine AE.of wf_X12_border (Nat.le_of_ble_eq_true rfl) (am_ok_ip) ?_
  obtain ⟨ca, cf, -, c0, c1, hx⟩ := id hS
  refine q_blk (lv2 := [(0, vr a), (1, vi 0), (2, vi 0)]) (st2 := []) kX12_border_0 rfl ?_
  refine am_lp2 (I := fun (s : Int) (k : Int) => (0 ≤ k ∧ k ≤ n) ∧ s = gm_sm (gm_st n xs ys) k.toNat) (μ := fun (s : Int) (k : Int) => (n - k).toNat) (G := fun (s : Int) (k : Int) => AQ w m_X12_border 64 4 [(0, vr a), (1, vi s), (2, vi k)] [] h (am_intp h (fun z => z = gm_bo n xs ys))) ?_ 0 0 (⟨⟨by omega, by omega⟩, rfl⟩)
  intro s k hI2 ih1
  obtain ⟨⟨k0, k1⟩, hs⟩ := hI2
  refine q_blk (lv2 := [(0, vr a), (1, vi s), (2, vi k)]) (st2 := [vr a, vi k]) kX12_border_4 rfl ?_
  refine q_gr eX12_border_6 fl_RX12_7 (Or.inr ⟨_, rfl⟩) c0 rfl ?_
  refine q_al eX12_border_9 c1 (by decide) ?_
  refine AQ.ic_ge (tgt := 51) eX12_border_10 (by decide) (by first | assumption | exact ⟨by omega, by omega⟩) (by first | assumption | exact ⟨by omega, by omega⟩) (fun br3 => ?_) (fun br3 => ?_)
  · skip
    refine q_blk (lv2 := [(0, vr a), (1, vi s), (2, vi k)]) (st2 := [vi s]) kX12_border_51 rfl ?_
    exact q_ri rfl eX12_border_52 ⟨s, rfl, (by rw [hs, show k = n by omega]; rfl), rfl⟩
  · skip
    have q8 := gm_nx_r k0 (show k < n by omega)
    have v8 := hV k k0 (by omega)
    have v9 := hV _ q8.1 q8.2
    have w8 := v8.1.1
    have w9 := v8.1.2
    have u8 := v8.2.1
    have u9 := v8.2.2
    have w6 := v9.1.1
    have w7 := v9.1.2
    have u6 := v9.2.1
    have u7 := v9.2.2
    refine q_blk (lv2 := [(0, vr a), (1, vi s), (2, vi k)]) (st2 := [vi (k + 1), vr a, vi s]) kX12_border_13 rfl ?_
    refine q_Vi (av := [vi (k + 1)]) (st := [vi s]) (c_X12_x1 hS hV hn0 hn1 (k := k) (by omega) (by omega)) lk_RX12_22 (by decide) rfl rfl hS.ob ⟨_, rfl, rfl⟩ (Nat.le_of_ble_eq_true rfl) eX12_border_18 (fun z4 e5 => ?_)
    subst e5
    refine q_blk (lv2 := [(0, vr a), (1, vi s), (2, vi k)]) (st2 := [vi k, vr a, vi (xs (gm_nx n k)), vi s]) kX12_border_21 rfl ?_
    refine q_Vi (av := [vi k]) (st := [vi (xs (gm_nx n k)), vi s]) (c_X12_x0 hS hV hn0 hn1 (k := k) (by omega) (by omega)) lk_RX12_22 (by decide) rfl rfl hS.ob ⟨_, rfl, rfl⟩ (Nat.le_of_ble_eq_true rfl) eX12_border_23 (fun z6 e7 => ?_)
    subst e7
    refine q_blk (lv2 := [(0, vr a), (1, vi s), (2, vi k)]) (st2 := [vi (k + 1), vr a, vi ((xs (gm_nx n k)) - (xs k)), vi s]) kX12_border_26 rfl ?_
    refine q_Vi (av := [vi (k + 1)]) (st := [vi ((xs (gm_nx n k)) - (xs k)), vi s]) (c_X12_y1 hS hV hn0 hn1 (k := k) (by omega) (by omega)) lk_RX12_26 (by decide) rfl rfl hS.ob ⟨_, rfl, rfl⟩ (Nat.le_of_ble_eq_true rfl) eX12_border_31 (fun z8 e9 => ?_)
    subst e9
    refine q_blk (lv2 := [(0, vr a), (1, vi s), (2, vi k)]) (st2 := [vi k, vr a, vi (ys (gm_nx n k)), vi ((xs (gm_nx n k)) - (xs k)), vi s]) kX12_border_34 rfl ?_
    refine q_Vi (av := [vi k]) (st := [vi (ys (gm_nx n k)), vi ((xs (gm_nx n k)) - (xs k)), vi s]) (c_X12_y0 hS hV hn0 hn1 (k := k) (by omega) (by omega)) lk_RX12_26 (by decide) rfl rfl hS.ob ⟨_, rfl, rfl⟩ (Nat.le_of_ble_eq_true rfl) eX12_border_36 (fun z10 e11 => ?_)
    subst e11
    refine q_blk (lv2 := [(0, vr a), (1, vi s), (2, vi k)]) (st2 := [vi ((ys (gm_nx n k)) - (ys k)), vi ((xs (gm_nx n k)) - (xs k)), vi s]) kX12_border_39 rfl ?_
    refine q_SNi (av := [vi ((xs (gm_nx n k)) - (xs k)), vi ((ys (gm_nx n k)) - (ys k))]) (st := [vi s]) (c_L_common (a := ((xs (gm_nx n k)) - (xs k))) (b := ((ys (gm_nx n k)) - (ys k))) ⟨by omega, by omega⟩ ⟨by omega, by omega⟩) lk_RX12_29 (by decide) rfl rfl (Nat.le_of_ble_eq_true rfl) eX12_border_40 (fun z12 e13 => ?_)
    subst e13
    refine q_blk (lv2 := [(0, vr a), (1, vi (s + (Int.gcd ((xs (gm_nx n k)) - (xs k)) ((ys (gm_nx n k)) - (ys k)) : Int))), (2, vi (k + 1))]) (st2 := []) kX12_border_43 rfl ?_
    refine q_goto (tgt := 4) eX12_border_48 (by decide) ?_
    exact ih1 (s + (Int.gcd ((xs (gm_nx n k)) - (xs k)) ((ys (gm_nx n k)) - (ys k)) : Int)) (k + 1) (⟨⟨by omega, by omega⟩, by rw [gm_sm_s _ k0, hs]; rfl⟩) (by omega)

/-- points inside, as the law counts them -/
def gm_lin (n : Int) (xs ys : Int → Int) : Int := Int.tdiv (gm_abs (gm_ar n xs ys) - gm_bo n xs ys) 2 + 1

set_option maxHeartbeats 1000000 in
theorem c_X12_inner {w : am_w} {h : AH} {B : Nat → Prop} {a : Nat} {n cl ow : Int} {xs ys : Int → Int} (hS : LSH h B a n cl ow xs ys) (hV : VC n xs ys) (hn0 : 1 ≤ n) (hn1 : n ≤ 12)  : AE w m_X12_inner 65 [vr a] h (am_intp h (fun z => z = gm_lin n xs ys)) := by
  refine AE.of wf_X12_inner (Nat.le_of_ble_eq_true rfl) (am_ok_ip) ?_
  obtain ⟨ca, cf, -, c0, c1, hx⟩ := id hS
  have r1 := gm_ar_r hV (by omega) hn1
  have r2 := gm_bo_r hV (by omega) hn1
  have r3 := gm_abs_r r1
  refine q_blk (lv2 := [(0, vr a)]) (st2 := [vr a]) kX12_inner_0 rfl ?_
  refine q_Vi (av := []) (st := []) (c_X12_doubled hS hV hn0 hn1) lk_RX12_35 (by decide) rfl rfl hS.ob ⟨_, rfl, rfl⟩ (Nat.le_of_ble_eq_true rfl) eX12_inner_1 (fun z1 e2 => ?_)
  subst e2
  refine AQ.of (AS.mabs eX12_inner_4 (by first | assumption | exact ⟨by omega, by omega⟩) (am_gw 1552 (by decide +kernel) (by decide +kernel)) (am_gw 372 (by decide +kernel) (by decide +kernel)) (am_gw 53 (by decide +kernel) (by decide +kernel)) (am_gw 373 (by decide +kernel) (by decide +kernel)) (by decide) (Nat.le_of_ble_eq_true rfl)) ?_
  obtain ⟨z3, e4⟩ : ∃ q : Int, q = (if 0 ≤ (gm_ar n xs ys) then (gm_ar n xs ys) else -(gm_ar n xs ys)) := ⟨_, rfl⟩
  rw [← e4]
  refine q_blk (lv2 := [(0, vr a)]) (st2 := [vr a, vi z3]) kX12_inner_7 rfl ?_
  refine q_Vi (av := []) (st := [vi z3]) (c_X12_border hS hV hn0 hn1) lk_RX12_44 (by decide) rfl rfl hS.ob ⟨_, rfl, rfl⟩ (Nat.le_of_ble_eq_true rfl) eX12_inner_8 (fun z5 e6 => ?_)
  subst e6
  have ew : z3 = gm_abs (gm_ar n xs ys) := e4
  refine q_blk (lv2 := [(0, vr a)]) (st2 := [vi 2, vi (z3 - (gm_bo n xs ys))]) kX12_inner_11 rfl ?_
  refine AQ.of (AS.idiv eX12_inner_13 (by first | assumption | exact ⟨by omega, by omega⟩) ⟨by decide, by decide⟩ (by omega)) ?_
  refine q_blk (lv2 := [(0, vr a)]) (st2 := [vi ((Int.tdiv (z3 - (gm_bo n xs ys)) 2) + 1)]) kX12_inner_14 rfl ?_
  exact q_ri rfl eX12_inner_16 ⟨((Int.tdiv (z3 - (gm_bo n xs ys)) 2) + 1), rfl, (by unfold gm_lin; rw [← ew]), rfl⟩

set_option maxHeartbeats 1000000 in
theorem c_X12_dents {w : am_w} {h : AH} {B : Nat → Prop} {a : Nat} {n cl ow : Int} {xs ys : Int → Int} (hS : LSH h B a n cl ow xs ys) (hV : VC n xs ys) (hn0 : 1 ≤ n) (hn1 : n ≤ 12)  : AE w m_X12_dents 3 [vr a] h (am_intp h (fun z => z = gm_de n xs ys)) := by
  refine AE.of wf_X12_dents (Nat.le_of_ble_eq_true rfl) (am_ok_ip) ?_
  obtain ⟨ca, cf, -, c0, c1, hx⟩ := id hS
  have r1 := gm_ar_r hV (by omega) hn1
  refine q_blk (lv2 := [(0, vr a)]) (st2 := [vr a]) kX12_dents_0 rfl ?_
  refine q_Vi (av := []) (st := []) (c_X12_doubled hS hV hn0 hn1) lk_RX12_35 (by decide) rfl rfl hS.ob ⟨_, rfl, rfl⟩ (Nat.le_of_ble_eq_true rfl) eX12_dents_1 (fun z1 e2 => ?_)
  subst e2
  have jn12 : ∀ (wy : Int), wy = (if 0 < gm_ar n xs ys then (1 : Int) else -1) → AQ w m_X12_dents 3 12 [(0, vr a)] [vi wy] h (am_intp h (fun z => z = gm_de n xs ys)) := by
    intro wy hj
    have hw : wy = 1 ∨ wy = -1 := by rw [hj]; split <;> omega
    refine q_blk (lv2 := [(0, vr a), (1, vi wy), (2, vi 0), (3, vi 0)]) (st2 := []) kX12_dents_12 rfl ?_
    refine am_lp2 (I := fun (s : Int) (k : Int) => (0 ≤ k ∧ k ≤ n) ∧ s = gm_sm (gm_dn1 n xs ys) k.toNat) (μ := fun (s : Int) (k : Int) => (n - k).toNat) (G := fun (s : Int) (k : Int) => AQ w m_X12_dents 3 17 [(0, vr a), (1, vi wy), (2, vi s), (3, vi k)] [] h (am_intp h (fun z => z = gm_de n xs ys))) ?_ 0 0 (⟨⟨by omega, by omega⟩, rfl⟩)
    intro s k hI4 ih3
    obtain ⟨⟨k0, k1⟩, hs⟩ := hI4
    refine q_blk (lv2 := [(0, vr a), (1, vi wy), (2, vi s), (3, vi k)]) (st2 := [vr a, vi k]) kX12_dents_17 rfl ?_
    refine q_gr eX12_dents_19 fl_RX12_7 (Or.inr ⟨_, rfl⟩) c0 rfl ?_
    refine q_al eX12_dents_22 c1 (by decide) ?_
    refine AQ.ic_ge (tgt := 103) eX12_dents_23 (by decide) (by first | assumption | exact ⟨by omega, by omega⟩) (by first | assumption | exact ⟨by omega, by omega⟩) (fun br5 => ?_) (fun br5 => ?_)
    · skip
      refine q_blk (lv2 := [(0, vr a), (1, vi wy), (2, vi s), (3, vi k)]) (st2 := [vi s]) kX12_dents_103 rfl ?_
      exact q_ri rfl eX12_dents_104 ⟨s, rfl, (by rw [hs, show k = n by omega]; exact gm_dnt_de hn0), rfl⟩
    · skip
      have q8 := gm_nx_r k0 (show k < n by omega)
      have v8 := hV k k0 (by omega)
      have v9 := hV _ q8.1 q8.2
      have w8 := v8.1.1
      have w9 := v8.1.2
      have u8 := v8.2.1
      have u9 := v8.2.2
      have w6 := v9.1.1
      have w7 := v9.1.2
      have u6 := v9.2.1
      have u7 := v9.2.2
      have q7 := gm_nx_r q8.1 q8.2
      have v7 := hV _ q7.1 q7.2
      have f1 := am_cc v9.1 v8.1 v7.2 v9.2
      have f2 := am_cc v9.2 v8.2 v7.1 v9.1
      refine q_blk (lv2 := [(0, vr a), (1, vi wy), (2, vi s), (3, vi k)]) (st2 := [vi (k + 1), vr a]) kX12_dents_26 rfl ?_
      refine q_Vi (av := [vi (k + 1)]) (st := []) (c_X12_x1 hS hV hn0 hn1 (k := k) (by omega) (by omega)) lk_RX12_22 (by decide) rfl rfl hS.ob ⟨_, rfl, rfl⟩ (Nat.le_of_ble_eq_true rfl) eX12_dents_30 (fun z6 e7 => ?_)
      subst e7
      refine q_blk (lv2 := [(0, vr a), (1, vi wy), (2, vi s), (3, vi k)]) (st2 := [vi k, vr a, vi (xs (gm_nx n k))]) kX12_dents_33 rfl ?_
      refine q_Vi (av := [vi k]) (st := [vi (xs (gm_nx n k))]) (c_X12_x0 hS hV hn0 hn1 (k := k) (by omega) (by omega)) lk_RX12_22 (by decide) rfl rfl hS.ob ⟨_, rfl, rfl⟩ (Nat.le_of_ble_eq_true rfl) eX12_dents_35 (fun z8 e9 => ?_)
      subst e9
      refine q_blk (lv2 := [(0, vr a), (1, vi wy), (2, vi s), (3, vi k)]) (st2 := [vi (k + 2), vr a, vi ((xs (gm_nx n k)) - (xs k))]) kX12_dents_38 rfl ?_
      refine q_Vi (av := [vi (k + 2)]) (st := [vi ((xs (gm_nx n k)) - (xs k))]) (c_X12_y2 hS hV hn0 hn1 (k := k) (by omega) (by omega)) lk_RX12_26 (by decide) rfl rfl hS.ob ⟨_, rfl, rfl⟩ (Nat.le_of_ble_eq_true rfl) eX12_dents_43 (fun z10 e11 => ?_)
      subst e11
      refine q_blk (lv2 := [(0, vr a), (1, vi wy), (2, vi s), (3, vi k)]) (st2 := [vi (k + 1), vr a, vi (ys (gm_nx n (gm_nx n k))), vi ((xs (gm_nx n k)) - (xs k))]) kX12_dents_46 rfl ?_
      refine q_Vi (av := [vi (k + 1)]) (st := [vi (ys (gm_nx n (gm_nx n k))), vi ((xs (gm_nx n k)) - (xs k))]) (c_X12_y1 hS hV hn0 hn1 (k := k) (by omega) (by omega)) lk_RX12_26 (by decide) rfl rfl hS.ob ⟨_, rfl, rfl⟩ (Nat.le_of_ble_eq_true rfl) eX12_dents_50 (fun z12 e13 => ?_)
      subst e13
      refine q_blk (lv2 := [(0, vr a), (1, vi wy), (2, vi s), (3, vi k)]) (st2 := [vi (k + 1), vr a, vi (((xs (gm_nx n k)) - (xs k)) * ((ys (gm_nx n (gm_nx n k))) - (ys (gm_nx n k))))]) kX12_dents_53 rfl ?_
      refine q_Vi (av := [vi (k + 1)]) (st := [vi (((xs (gm_nx n k)) - (xs k)) * ((ys (gm_nx n (gm_nx n k))) - (ys (gm_nx n k))))]) (c_X12_y1 hS hV hn0 hn1 (k := k) (by omega) (by omega)) lk_RX12_26 (by decide) rfl rfl hS.ob ⟨_, rfl, rfl⟩ (Nat.le_of_ble_eq_true rfl) eX12_dents_59 (fun z14 e15 => ?_)
      subst e15
      refine q_blk (lv2 := [(0, vr a), (1, vi wy), (2, vi s), (3, vi k)]) (st2 := [vi k, vr a, vi (ys (gm_nx n k)), vi (((xs (gm_nx n k)) - (xs k)) * ((ys (gm_nx n (gm_nx n k))) - (ys (gm_nx n k))))]) kX12_dents_62 rfl ?_
      refine q_Vi (av := [vi k]) (st := [vi (ys (gm_nx n k)), vi (((xs (gm_nx n k)) - (xs k)) * ((ys (gm_nx n (gm_nx n k))) - (ys (gm_nx n k))))]) (c_X12_y0 hS hV hn0 hn1 (k := k) (by omega) (by omega)) lk_RX12_26 (by decide) rfl rfl hS.ob ⟨_, rfl, rfl⟩ (Nat.le_of_ble_eq_true rfl) eX12_dents_64 (fun z16 e17 => ?_)
      subst e17
      refine q_blk (lv2 := [(0, vr a), (1, vi wy), (2, vi s), (3, vi k)]) (st2 := [vi (k + 2), vr a, vi ((ys (gm_nx n k)) - (ys k)), vi (((xs (gm_nx n k)) - (xs k)) * ((ys (gm_nx n (gm_nx n k))) - (ys (gm_nx n k))))]) kX12_dents_67 rfl ?_
      refine q_Vi (av := [vi (k + 2)]) (st := [vi ((ys (gm_nx n k)) - (ys k)), vi (((xs (gm_nx n k)) - (xs k)) * ((ys (gm_nx n (gm_nx n k))) - (ys (gm_nx n k))))]) (c_X12_x2 hS hV hn0 hn1 (k := k) (by omega) (by omega)) lk_RX12_22 (by decide) rfl rfl hS.ob ⟨_, rfl, rfl⟩ (Nat.le_of_ble_eq_true rfl) eX12_dents_72 (fun z18 e19 => ?_)
      subst e19
      refine q_blk (lv2 := [(0, vr a), (1, vi wy), (2, vi s), (3, vi k)]) (st2 := [vi (k + 1), vr a, vi (xs (gm_nx n (gm_nx n k))), vi ((ys (gm_nx n k)) - (ys k)), vi (((xs (gm_nx n k)) - (xs k)) * ((ys (gm_nx n (gm_nx n k))) - (ys (gm_nx n k))))]) kX12_dents_75 rfl ?_
      refine q_Vi (av := [vi (k + 1)]) (st := [vi (xs (gm_nx n (gm_nx n k))), vi ((ys (gm_nx n k)) - (ys k)), vi (((xs (gm_nx n k)) - (xs k)) * ((ys (gm_nx n (gm_nx n k))) - (ys (gm_nx n k))))]) (c_X12_x1 hS hV hn0 hn1 (k := k) (by omega) (by omega)) lk_RX12_22 (by decide) rfl rfl hS.ob ⟨_, rfl, rfl⟩ (Nat.le_of_ble_eq_true rfl) eX12_dents_79 (fun z20 e21 => ?_)
      subst e21
      have f3 : -1800 ≤ wy * gm_dnt n xs ys k ∧ wy * gm_dnt n xs ys k ≤ 1800 := by unfold gm_dnt; rcases hw with e | e <;> rw [e] <;> omega
      unfold gm_dnt at f3
      refine q_blk (lv2 := [(0, vr a), (1, vi wy), (2, vi s), (3, vi k), (4, vi ((((xs (gm_nx n k)) - (xs k)) * ((ys (gm_nx n (gm_nx n k))) - (ys (gm_nx n k)))) - (((ys (gm_nx n k)) - (ys k)) * ((xs (gm_nx n (gm_nx n k))) - (xs (gm_nx n k))))))]) (st2 := [vi (wy * ((((xs (gm_nx n k)) - (xs k)) * ((ys (gm_nx n (gm_nx n k))) - (ys (gm_nx n k)))) - (((ys (gm_nx n k)) - (ys k)) * ((xs (gm_nx n (gm_nx n k))) - (xs (gm_nx n k))))))]) kX12_dents_82 rfl ?_
      refine AQ.if_ge (tgt := 97) eX12_dents_91 (by decide) (by first | assumption | exact ⟨by omega, by omega⟩) (fun br22 => ?_) (fun br22 => ?_)
      · skip
        refine q_blk (lv2 := [(0, vr a), (1, vi wy), (2, vi s), (3, vi (k + 1)), (4, vi ((((xs (gm_nx n k)) - (xs k)) * ((ys (gm_nx n (gm_nx n k))) - (ys (gm_nx n k)))) - (((ys (gm_nx n k)) - (ys k)) * ((xs (gm_nx n (gm_nx n k))) - (xs (gm_nx n k))))))]) (st2 := []) kX12_dents_97 rfl ?_
        refine q_goto (tgt := 17) eX12_dents_100 (by decide) ?_
        refine q_sub (lv2 := [(0, vr a), (1, vi wy), (2, vi s), (3, vi (k + 1))]) [0, 1, 2, 3] rfl ?_
        exact ih3 s (k + 1) (⟨⟨by omega, by omega⟩, by rw [gm_sm_s _ k0, ← hs]; unfold gm_dn1; rw [← hj]; unfold gm_dnt; split <;> omega⟩) (by omega)
      · skip
        refine q_blk (lv2 := [(0, vr a), (1, vi wy), (2, vi (s + 1)), (3, vi k), (4, vi ((((xs (gm_nx n k)) - (xs k)) * ((ys (gm_nx n (gm_nx n k))) - (ys (gm_nx n k)))) - (((ys (gm_nx n k)) - (ys k)) * ((xs (gm_nx n (gm_nx n k))) - (xs (gm_nx n k))))))]) (st2 := []) kX12_dents_94 rfl ?_
        refine q_blk (lv2 := [(0, vr a), (1, vi wy), (2, vi (s + 1)), (3, vi (k + 1)), (4, vi ((((xs (gm_nx n k)) - (xs k)) * ((ys (gm_nx n (gm_nx n k))) - (ys (gm_nx n k)))) - (((ys (gm_nx n k)) - (ys k)) * ((xs (gm_nx n (gm_nx n k))) - (xs (gm_nx n k))))))]) (st2 := []) kX12_dents_97 rfl ?_
        refine q_goto (tgt := 17) eX12_dents_100 (by decide) ?_
        refine q_sub (lv2 := [(0, vr a), (1, vi wy), (2, vi (s + 1)), (3, vi (k + 1))]) [0, 1, 2, 3] rfl ?_
        exact ih3 (s + 1) (k + 1) (⟨⟨by omega, by omega⟩, by rw [gm_sm_s _ k0, ← hs]; unfold gm_dn1; rw [← hj]; unfold gm_dnt; split <;> omega⟩) (by omega)
  refine AQ.if_le (tgt := 11) eX12_dents_4 (by decide) (by first | assumption | exact ⟨by omega, by omega⟩) (fun br23 => ?_) (fun br23 => ?_)
  · skip
    refine q_blk (lv2 := [(0, vr a)]) (st2 := [vi (-1)]) kX12_dents_11 rfl ?_
    exact jn12 (-1) (by first | rw [if_neg (by omega)] | rw [if_pos (by omega)])
  · skip
    refine q_blk (lv2 := [(0, vr a)]) (st2 := [vi 1]) kX12_dents_7 rfl ?_
    refine q_goto (tgt := 12) eX12_dents_8 (by decide) ?_
    exact jn12 1 (by first | rw [if_neg (by omega)] | rw [if_pos (by omega)])

set_option maxHeartbeats 2000000 in
theorem c_X12_where {w : am_w} {h : AH} {B : Nat → Prop} {a : Nat} {n cl ow : Int} {xs ys : Int → Int} (hS : LSH h B a n cl ow xs ys) (hV : VC n xs ys) (hn0 : 1 ≤ n) (hn1 : n ≤ 12) (hn3 : 3 ≤ n) {x y : Int} (hxx : am_c x) (hy : am_c y)  : AE w m_X12_where 3 [vr a, vi x, vi y] h (am_intp h (fun z => gm_si z n xs ys x y)) := by
  refine AE.of wf_X12_where (Nat.le_of_ble_eq_true rfl) (am_ok_ip) ?_
  obtain ⟨ca, cf, -, c0, c1, hx⟩ := id hS
  refine q_blk (lv2 := [(0, vr a), (1, vi x), (2, vi y), (3, vi 0), (4, vi 0)]) (st2 := []) kX12_where_0 rfl ?_
  refine am_lp2 (I := fun (ins : Int) (k : Int) => (0 ≤ k ∧ k ≤ n) ∧ (ins = 0 ∨ ins = 1) ∧ (ins = 1 ↔ gm_od n ys xs y x k.toNat) ∧ ∀ j, 0 ≤ j → j < k → ¬ gm_sd n xs ys x y j) (μ := fun (ins : Int) (k : Int) => (n - k).toNat) (G := fun (ins : Int) (k : Int) => AQ w m_X12_where 3 5 [(0, vr a), (1, vi x), (2, vi y), (3, vi ins), (4, vi k)] [] h (am_intp h (fun z => gm_si z n xs ys x y))) ?_ 0 0 (⟨⟨by omega, by omega⟩, Or.inl rfl, ⟨fun q => by omega, fun q => q.elim⟩, fun j j0 j1 => by omega⟩)
  intro ins k hI2 ih1
  obtain ⟨⟨k0, k1⟩, hi, ho, hj0⟩ := hI2
  refine q_blk (lv2 := [(0, vr a), (1, vi x), (2, vi y), (3, vi ins), (4, vi k)]) (st2 := [vr a, vi k]) kX12_where_5 rfl ?_
  refine q_gr eX12_where_8 fl_RX12_7 (Or.inr ⟨_, rfl⟩) c0 rfl ?_
  refine q_al eX12_where_11 c1 (by decide) ?_
  refine AQ.ic_ge (tgt := 182) eX12_where_12 (by decide) (by first | assumption | exact ⟨by omega, by omega⟩) (by first | assumption | exact ⟨by omega, by omega⟩) (fun br3 => ?_) (fun br3 => ?_)
  · skip
    have NO : ¬ gm_os n n xs ys x y := fun ⟨j, j0, j1, q9⟩ => hj0 j j0 (by omega) q9
    refine q_blk (lv2 := [(0, vr a), (1, vi x), (2, vi y), (3, vi ins), (4, vi k)]) (st2 := [vi ins]) kX12_where_182 rfl ?_
    refine AQ.if_eq (tgt := 190) eX12_where_183 (by decide) (by first | assumption | exact ⟨by omega, by omega⟩) (fun br4 => ?_) (fun br4 => ?_)
    · skip
      have br0 : ¬ ins = 1 := by omega
      refine q_blk (lv2 := [(0, vr a), (1, vi x), (2, vi y), (3, vi ins), (4, vi k)]) (st2 := [vi 0]) kX12_where_190 rfl ?_
      exact q_ri rfl eX12_where_191 ⟨0, rfl, Or.inr (Or.inr ⟨rfl, NO, fun q9 => br0 (ho.mpr (by rw [show k = n by omega]; exact (gm_odv NO (by omega)).mpr q9))⟩), rfl⟩
    · skip
      refine q_blk (lv2 := [(0, vr a), (1, vi x), (2, vi y), (3, vi ins), (4, vi k)]) (st2 := [vi 2]) kX12_where_186 rfl ?_
      refine q_goto (tgt := 191) eX12_where_187 (by decide) ?_
      exact q_ri rfl eX12_where_191 ⟨2, rfl, Or.inr (Or.inl ⟨rfl, NO, (gm_odv NO (by omega)).mp (by have q9 := ho.mp (by omega); rw [show k = n by omega] at q9; exact q9)⟩), rfl⟩
  · skip
    have q8 := gm_nx_r k0 (show k < n by omega)
    have v8 := hV k k0 (by omega)
    have v9 := hV _ q8.1 q8.2
    have w8 := v8.1.1
    have w9 := v8.1.2
    have u8 := v8.2.1
    have u9 := v8.2.2
    have w6 := v9.1.1
    have w7 := v9.1.2
    have u6 := v9.2.1
    have u7 := v9.2.2
    have f1 := am_cc v9.1 v8.1 (show am_c y from hy) v8.2
    have f2 := am_cc v9.2 v8.2 (show am_c x from hxx) v8.1
    have f3 := am_cc hxx v8.1 hxx v9.1
    have f4 := am_cc hy v8.2 hy v9.2
    have x0 := hxx.1
    have x1 := hxx.2
    have y0 := hy.1
    have y1 := hy.2
    refine q_blk (lv2 := [(0, vr a), (1, vi x), (2, vi y), (3, vi ins), (4, vi k)]) (st2 := [vi k, vr a]) kX12_where_15 rfl ?_
    refine q_Vi (av := [vi k]) (st := []) (c_X12_x0 hS hV hn0 hn1 (k := k) (by omega) (by omega)) lk_RX12_22 (by decide) rfl rfl hS.ob ⟨_, rfl, rfl⟩ (Nat.le_of_ble_eq_true rfl) eX12_where_18 (fun z5 e6 => ?_)
    subst e6
    refine q_blk (lv2 := [(0, vr a), (1, vi x), (2, vi y), (3, vi ins), (4, vi k), (5, vi (xs k))]) (st2 := [vi k, vr a]) kX12_where_21 rfl ?_
    refine q_Vi (av := [vi k]) (st := []) (c_X12_y0 hS hV hn0 hn1 (k := k) (by omega) (by omega)) lk_RX12_26 (by decide) rfl rfl hS.ob ⟨_, rfl, rfl⟩ (Nat.le_of_ble_eq_true rfl) eX12_where_26 (fun z7 e8 => ?_)
    subst e8
    refine q_blk (lv2 := [(0, vr a), (1, vi x), (2, vi y), (3, vi ins), (4, vi k), (5, vi (xs k)), (6, vi (ys k))]) (st2 := [vi (k + 1), vr a]) kX12_where_29 rfl ?_
    refine q_Vi (av := [vi (k + 1)]) (st := []) (c_X12_x1 hS hV hn0 hn1 (k := k) (by omega) (by omega)) lk_RX12_22 (by decide) rfl rfl hS.ob ⟨_, rfl, rfl⟩ (Nat.le_of_ble_eq_true rfl) eX12_where_36 (fun z9 e10 => ?_)
    subst e10
    refine q_blk (lv2 := [(0, vr a), (1, vi x), (2, vi y), (3, vi ins), (4, vi k), (5, vi (xs k)), (6, vi (ys k)), (7, vi (xs (gm_nx n k)))]) (st2 := [vi (k + 1), vr a]) kX12_where_39 rfl ?_
    refine q_Vi (av := [vi (k + 1)]) (st := []) (c_X12_y1 hS hV hn0 hn1 (k := k) (by omega) (by omega)) lk_RX12_26 (by decide) rfl rfl hS.ob ⟨_, rfl, rfl⟩ (Nat.le_of_ble_eq_true rfl) eX12_where_46 (fun z11 e12 => ?_)
    subst e12
    have jn105 : ∀ (cr : Int), cr = (xs (gm_nx n k) - xs k) * (y - ys k) - (ys (gm_nx n k) - ys k) * (x - xs k) ∧ ¬ gm_sd n xs ys x y k → AQ w m_X12_where 3 105 [(0, vr a), (1, vi x), (2, vi y), (3, vi ins), (4, vi k), (5, vi (xs k)), (6, vi (ys k)), (7, vi (xs (gm_nx n k))), (9, vi cr)] [] h (am_intp h (fun z => gm_si z n xs ys x y)) := by
      intro cr hno9
      obtain ⟨hcr, hno⟩ := hno9
      have jn134 : ∀ (ov : Int), (ov = 1 ∧ ((xs k ≤ x ∧ x < xs (gm_nx n k)) ∨ (xs (gm_nx n k) ≤ x ∧ x < xs k))) ∨ (ov = 0 ∧ ¬ ((xs k ≤ x ∧ x < xs (gm_nx n k)) ∨ (xs (gm_nx n k) ≤ x ∧ x < xs k))) → AQ w m_X12_where 3 134 [(0, vr a), (1, vi x), (2, vi y), (3, vi ins), (4, vi k), (5, vi (xs k)), (6, vi (ys k)), (7, vi (xs (gm_nx n k))), (9, vi cr)] [vi ov] h (am_intp h (fun z => gm_si z n xs ys x y)) := by
        intro ov hov
        have jn176 : ∀ (i2 : Int), (i2 = 0 ∨ i2 = 1) ∧ (i2 = 1 ↔ ¬ (ins = 1 ↔ gm_cx n ys xs y x k)) → AQ w m_X12_where 3 176 [(0, vr a), (1, vi x), (2, vi y), (3, vi i2), (4, vi k)] [] h (am_intp h (fun z => gm_si z n xs ys x y)) := by
          intro i2 hj
          refine q_blk (lv2 := [(0, vr a), (1, vi x), (2, vi y), (3, vi i2), (4, vi (k + 1))]) (st2 := []) kX12_where_176 rfl ?_
          refine q_goto (tgt := 5) eX12_where_179 (by decide) ?_
          exact ih1 i2 (k + 1) (⟨⟨by omega, by omega⟩, hj.1, (by rw [gm_od_s k0, ← ho]; exact hj.2), fun j j0 j1 => (show j = k ∨ j < k by omega).elim (fun e9 => e9 ▸ hno) (fun e9 => hj0 j j0 e9)⟩) (by omega)
        refine q_blk (lv2 := [(0, vr a), (1, vi x), (2, vi y), (3, vi ins), (4, vi k), (5, vi (xs k)), (6, vi (ys k)), (7, vi (xs (gm_nx n k))), (9, vi cr), (10, vi ov)]) (st2 := [vi ov]) kX12_where_134 rfl ?_
        refine AQ.if_eq (tgt := 176) eX12_where_138 (by decide) (by first | assumption | exact ⟨by omega, by omega⟩) (fun br13 => ?_) (fun br13 => ?_)
        · skip
          refine q_sub (lv2 := [(0, vr a), (1, vi x), (2, vi y), (3, vi ins), (4, vi k)]) [0, 1, 2, 3, 4] rfl ?_
          exact jn176 ins (⟨by omega, gm_ovx hno (by omega)⟩)
        · skip
          refine q_blk (lv2 := [(0, vr a), (1, vi x), (2, vi y), (3, vi ins), (4, vi k), (5, vi (xs k)), (6, vi (ys k)), (7, vi (xs (gm_nx n k))), (9, vi cr), (10, vi ov)]) (st2 := [vi (xs k), vi (xs (gm_nx n k))]) kX12_where_141 rfl ?_
          refine AQ.ic_le (tgt := 152) eX12_where_145 (by decide) (by first | assumption | exact ⟨by omega, by omega⟩) (by first | assumption | exact ⟨by omega, by omega⟩) (fun br14 => ?_) (fun br14 => ?_)
          · skip
            refine q_blk (lv2 := [(0, vr a), (1, vi x), (2, vi y), (3, vi ins), (4, vi k), (5, vi (xs k)), (6, vi (ys k)), (7, vi (xs (gm_nx n k))), (9, vi cr), (10, vi ov)]) (st2 := [vi 0]) kX12_where_152 rfl ?_
            refine q_blk (lv2 := [(0, vr a), (1, vi x), (2, vi y), (3, vi ins), (4, vi k), (5, vi (xs k)), (6, vi (ys k)), (7, vi (xs (gm_nx n k))), (9, vi cr), (10, vi ov)]) (st2 := [vi cr, vi 0]) kX12_where_153 rfl ?_
            refine AQ.if_ge (tgt := 162) eX12_where_155 (by decide) (by first | assumption | exact ⟨by omega, by omega⟩) (fun br15 => ?_) (fun br15 => ?_)
            · skip
              refine q_blk (lv2 := [(0, vr a), (1, vi x), (2, vi y), (3, vi ins), (4, vi k), (5, vi (xs k)), (6, vi (ys k)), (7, vi (xs (gm_nx n k))), (9, vi cr), (10, vi ov)]) (st2 := [vi 0, vi 0]) kX12_where_162 rfl ?_
              refine AQ.of (AS.ic_ne_f eX12_where_163 ⟨by decide, by decide⟩ ⟨by decide, by decide⟩ (by decide) (by decide)) ?_
              refine q_blk (lv2 := [(0, vr a), (1, vi x), (2, vi y), (3, vi ins), (4, vi k), (5, vi (xs k)), (6, vi (ys k)), (7, vi (xs (gm_nx n k))), (9, vi cr), (10, vi ov)]) (st2 := [vi ins]) kX12_where_166 rfl ?_
              refine AQ.if_ne (tgt := 174) eX12_where_167 (by decide) (by first | assumption | exact ⟨by omega, by omega⟩) (fun br16 => ?_) (fun br16 => ?_)
              · skip
                refine q_blk (lv2 := [(0, vr a), (1, vi x), (2, vi y), (3, vi ins), (4, vi k), (5, vi (xs k)), (6, vi (ys k)), (7, vi (xs (gm_nx n k))), (9, vi cr), (10, vi ov)]) (st2 := [vi 0]) kX12_where_174 rfl ?_
                refine q_blk (lv2 := [(0, vr a), (1, vi x), (2, vi y), (3, vi 0), (4, vi k), (5, vi (xs k)), (6, vi (ys k)), (7, vi (xs (gm_nx n k))), (9, vi cr), (10, vi ov)]) (st2 := []) kX12_where_175 rfl ?_
                refine q_sub (lv2 := [(0, vr a), (1, vi x), (2, vi y), (3, vi 0), (4, vi k)]) [0, 1, 2, 3, 4] rfl ?_
                exact jn176 0 (⟨by omega, gm_ovx hno (by omega)⟩)
              · skip
                refine q_blk (lv2 := [(0, vr a), (1, vi x), (2, vi y), (3, vi ins), (4, vi k), (5, vi (xs k)), (6, vi (ys k)), (7, vi (xs (gm_nx n k))), (9, vi cr), (10, vi ov)]) (st2 := [vi 1]) kX12_where_170 rfl ?_
                refine q_goto (tgt := 175) eX12_where_171 (by decide) ?_
                refine q_blk (lv2 := [(0, vr a), (1, vi x), (2, vi y), (3, vi 1), (4, vi k), (5, vi (xs k)), (6, vi (ys k)), (7, vi (xs (gm_nx n k))), (9, vi cr), (10, vi ov)]) (st2 := []) kX12_where_175 rfl ?_
                refine q_sub (lv2 := [(0, vr a), (1, vi x), (2, vi y), (3, vi 1), (4, vi k)]) [0, 1, 2, 3, 4] rfl ?_
                exact jn176 1 (⟨by omega, gm_ovx hno (by omega)⟩)
            · skip
              refine q_blk (lv2 := [(0, vr a), (1, vi x), (2, vi y), (3, vi ins), (4, vi k), (5, vi (xs k)), (6, vi (ys k)), (7, vi (xs (gm_nx n k))), (9, vi cr), (10, vi ov)]) (st2 := [vi 1, vi 0]) kX12_where_158 rfl ?_
              refine q_goto (tgt := 163) eX12_where_159 (by decide) ?_
              refine AQ.of (AS.ic_ne_t (tgt := 176) eX12_where_163 (by decide) ⟨by decide, by decide⟩ ⟨by decide, by decide⟩ (by decide)) ?_
              refine q_sub (lv2 := [(0, vr a), (1, vi x), (2, vi y), (3, vi ins), (4, vi k)]) [0, 1, 2, 3, 4] rfl ?_
              exact jn176 ins (⟨by omega, gm_ovx hno (by omega)⟩)
          · skip
            refine q_blk (lv2 := [(0, vr a), (1, vi x), (2, vi y), (3, vi ins), (4, vi k), (5, vi (xs k)), (6, vi (ys k)), (7, vi (xs (gm_nx n k))), (9, vi cr), (10, vi ov)]) (st2 := [vi 1]) kX12_where_148 rfl ?_
            refine q_goto (tgt := 153) eX12_where_149 (by decide) ?_
            refine q_blk (lv2 := [(0, vr a), (1, vi x), (2, vi y), (3, vi ins), (4, vi k), (5, vi (xs k)), (6, vi (ys k)), (7, vi (xs (gm_nx n k))), (9, vi cr), (10, vi ov)]) (st2 := [vi cr, vi 1]) kX12_where_153 rfl ?_
            refine AQ.if_ge (tgt := 162) eX12_where_155 (by decide) (by first | assumption | exact ⟨by omega, by omega⟩) (fun br17 => ?_) (fun br17 => ?_)
            · skip
              refine q_blk (lv2 := [(0, vr a), (1, vi x), (2, vi y), (3, vi ins), (4, vi k), (5, vi (xs k)), (6, vi (ys k)), (7, vi (xs (gm_nx n k))), (9, vi cr), (10, vi ov)]) (st2 := [vi 0, vi 1]) kX12_where_162 rfl ?_
              refine AQ.of (AS.ic_ne_t (tgt := 176) eX12_where_163 (by decide) ⟨by decide, by decide⟩ ⟨by decide, by decide⟩ (by decide)) ?_
              refine q_sub (lv2 := [(0, vr a), (1, vi x), (2, vi y), (3, vi ins), (4, vi k)]) [0, 1, 2, 3, 4] rfl ?_
              exact jn176 ins (⟨by omega, gm_ovx hno (by omega)⟩)
            · skip
              refine q_blk (lv2 := [(0, vr a), (1, vi x), (2, vi y), (3, vi ins), (4, vi k), (5, vi (xs k)), (6, vi (ys k)), (7, vi (xs (gm_nx n k))), (9, vi cr), (10, vi ov)]) (st2 := [vi 1, vi 1]) kX12_where_158 rfl ?_
              refine q_goto (tgt := 163) eX12_where_159 (by decide) ?_
              refine AQ.of (AS.ic_ne_f eX12_where_163 ⟨by decide, by decide⟩ ⟨by decide, by decide⟩ (by decide) (by decide)) ?_
              refine q_blk (lv2 := [(0, vr a), (1, vi x), (2, vi y), (3, vi ins), (4, vi k), (5, vi (xs k)), (6, vi (ys k)), (7, vi (xs (gm_nx n k))), (9, vi cr), (10, vi ov)]) (st2 := [vi ins]) kX12_where_166 rfl ?_
              refine AQ.if_ne (tgt := 174) eX12_where_167 (by decide) (by first | assumption | exact ⟨by omega, by omega⟩) (fun br18 => ?_) (fun br18 => ?_)
              · skip
                refine q_blk (lv2 := [(0, vr a), (1, vi x), (2, vi y), (3, vi ins), (4, vi k), (5, vi (xs k)), (6, vi (ys k)), (7, vi (xs (gm_nx n k))), (9, vi cr), (10, vi ov)]) (st2 := [vi 0]) kX12_where_174 rfl ?_
                refine q_blk (lv2 := [(0, vr a), (1, vi x), (2, vi y), (3, vi 0), (4, vi k), (5, vi (xs k)), (6, vi (ys k)), (7, vi (xs (gm_nx n k))), (9, vi cr), (10, vi ov)]) (st2 := []) kX12_where_175 rfl ?_
                refine q_sub (lv2 := [(0, vr a), (1, vi x), (2, vi y), (3, vi 0), (4, vi k)]) [0, 1, 2, 3, 4] rfl ?_
                exact jn176 0 (⟨by omega, gm_ovx hno (by omega)⟩)
              · skip
                refine q_blk (lv2 := [(0, vr a), (1, vi x), (2, vi y), (3, vi ins), (4, vi k), (5, vi (xs k)), (6, vi (ys k)), (7, vi (xs (gm_nx n k))), (9, vi cr), (10, vi ov)]) (st2 := [vi 1]) kX12_where_170 rfl ?_
                refine q_goto (tgt := 175) eX12_where_171 (by decide) ?_
                refine q_blk (lv2 := [(0, vr a), (1, vi x), (2, vi y), (3, vi 1), (4, vi k), (5, vi (xs k)), (6, vi (ys k)), (7, vi (xs (gm_nx n k))), (9, vi cr), (10, vi ov)]) (st2 := []) kX12_where_175 rfl ?_
                refine q_sub (lv2 := [(0, vr a), (1, vi x), (2, vi y), (3, vi 1), (4, vi k)]) [0, 1, 2, 3, 4] rfl ?_
                exact jn176 1 (⟨by omega, gm_ovx hno (by omega)⟩)
      refine q_blk (lv2 := [(0, vr a), (1, vi x), (2, vi y), (3, vi ins), (4, vi k), (5, vi (xs k)), (6, vi (ys k)), (7, vi (xs (gm_nx n k))), (9, vi cr)]) (st2 := [vi x, vi (xs k)]) kX12_where_105 rfl ?_
      refine AQ.ic_gt (tgt := 117) eX12_where_108 (by decide) (by first | assumption | exact ⟨by omega, by omega⟩) (by first | assumption | exact ⟨by omega, by omega⟩) (fun br19 => ?_) (fun br19 => ?_)
      · skip
        refine q_blk (lv2 := [(0, vr a), (1, vi x), (2, vi y), (3, vi ins), (4, vi k), (5, vi (xs k)), (6, vi (ys k)), (7, vi (xs (gm_nx n k))), (9, vi cr)]) (st2 := [vi x, vi (xs (gm_nx n k))]) kX12_where_117 rfl ?_
        refine AQ.ic_gt (tgt := 133) eX12_where_120 (by decide) (by first | assumption | exact ⟨by omega, by omega⟩) (by first | assumption | exact ⟨by omega, by omega⟩) (fun br20 => ?_) (fun br20 => ?_)
        · skip
          refine q_blk (lv2 := [(0, vr a), (1, vi x), (2, vi y), (3, vi ins), (4, vi k), (5, vi (xs k)), (6, vi (ys k)), (7, vi (xs (gm_nx n k))), (9, vi cr)]) (st2 := [vi 0]) kX12_where_133 rfl ?_
          exact jn134 0 (by omega)
        · skip
          refine q_blk (lv2 := [(0, vr a), (1, vi x), (2, vi y), (3, vi ins), (4, vi k), (5, vi (xs k)), (6, vi (ys k)), (7, vi (xs (gm_nx n k))), (9, vi cr)]) (st2 := [vi (xs k), vi x]) kX12_where_123 rfl ?_
          refine AQ.ic_ge (tgt := 133) eX12_where_126 (by decide) (by first | assumption | exact ⟨by omega, by omega⟩) (by first | assumption | exact ⟨by omega, by omega⟩) (fun br21 => ?_) (fun br21 => ?_)
          · skip
            refine q_blk (lv2 := [(0, vr a), (1, vi x), (2, vi y), (3, vi ins), (4, vi k), (5, vi (xs k)), (6, vi (ys k)), (7, vi (xs (gm_nx n k))), (9, vi cr)]) (st2 := [vi 0]) kX12_where_133 rfl ?_
            exact jn134 0 (by omega)
          · skip
            refine q_blk (lv2 := [(0, vr a), (1, vi x), (2, vi y), (3, vi ins), (4, vi k), (5, vi (xs k)), (6, vi (ys k)), (7, vi (xs (gm_nx n k))), (9, vi cr)]) (st2 := [vi 1]) kX12_where_129 rfl ?_
            refine q_goto (tgt := 134) eX12_where_130 (by decide) ?_
            exact jn134 1 (by omega)
      · skip
        refine q_blk (lv2 := [(0, vr a), (1, vi x), (2, vi y), (3, vi ins), (4, vi k), (5, vi (xs k)), (6, vi (ys k)), (7, vi (xs (gm_nx n k))), (9, vi cr)]) (st2 := [vi (xs (gm_nx n k)), vi x]) kX12_where_111 rfl ?_
        refine AQ.ic_lt (tgt := 129) eX12_where_114 (by decide) (by first | assumption | exact ⟨by omega, by omega⟩) (by first | assumption | exact ⟨by omega, by omega⟩) (fun br22 => ?_) (fun br22 => ?_)
        · skip
          refine q_blk (lv2 := [(0, vr a), (1, vi x), (2, vi y), (3, vi ins), (4, vi k), (5, vi (xs k)), (6, vi (ys k)), (7, vi (xs (gm_nx n k))), (9, vi cr)]) (st2 := [vi 1]) kX12_where_129 rfl ?_
          refine q_goto (tgt := 134) eX12_where_130 (by decide) ?_
          exact jn134 1 (by omega)
        · skip
          refine q_blk (lv2 := [(0, vr a), (1, vi x), (2, vi y), (3, vi ins), (4, vi k), (5, vi (xs k)), (6, vi (ys k)), (7, vi (xs (gm_nx n k))), (9, vi cr)]) (st2 := [vi x, vi (xs (gm_nx n k))]) kX12_where_117 rfl ?_
          refine AQ.ic_gt (tgt := 133) eX12_where_120 (by decide) (by first | assumption | exact ⟨by omega, by omega⟩) (by first | assumption | exact ⟨by omega, by omega⟩) (fun br23 => ?_) (fun br23 => ?_)
          · skip
            refine q_blk (lv2 := [(0, vr a), (1, vi x), (2, vi y), (3, vi ins), (4, vi k), (5, vi (xs k)), (6, vi (ys k)), (7, vi (xs (gm_nx n k))), (9, vi cr)]) (st2 := [vi 0]) kX12_where_133 rfl ?_
            exact jn134 0 (by omega)
          · skip
            refine q_blk (lv2 := [(0, vr a), (1, vi x), (2, vi y), (3, vi ins), (4, vi k), (5, vi (xs k)), (6, vi (ys k)), (7, vi (xs (gm_nx n k))), (9, vi cr)]) (st2 := [vi (xs k), vi x]) kX12_where_123 rfl ?_
            refine AQ.ic_ge (tgt := 133) eX12_where_126 (by decide) (by first | assumption | exact ⟨by omega, by omega⟩) (by first | assumption | exact ⟨by omega, by omega⟩) (fun br24 => ?_) (fun br24 => ?_)
            · skip
              refine q_blk (lv2 := [(0, vr a), (1, vi x), (2, vi y), (3, vi ins), (4, vi k), (5, vi (xs k)), (6, vi (ys k)), (7, vi (xs (gm_nx n k))), (9, vi cr)]) (st2 := [vi 0]) kX12_where_133 rfl ?_
              exact jn134 0 (by omega)
            · skip
              refine q_blk (lv2 := [(0, vr a), (1, vi x), (2, vi y), (3, vi ins), (4, vi k), (5, vi (xs k)), (6, vi (ys k)), (7, vi (xs (gm_nx n k))), (9, vi cr)]) (st2 := [vi 1]) kX12_where_129 rfl ?_
              refine q_goto (tgt := 134) eX12_where_130 (by decide) ?_
              exact jn134 1 (by omega)
    refine q_blk (lv2 := [(0, vr a), (1, vi x), (2, vi y), (3, vi ins), (4, vi k), (5, vi (xs k)), (6, vi (ys k)), (7, vi (xs (gm_nx n k))), (8, vi (ys (gm_nx n k))), (9, vi ((((xs (gm_nx n k)) - (xs k)) * (y - (ys k))) - (((ys (gm_nx n k)) - (ys k)) * (x - (xs k)))))]) (st2 := [vi ((((xs (gm_nx n k)) - (xs k)) * (y - (ys k))) - (((ys (gm_nx n k)) - (ys k)) * (x - (xs k))))]) kX12_where_49 rfl ?_
    refine AQ.if_ne (tgt := 105) eX12_where_76 (by decide) (by first | assumption | exact ⟨by omega, by omega⟩) (fun br25 => ?_) (fun br25 => ?_)
    · skip
      refine q_sub (lv2 := [(0, vr a), (1, vi x), (2, vi y), (3, vi ins), (4, vi k), (5, vi (xs k)), (6, vi (ys k)), (7, vi (xs (gm_nx n k))), (9, vi ((((xs (gm_nx n k)) - (xs k)) * (y - (ys k))) - (((ys (gm_nx n k)) - (ys k)) * (x - (xs k)))))]) [0, 1, 2, 3, 4, 5, 6, 7, 9] rfl ?_
      exact jn105 ((((xs (gm_nx n k)) - (xs k)) * (y - (ys k))) - (((ys (gm_nx n k)) - (ys k)) * (x - (xs k)))) (⟨rfl, fun hs9 => by have h9 := gm_onl.mp hs9; omega⟩)
    · skip
      refine q_blk (lv2 := [(0, vr a), (1, vi x), (2, vi y), (3, vi ins), (4, vi k), (5, vi (xs k)), (6, vi (ys k)), (7, vi (xs (gm_nx n k))), (8, vi (ys (gm_nx n k))), (9, vi ((((xs (gm_nx n k)) - (xs k)) * (y - (ys k))) - (((ys (gm_nx n k)) - (ys k)) * (x - (xs k)))))]) (st2 := [vi ((x - (xs k)) * (x - (xs (gm_nx n k))))]) kX12_where_79 rfl ?_
      refine AQ.if_gt (tgt := 105) eX12_where_88 (by decide) (by first | assumption | exact ⟨by omega, by omega⟩) (fun br26 => ?_) (fun br26 => ?_)
      · skip
        refine q_sub (lv2 := [(0, vr a), (1, vi x), (2, vi y), (3, vi ins), (4, vi k), (5, vi (xs k)), (6, vi (ys k)), (7, vi (xs (gm_nx n k))), (9, vi ((((xs (gm_nx n k)) - (xs k)) * (y - (ys k))) - (((ys (gm_nx n k)) - (ys k)) * (x - (xs k)))))]) [0, 1, 2, 3, 4, 5, 6, 7, 9] rfl ?_
        exact jn105 ((((xs (gm_nx n k)) - (xs k)) * (y - (ys k))) - (((ys (gm_nx n k)) - (ys k)) * (x - (xs k)))) (⟨rfl, fun hs9 => by have h9 := gm_onl.mp hs9; omega⟩)
      · skip
        refine q_blk (lv2 := [(0, vr a), (1, vi x), (2, vi y), (3, vi ins), (4, vi k), (5, vi (xs k)), (6, vi (ys k)), (7, vi (xs (gm_nx n k))), (8, vi (ys (gm_nx n k))), (9, vi ((((xs (gm_nx n k)) - (xs k)) * (y - (ys k))) - (((ys (gm_nx n k)) - (ys k)) * (x - (xs k)))))]) (st2 := [vi ((y - (ys k)) * (y - (ys (gm_nx n k))))]) kX12_where_91 rfl ?_
        refine AQ.if_gt (tgt := 105) eX12_where_100 (by decide) (by first | assumption | exact ⟨by omega, by omega⟩) (fun br27 => ?_) (fun br27 => ?_)
        · skip
          refine q_sub (lv2 := [(0, vr a), (1, vi x), (2, vi y), (3, vi ins), (4, vi k), (5, vi (xs k)), (6, vi (ys k)), (7, vi (xs (gm_nx n k))), (9, vi ((((xs (gm_nx n k)) - (xs k)) * (y - (ys k))) - (((ys (gm_nx n k)) - (ys k)) * (x - (xs k)))))]) [0, 1, 2, 3, 4, 5, 6, 7, 9] rfl ?_
          exact jn105 ((((xs (gm_nx n k)) - (xs k)) * (y - (ys k))) - (((ys (gm_nx n k)) - (ys k)) * (x - (xs k)))) (⟨rfl, fun hs9 => by have h9 := gm_onl.mp hs9; omega⟩)
        · skip
          refine q_blk (lv2 := [(0, vr a), (1, vi x), (2, vi y), (3, vi ins), (4, vi k), (5, vi (xs k)), (6, vi (ys k)), (7, vi (xs (gm_nx n k))), (8, vi (ys (gm_nx n k))), (9, vi ((((xs (gm_nx n k)) - (xs k)) * (y - (ys k))) - (((ys (gm_nx n k)) - (ys k)) * (x - (xs k)))))]) (st2 := [vi 1]) kX12_where_103 rfl ?_
          exact q_ri rfl eX12_where_104 ⟨1, rfl, Or.inl ⟨rfl, k, k0, by omega, gm_onl.mpr ⟨by omega, by omega, by omega⟩⟩, rfl⟩
