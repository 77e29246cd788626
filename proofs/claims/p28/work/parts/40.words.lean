/-! CornerClaims$Setup: words; the tokens of a text. -/
theorem c_XS_charAtI {w : am_w} {h : AH} {i : Nat} (hi : i < am_STR.length) {k : Int} (k0 : 0 ≤ k) (k1 : k < (am_len i : Int)) : AE w m_XS_charAt 4 [vr (w.2 i), vi k] h (am_intp h (fun z => z = am_byt i k.toNat)) := by
  obtain ⟨j, rfl⟩ := Int.eq_ofNat_of_zero_le k0
  exact c_XS_charAt hi (by omega)
/-- this word stands there -/
abbrev gm_wd (i : Nat) (tx : Int → Int) (s e : Int) : Prop := (am_len i : Int) = e - s ∧ ∀ k : Nat, k < am_len i → tx (s + k) = am_byt i k
def gm_kw (tx : Int → Int) (s e : Int) : Int := if gm_wd 1 tx s e then 3 else if gm_wd 2 tx s e then 4 else if gm_wd 3 tx s e then 5 else if gm_wd 4 tx s e then 6 else if gm_wd 5 tx s e then -1 else if gm_wd 6 tx s e then -2 else if gm_wd 7 tx s e then -3 else if gm_wd 8 tx s e then -4 else if gm_wd 9 tx s e then -5 else 1
theorem gm_kw_r (tx : Int → Int) (s e : Int) : -5 ≤ gm_kw tx s e ∧ gm_kw tx s e ≤ 6 ∧ gm_kw tx s e ≠ 0 ∧ gm_kw tx s e ≠ 2 := by
  unfold gm_kw
  repeat' split
  all_goals omega
theorem gm_ks_r (x : Int) : 1 ≤ gm_ks x ∧ gm_ks x ≤ 59 ∧ gm_ks x ≠ 2 := by
  unfold gm_ks
  split <;> omega
/-- the end of a run -/
def gm_ru (tx : Int → Int) (len a b : Int) : Nat → Int → Int
  | 0, s => s
  | n + 1, s => if s < len ∧ a ≤ tx s ∧ tx s ≤ b then gm_ru tx len a b n (s + 1) else s
theorem gm_ru_er {tx : Int → Int} {len a b : Int} : ∀ {n : Nat} {s : Int}, s ≤ len → len - s ≤ n → gm_er tx len a b s (gm_ru tx len a b n s)
  | 0, s, h, hn => ⟨⟨Int.le_refl _, h⟩, fun k k0 k1 => absurd k1 (by simp only [gm_ru]; omega), Or.inl (by simp only [gm_ru]; omega)⟩
  | n + 1, s, h, hn => by
    unfold gm_ru
    split
    · rename_i c
      obtain ⟨⟨a1, a2⟩, a3, a4⟩ := gm_ru_er (tx := tx) (len := len) (a := a) (b := b) (n := n) (s := s + 1) (by omega) (by omega)
      refine ⟨⟨by omega, a2⟩, fun k k0 k1 => ?_, a4⟩
      by_cases e : k = s
      · subst e; exact c.2
      · exact a3 k (by omega) k1
    · exact ⟨⟨Int.le_refl _, h⟩, fun k k0 k1 => by omega, by omega⟩
/-- the tokens of a text: kind, place, number -/
def gm_to (tx : Int → Int) (len : Int) : Nat → Int → List (Int × Int × Int)
  | 0, _ => []
  | n + 1, s => if len ≤ s then [(0, len, 0)] else
    if 48 ≤ tx s ∧ tx s ≤ 57 then (2, s, gm_va tx s (gm_ru tx len 48 57 800 s - s).toNat) :: gm_to tx len n (gm_ru tx len 48 57 800 s) else
    if 97 ≤ tx s ∧ tx s ≤ 122 then (gm_kw tx s (gm_ru tx len 97 122 800 s), s, 0) :: gm_to tx len n (gm_ru tx len 97 122 800 s) else
    if tx s ≠ 32 then (gm_ks (tx s), s, 0) :: gm_to tx len n (s + 1) else gm_to tx len n (s + 1)
theorem gm_to_e {tx : Int → Int} {len s : Int} {n : Nat} (hn : 0 < n) (h : len ≤ s) : gm_to tx len n s = [(0, len, 0)] := by
  obtain ⟨n, rfl⟩ : ∃ m, n = m + 1 := ⟨n - 1, by omega⟩
  exact if_pos h
theorem gm_to_d {tx : Int → Int} {len s z : Int} {n m : Nat} (hn : n = m + 1) (h : s < len) (hl : len ≤ 800) (h0 : 0 ≤ s) (hd : 48 ≤ tx s ∧ tx s ≤ 57) (hz : gm_er tx len 48 57 s z) : gm_to tx len n s = (2, s, gm_va tx s (z - s).toNat) :: gm_to tx len m z := by
  subst hn
  have e := gm_er_one hz (gm_ru_er (n := 800) (by omega) (by omega))
  rw [gm_to, if_neg (by omega), if_pos hd, ← e]
theorem gm_to_w {tx : Int → Int} {len s z : Int} {n m : Nat} (hn : n = m + 1) (h : s < len) (hl : len ≤ 800) (h0 : 0 ≤ s) (hd : 97 ≤ tx s ∧ tx s ≤ 122) (hz : gm_er tx len 97 122 s z) : gm_to tx len n s = (gm_kw tx s z, s, 0) :: gm_to tx len m z := by
  subst hn
  have e := gm_er_one hz (gm_ru_er (n := 800) (by omega) (by omega))
  rw [gm_to, if_neg (by omega), if_neg (by omega), if_pos hd, ← e]
theorem gm_to_s {tx : Int → Int} {len s : Int} {n m : Nat} (hn : n = m + 1) (h : s < len) (hd : ¬ (48 ≤ tx s ∧ tx s ≤ 57)) (hw : ¬ (97 ≤ tx s ∧ tx s ≤ 122)) (hx : tx s ≠ 32) : gm_to tx len n s = (gm_ks (tx s), s, 0) :: gm_to tx len m (s + 1) := by
  subst hn
  rw [gm_to, if_neg (by omega), if_neg hd, if_neg hw, if_pos hx]
theorem gm_to_b {tx : Int → Int} {len s : Int} {n m : Nat} (hn : n = m + 1) (h : s < len) (hx : tx s = 32) : gm_to tx len n s = gm_to tx len m (s + 1) := by
  subst hn
  rw [gm_to, if_neg (by omega), if_neg (by omega), if_neg (by omega), if_neg (by omega)]
/-- the arrays begin with these tokens; all that they hold is small -/
def TKA (kd st vl : Int → Int) (l : List (Int × Int × Int)) : Prop := (∀ (k : Nat) (o : Int × Int × Int), l[k]? = some o → kd k = o.1 ∧ st k = o.2.1 ∧ vl k = o.2.2) ∧ (∀ i, 0 ≤ i → i < 801 → -5 ≤ kd i ∧ kd i ≤ 100) ∧ ∀ i, 0 ≤ i → i < 801 → 0 ≤ vl i ∧ vl i ≤ 10000
theorem TKA.add {kd st vl : Int → Int} {l : List (Int × Int × Int)} (h : TKA kd st vl l) {k s v : Int} (hk : -5 ≤ k ∧ k ≤ 100) (hv : 0 ≤ v ∧ v ≤ 10000) : TKA (am_uI kd (l.length : Int) k) (am_uI st (l.length : Int) s) (am_uI vl (l.length : Int) v) (l ++ [(k, s, v)]) := by
  obtain ⟨h1, h2, h3⟩ := h
  refine ⟨fun i o ho => ?_, fun i i0 i1 => ?_, fun i i0 i1 => ?_⟩
  · have hlt := (List.getElem?_eq_some_iff.mp ho).1
    rw [List.length_append, List.length_singleton] at hlt
    by_cases e : i = l.length
    · subst e
      rw [List.getElem?_append_right (Nat.le_refl _), Nat.sub_self] at ho
      cases ho
      exact ⟨am_uI_at _ _ _, am_uI_at _ _ _, am_uI_at _ _ _⟩
    · rw [List.getElem?_append_left (by omega)] at ho
      have := h1 i o ho
      rw [am_uI_ne _ _ (by omega), am_uI_ne _ _ (by omega), am_uI_ne _ _ (by omega)]
      exact this
  · by_cases e : i = (l.length : Int)
    · rw [e, am_uI_at]; exact hk
    · rw [am_uI_ne _ _ e]; exact h2 i i0 i1
  · by_cases e : i = (l.length : Int)
    · rw [e, am_uI_at]; exact hv
    · rw [am_uI_ne _ _ e]; exact h3 i i0 i1
theorem GTX.kept {h h1 : AH} {u lo hi : Nat} {tx : Int → Int} (hX : GTX h u tx) (f : am_fr h h1 lo hi) (hd : u < lo ∨ hi ≤ u) : GTX h1 u tx := (f.2 u (by omega)).trans hX

set_option maxHeartbeats 1000000 in
theorem c_X6_isWord {w : am_w} {h : AH} {t u b j : Nat} {kd st vl : Int → Int} {tc he nu px cl hs er ea : Int} {cd : Int → Int} (hS : ST h t u b j kd st vl tc he nu px cl hs er ea cd) {tx : Int → Int} (hX : GTX h u tx) (xr : ∀ i, -128 ≤ tx i ∧ tx i ≤ 127) {i : Nat} (hi : i < am_STR.length) {s e : Int} (s0 : 0 ≤ s) (s1 : s ≤ e) (e1 : e ≤ 800)  : AE w m_X6_isWord 5 [vr t, vr (w.2 i), vi s, vi e] h (am_intp h (fun z => am_b z (gm_wd i tx s e))) := by
  refine AE.of wf_X6_isWord (Nat.le_of_ble_eq_true rfl) (am_ok_zp (fun z q => am_bz q)) ?_
  obtain ⟨c0, c1, c2, c3, c4, cj, c5, cL⟩ := id hS
  have hX0 := id hX
  unfold GTX at hX0
  have hz1 := (am_byt_r i hi).1
  refine q_blk (lv2 := [(0, vr t), (1, vr (w.2 i)), (2, vi s), (3, vi e)]) (st2 := [vr (w.2 i)]) kX6_isWord_0 rfl ?_
  refine q_Ti hi (av := []) (st := []) (c_XS_length hi) lk_RX6_139 (by decide) rfl rfl rfl (Nat.le_of_ble_eq_true rfl) eX6_isWord_1 (fun z1 e2 => ?_)
  subst e2
  refine q_blk (lv2 := [(0, vr t), (1, vr (w.2 i)), (2, vi s), (3, vi e)]) (st2 := [vi (e - s), vi (am_len i : Int)]) kX6_isWord_4 rfl ?_
  refine AQ.ic_eq (tgt := 12) eX6_isWord_7 (by decide) (by first | assumption | exact ⟨by omega, by omega⟩) (by first | assumption | exact ⟨by omega, by omega⟩) (fun br3 => ?_) (fun br3 => ?_)
  · skip
    refine q_blk (lv2 := [(0, vr t), (1, vr (w.2 i)), (2, vi s), (3, vi e), (4, vi 0)]) (st2 := []) kX6_isWord_12 rfl ?_
    refine am_lp1 (I := fun (k : Int) => (0 ≤ k ∧ k ≤ am_len i) ∧ ∀ q : Nat, (q : Int) < k → tx (s + q) = am_byt i q) (μ := fun (k : Int) => ((am_len i : Int) - k).toNat) (G := fun (k : Int) => AQ w m_X6_isWord 5 15 [(0, vr t), (1, vr (w.2 i)), (2, vi s), (3, vi e), (4, vi k)] [] h (am_intp h (fun z => am_b z (gm_wd i tx s e)))) ?_ 0 (⟨⟨by omega, by omega⟩, fun q q0 => by omega⟩)
    intro k hI5 ih4
    obtain ⟨⟨k0, k1⟩, hr⟩ := hI5
    refine q_blk (lv2 := [(0, vr t), (1, vr (w.2 i)), (2, vi s), (3, vi e), (4, vi k)]) (st2 := [vr (w.2 i), vi k]) kX6_isWord_15 rfl ?_
    refine q_Ti hi (av := []) (st := [vi k]) (c_XS_length hi) lk_RX6_139 (by decide) rfl rfl rfl (Nat.le_of_ble_eq_true rfl) eX6_isWord_18 (fun z6 e7 => ?_)
    subst e7
    refine AQ.ic_ge (tgt := 49) eX6_isWord_21 (by decide) (by first | assumption | exact ⟨by omega, by omega⟩) (by first | assumption | exact ⟨by omega, by omega⟩) (fun br8 => ?_) (fun br8 => ?_)
    · skip
      refine q_blk (lv2 := [(0, vr t), (1, vr (w.2 i)), (2, vi s), (3, vi e), (4, vi k)]) (st2 := [vi 1]) kX6_isWord_49 rfl ?_
      exact q_rz rfl eX6_isWord_50 (by decide) ⟨1, rfl, Or.inl ⟨rfl, ⟨by omega, fun q hq => by have := hr q (by omega); exact this⟩⟩, rfl⟩
    · skip
      refine q_blk (lv2 := [(0, vr t), (1, vr (w.2 i)), (2, vi s), (3, vi e), (4, vi k)]) (st2 := [vi (s + k), vr t]) kX6_isWord_24 rfl ?_
      refine q_Vi (av := [vi (s + k)]) (st := []) (c_X6_byteAt hS hX xr (by omega) (by omega)) lk_RX6_87 (by decide) rfl rfl hS.ob ⟨_, rfl, rfl⟩ (Nat.le_of_ble_eq_true rfl) eX6_isWord_29 (fun z9 e10 => ?_)
      subst e10
      refine q_blk (lv2 := [(0, vr t), (1, vr (w.2 i)), (2, vi s), (3, vi e), (4, vi k)]) (st2 := [vi k, vr (w.2 i), vi (tx (s + k))]) kX6_isWord_32 rfl ?_
      refine q_Ti hi (av := [vi k]) (st := [vi (tx (s + k))]) (c_XS_charAtI hi (by omega) (by omega)) lk_RX6_144 (by decide) rfl rfl rfl (Nat.le_of_ble_eq_true rfl) eX6_isWord_35 (fun z11 e12 => ?_)
      subst e12
      have xk := xr (s + k)
      have bk := (am_byt_r i hi).2 k.toNat (by omega)
      refine AQ.ic_eq (tgt := 43) eX6_isWord_38 (by decide) (by first | assumption | exact ⟨by omega, by omega⟩) (by first | assumption | exact ⟨by omega, by omega⟩) (fun br13 => ?_) (fun br13 => ?_)
      · skip
        refine q_blk (lv2 := [(0, vr t), (1, vr (w.2 i)), (2, vi s), (3, vi e), (4, vi (k + 1))]) (st2 := []) kX6_isWord_43 rfl ?_
        refine q_goto (tgt := 15) eX6_isWord_46 (by decide) ?_
        exact ih4 (k + 1) (⟨⟨by omega, by omega⟩, fun q q0 => by
      by_cases c : (q : Int) < k
      · exact hr q c
      · obtain rfl : k = (q : Int) := by omega
        exact br13⟩) (by omega)
      · skip
        refine q_blk (lv2 := [(0, vr t), (1, vr (w.2 i)), (2, vi s), (3, vi e), (4, vi k)]) (st2 := [vi 0]) kX6_isWord_41 rfl ?_
        exact q_rz rfl eX6_isWord_42 (by decide) ⟨0, rfl, Or.inr ⟨rfl, fun q => br13 (by have := q.2 k.toNat (by omega); rw [Int.toNat_of_nonneg k0] at this; exact this)⟩, rfl⟩
  · skip
    refine q_blk (lv2 := [(0, vr t), (1, vr (w.2 i)), (2, vi s), (3, vi e)]) (st2 := [vi 0]) kX6_isWord_10 rfl ?_
    exact q_rz rfl eX6_isWord_11 (by decide) ⟨0, rfl, Or.inr ⟨rfl, fun q => absurd q.1 (by omega)⟩, rfl⟩

set_option maxHeartbeats 1000000 in
theorem c_X6_kindOfWord {w : am_w} {h : AH} {t u b j : Nat} {kd st vl : Int → Int} {tc he nu px cl hs er ea : Int} {cd : Int → Int} (hS : ST h t u b j kd st vl tc he nu px cl hs er ea cd) {tx : Int → Int} (hX : GTX h u tx) (xr : ∀ i, -128 ≤ tx i ∧ tx i ≤ 127) {s e : Int} (s0 : 0 ≤ s) (s1 : s ≤ e) (e1 : e ≤ 800)  : AE w m_X6_kindOfWord 6 [vr t, vi s, vi e] h (am_intp h (fun z => z = gm_kw tx s e)) := by
  refine AE.of wf_X6_kindOfWord (Nat.le_of_ble_eq_true rfl) (am_ok_ip) ?_
  obtain ⟨c0, c1, c2, c3, c4, cj, c5, cL⟩ := id hS
  have hX0 := id hX
  unfold GTX at hX0
  refine q_blk (lv2 := [(0, vr t), (1, vi s), (2, vi e)]) (st2 := [vr t]) kX6_kindOfWord_0 rfl ?_
  refine AQ.of (AS.ldcS (i := 1) (by decide) ⟨rfl, rfl⟩ eX6_kindOfWord_1) ?_
  refine q_blk (lv2 := [(0, vr t), (1, vi s), (2, vi e)]) (st2 := [vi e, vi s, vr (w.2 1), vr t]) kX6_kindOfWord_3 rfl ?_
  refine q_Vi (av := [vr (w.2 1), vi s, vi e]) (st := []) (c_X6_isWord hS hX xr (i := 1) (by decide) s0 s1 e1) lk_RX6_119 (by decide) rfl rfl hS.ob ⟨_, rfl, rfl⟩ (Nat.le_of_ble_eq_true rfl) eX6_kindOfWord_5 (fun z1 e2 => ?_)
  rcases e2 with ⟨rfl, e2⟩ | ⟨rfl, e2⟩
  · skip
    refine AQ.of (AS.if_eq_f eX6_kindOfWord_8 ⟨by decide, by decide⟩ (by decide) (by decide)) ?_
    refine q_blk (lv2 := [(0, vr t), (1, vi s), (2, vi e)]) (st2 := [vi 3]) kX6_kindOfWord_11 rfl ?_
    refine q_goto (tgt := 141) eX6_kindOfWord_12 (by decide) ?_
    exact q_ri rfl eX6_kindOfWord_141 ⟨3, rfl, by unfold gm_kw; rw [if_pos e2], rfl⟩
  · skip
    refine AQ.of (AS.if_eq_t (tgt := 15) eX6_kindOfWord_8 (by decide) ⟨by decide, by decide⟩ (by decide)) ?_
    refine q_blk (lv2 := [(0, vr t), (1, vi s), (2, vi e)]) (st2 := [vr t]) kX6_kindOfWord_15 rfl ?_
    refine AQ.of (AS.ldcS (i := 2) (by decide) ⟨rfl, rfl⟩ eX6_kindOfWord_16) ?_
    refine q_blk (lv2 := [(0, vr t), (1, vi s), (2, vi e)]) (st2 := [vi e, vi s, vr (w.2 2), vr t]) kX6_kindOfWord_18 rfl ?_
    refine q_Vi (av := [vr (w.2 2), vi s, vi e]) (st := []) (c_X6_isWord hS hX xr (i := 2) (by decide) s0 s1 e1) lk_RX6_119 (by decide) rfl rfl hS.ob ⟨_, rfl, rfl⟩ (Nat.le_of_ble_eq_true rfl) eX6_kindOfWord_20 (fun z3 e4 => ?_)
    rcases e4 with ⟨rfl, e4⟩ | ⟨rfl, e4⟩
    · skip
      refine AQ.of (AS.if_eq_f eX6_kindOfWord_23 ⟨by decide, by decide⟩ (by decide) (by decide)) ?_
      refine q_blk (lv2 := [(0, vr t), (1, vi s), (2, vi e)]) (st2 := [vi 4]) kX6_kindOfWord_26 rfl ?_
      refine q_goto (tgt := 141) eX6_kindOfWord_27 (by decide) ?_
      exact q_ri rfl eX6_kindOfWord_141 ⟨4, rfl, by unfold gm_kw; rw [if_neg e2, if_pos e4], rfl⟩
    · skip
      refine AQ.of (AS.if_eq_t (tgt := 30) eX6_kindOfWord_23 (by decide) ⟨by decide, by decide⟩ (by decide)) ?_
      refine q_blk (lv2 := [(0, vr t), (1, vi s), (2, vi e)]) (st2 := [vr t]) kX6_kindOfWord_30 rfl ?_
      refine AQ.of (AS.ldcS (i := 3) (by decide) ⟨rfl, rfl⟩ eX6_kindOfWord_31) ?_
      refine q_blk (lv2 := [(0, vr t), (1, vi s), (2, vi e)]) (st2 := [vi e, vi s, vr (w.2 3), vr t]) kX6_kindOfWord_33 rfl ?_
      refine q_Vi (av := [vr (w.2 3), vi s, vi e]) (st := []) (c_X6_isWord hS hX xr (i := 3) (by decide) s0 s1 e1) lk_RX6_119 (by decide) rfl rfl hS.ob ⟨_, rfl, rfl⟩ (Nat.le_of_ble_eq_true rfl) eX6_kindOfWord_35 (fun z5 e6 => ?_)
      rcases e6 with ⟨rfl, e6⟩ | ⟨rfl, e6⟩
      · skip
        refine AQ.of (AS.if_eq_f eX6_kindOfWord_38 ⟨by decide, by decide⟩ (by decide) (by decide)) ?_
        refine q_blk (lv2 := [(0, vr t), (1, vi s), (2, vi e)]) (st2 := [vi 5]) kX6_kindOfWord_41 rfl ?_
        refine q_goto (tgt := 141) eX6_kindOfWord_42 (by decide) ?_
        exact q_ri rfl eX6_kindOfWord_141 ⟨5, rfl, by unfold gm_kw; rw [if_neg e2, if_neg e4, if_pos e6], rfl⟩
      · skip
        refine AQ.of (AS.if_eq_t (tgt := 45) eX6_kindOfWord_38 (by decide) ⟨by decide, by decide⟩ (by decide)) ?_
        refine q_blk (lv2 := [(0, vr t), (1, vi s), (2, vi e)]) (st2 := [vr t]) kX6_kindOfWord_45 rfl ?_
        refine AQ.of (AS.ldcS (i := 4) (by decide) ⟨rfl, rfl⟩ eX6_kindOfWord_46) ?_
        refine q_blk (lv2 := [(0, vr t), (1, vi s), (2, vi e)]) (st2 := [vi e, vi s, vr (w.2 4), vr t]) kX6_kindOfWord_48 rfl ?_
        refine q_Vi (av := [vr (w.2 4), vi s, vi e]) (st := []) (c_X6_isWord hS hX xr (i := 4) (by decide) s0 s1 e1) lk_RX6_119 (by decide) rfl rfl hS.ob ⟨_, rfl, rfl⟩ (Nat.le_of_ble_eq_true rfl) eX6_kindOfWord_50 (fun z7 e8 => ?_)
        rcases e8 with ⟨rfl, e8⟩ | ⟨rfl, e8⟩
        · skip
          refine AQ.of (AS.if_eq_f eX6_kindOfWord_53 ⟨by decide, by decide⟩ (by decide) (by decide)) ?_
          refine q_blk (lv2 := [(0, vr t), (1, vi s), (2, vi e)]) (st2 := [vi 6]) kX6_kindOfWord_56 rfl ?_
          refine q_goto (tgt := 141) eX6_kindOfWord_58 (by decide) ?_
          exact q_ri rfl eX6_kindOfWord_141 ⟨6, rfl, by unfold gm_kw; rw [if_neg e2, if_neg e4, if_neg e6, if_pos e8], rfl⟩
        · skip
          refine AQ.of (AS.if_eq_t (tgt := 61) eX6_kindOfWord_53 (by decide) ⟨by decide, by decide⟩ (by decide)) ?_
          refine q_blk (lv2 := [(0, vr t), (1, vi s), (2, vi e)]) (st2 := [vr t]) kX6_kindOfWord_61 rfl ?_
          refine AQ.of (AS.ldcS (i := 5) (by decide) ⟨rfl, rfl⟩ eX6_kindOfWord_62) ?_
          refine q_blk (lv2 := [(0, vr t), (1, vi s), (2, vi e)]) (st2 := [vi e, vi s, vr (w.2 5), vr t]) kX6_kindOfWord_64 rfl ?_
          refine q_Vi (av := [vr (w.2 5), vi s, vi e]) (st := []) (c_X6_isWord hS hX xr (i := 5) (by decide) s0 s1 e1) lk_RX6_119 (by decide) rfl rfl hS.ob ⟨_, rfl, rfl⟩ (Nat.le_of_ble_eq_true rfl) eX6_kindOfWord_66 (fun z9 e10 => ?_)
          rcases e10 with ⟨rfl, e10⟩ | ⟨rfl, e10⟩
          · skip
            refine AQ.of (AS.if_eq_f eX6_kindOfWord_69 ⟨by decide, by decide⟩ (by decide) (by decide)) ?_
            refine q_blk (lv2 := [(0, vr t), (1, vi s), (2, vi e)]) (st2 := [vi (-1)]) kX6_kindOfWord_72 rfl ?_
            refine q_goto (tgt := 141) eX6_kindOfWord_73 (by decide) ?_
            exact q_ri rfl eX6_kindOfWord_141 ⟨(-1), rfl, by unfold gm_kw; rw [if_neg e2, if_neg e4, if_neg e6, if_neg e8, if_pos e10], rfl⟩
          · skip
            refine AQ.of (AS.if_eq_t (tgt := 76) eX6_kindOfWord_69 (by decide) ⟨by decide, by decide⟩ (by decide)) ?_
            refine q_blk (lv2 := [(0, vr t), (1, vi s), (2, vi e)]) (st2 := [vr t]) kX6_kindOfWord_76 rfl ?_
            refine AQ.of (AS.ldcS (i := 6) (by decide) ⟨rfl, rfl⟩ eX6_kindOfWord_77) ?_
            refine q_blk (lv2 := [(0, vr t), (1, vi s), (2, vi e)]) (st2 := [vi e, vi s, vr (w.2 6), vr t]) kX6_kindOfWord_79 rfl ?_
            refine q_Vi (av := [vr (w.2 6), vi s, vi e]) (st := []) (c_X6_isWord hS hX xr (i := 6) (by decide) s0 s1 e1) lk_RX6_119 (by decide) rfl rfl hS.ob ⟨_, rfl, rfl⟩ (Nat.le_of_ble_eq_true rfl) eX6_kindOfWord_81 (fun z11 e12 => ?_)
            rcases e12 with ⟨rfl, e12⟩ | ⟨rfl, e12⟩
            · skip
              refine AQ.of (AS.if_eq_f eX6_kindOfWord_84 ⟨by decide, by decide⟩ (by decide) (by decide)) ?_
              refine q_blk (lv2 := [(0, vr t), (1, vi s), (2, vi e)]) (st2 := [vi (-2)]) kX6_kindOfWord_87 rfl ?_
              refine q_goto (tgt := 141) eX6_kindOfWord_89 (by decide) ?_
              exact q_ri rfl eX6_kindOfWord_141 ⟨(-2), rfl, by unfold gm_kw; rw [if_neg e2, if_neg e4, if_neg e6, if_neg e8, if_neg e10, if_pos e12], rfl⟩
            · skip
              refine AQ.of (AS.if_eq_t (tgt := 92) eX6_kindOfWord_84 (by decide) ⟨by decide, by decide⟩ (by decide)) ?_
              refine q_blk (lv2 := [(0, vr t), (1, vi s), (2, vi e)]) (st2 := [vr t]) kX6_kindOfWord_92 rfl ?_
              refine AQ.of (AS.ldcS (i := 7) (by decide) ⟨rfl, rfl⟩ eX6_kindOfWord_93) ?_
              refine q_blk (lv2 := [(0, vr t), (1, vi s), (2, vi e)]) (st2 := [vi e, vi s, vr (w.2 7), vr t]) kX6_kindOfWord_95 rfl ?_
              refine q_Vi (av := [vr (w.2 7), vi s, vi e]) (st := []) (c_X6_isWord hS hX xr (i := 7) (by decide) s0 s1 e1) lk_RX6_119 (by decide) rfl rfl hS.ob ⟨_, rfl, rfl⟩ (Nat.le_of_ble_eq_true rfl) eX6_kindOfWord_97 (fun z13 e14 => ?_)
              rcases e14 with ⟨rfl, e14⟩ | ⟨rfl, e14⟩
              · skip
                refine AQ.of (AS.if_eq_f eX6_kindOfWord_100 ⟨by decide, by decide⟩ (by decide) (by decide)) ?_
                refine q_blk (lv2 := [(0, vr t), (1, vi s), (2, vi e)]) (st2 := [vi (-3)]) kX6_kindOfWord_103 rfl ?_
                refine q_goto (tgt := 141) eX6_kindOfWord_105 (by decide) ?_
                exact q_ri rfl eX6_kindOfWord_141 ⟨(-3), rfl, by unfold gm_kw; rw [if_neg e2, if_neg e4, if_neg e6, if_neg e8, if_neg e10, if_neg e12, if_pos e14], rfl⟩
              · skip
                refine AQ.of (AS.if_eq_t (tgt := 108) eX6_kindOfWord_100 (by decide) ⟨by decide, by decide⟩ (by decide)) ?_
                refine q_blk (lv2 := [(0, vr t), (1, vi s), (2, vi e)]) (st2 := [vr t]) kX6_kindOfWord_108 rfl ?_
                refine AQ.of (AS.ldcS (i := 8) (by decide) ⟨rfl, rfl⟩ eX6_kindOfWord_109) ?_
                refine q_blk (lv2 := [(0, vr t), (1, vi s), (2, vi e)]) (st2 := [vi e, vi s, vr (w.2 8), vr t]) kX6_kindOfWord_111 rfl ?_
                refine q_Vi (av := [vr (w.2 8), vi s, vi e]) (st := []) (c_X6_isWord hS hX xr (i := 8) (by decide) s0 s1 e1) lk_RX6_119 (by decide) rfl rfl hS.ob ⟨_, rfl, rfl⟩ (Nat.le_of_ble_eq_true rfl) eX6_kindOfWord_113 (fun z15 e16 => ?_)
                rcases e16 with ⟨rfl, e16⟩ | ⟨rfl, e16⟩
                · skip
                  refine AQ.of (AS.if_eq_f eX6_kindOfWord_116 ⟨by decide, by decide⟩ (by decide) (by decide)) ?_
                  refine q_blk (lv2 := [(0, vr t), (1, vi s), (2, vi e)]) (st2 := [vi (-4)]) kX6_kindOfWord_119 rfl ?_
                  refine q_goto (tgt := 141) eX6_kindOfWord_121 (by decide) ?_
                  exact q_ri rfl eX6_kindOfWord_141 ⟨(-4), rfl, by unfold gm_kw; rw [if_neg e2, if_neg e4, if_neg e6, if_neg e8, if_neg e10, if_neg e12, if_neg e14, if_pos e16], rfl⟩
                · skip
                  refine AQ.of (AS.if_eq_t (tgt := 124) eX6_kindOfWord_116 (by decide) ⟨by decide, by decide⟩ (by decide)) ?_
                  refine q_blk (lv2 := [(0, vr t), (1, vi s), (2, vi e)]) (st2 := [vr t]) kX6_kindOfWord_124 rfl ?_
                  refine AQ.of (AS.ldcS (i := 9) (by decide) ⟨rfl, rfl⟩ eX6_kindOfWord_125) ?_
                  refine q_blk (lv2 := [(0, vr t), (1, vi s), (2, vi e)]) (st2 := [vi e, vi s, vr (w.2 9), vr t]) kX6_kindOfWord_127 rfl ?_
                  refine q_Vi (av := [vr (w.2 9), vi s, vi e]) (st := []) (c_X6_isWord hS hX xr (i := 9) (by decide) s0 s1 e1) lk_RX6_119 (by decide) rfl rfl hS.ob ⟨_, rfl, rfl⟩ (Nat.le_of_ble_eq_true rfl) eX6_kindOfWord_129 (fun z17 e18 => ?_)
                  rcases e18 with ⟨rfl, e18⟩ | ⟨rfl, e18⟩
                  · skip
                    refine AQ.of (AS.if_eq_f eX6_kindOfWord_132 ⟨by decide, by decide⟩ (by decide) (by decide)) ?_
                    refine q_blk (lv2 := [(0, vr t), (1, vi s), (2, vi e)]) (st2 := [vi (-5)]) kX6_kindOfWord_135 rfl ?_
                    refine q_goto (tgt := 141) eX6_kindOfWord_137 (by decide) ?_
                    exact q_ri rfl eX6_kindOfWord_141 ⟨(-5), rfl, by unfold gm_kw; rw [if_neg e2, if_neg e4, if_neg e6, if_neg e8, if_neg e10, if_neg e12, if_neg e14, if_neg e16, if_pos e18], rfl⟩
                  · skip
                    refine AQ.of (AS.if_eq_t (tgt := 140) eX6_kindOfWord_132 (by decide) ⟨by decide, by decide⟩ (by decide)) ?_
                    refine q_blk (lv2 := [(0, vr t), (1, vi s), (2, vi e)]) (st2 := [vi 1]) kX6_kindOfWord_140 rfl ?_
                    exact q_ri rfl eX6_kindOfWord_141 ⟨1, rfl, by unfold gm_kw; rw [if_neg e2, if_neg e4, if_neg e6, if_neg e8, if_neg e10, if_neg e12, if_neg e14, if_neg e16, if_neg e18], rfl⟩

set_option maxHeartbeats 1000000 in
theorem c_X6_splitIntoTokens {w : am_w} {h : AH} {t u b j : Nat} {kd st vl : Int → Int} {tc he nu px cl hs er ea : Int} {cd : Int → Int} (hS : ST h t u b j kd st vl tc he nu px cl hs er ea cd) {tx : Int → Int} (hX : GTX h u tx) (xr : ∀ i, -128 ≤ tx i ∧ tx i ≤ 127) (hu : u < t ∨ t + 7 ≤ u) (hK : TKA kd st vl []) {len : Int} (l0 : 0 ≤ len) (l1 : len ≤ 800)  : AE w m_X6_splitIntoTokens 7 [vr t, vi len] h (am_unit (fun h1 => ∃ kd' st' vl', TKA kd' st' vl' (gm_to tx len 801 0) ∧ (gm_to tx len 801 0).length ≤ 801 ∧ (∃ ll, gm_to tx len 801 0 = ll ++ [(0, len, 0)]) ∧ ST h1 t u b j kd' st' vl' ((gm_to tx len 801 0).length : Int) he nu px cl hs er ea cd ∧ am_fr h h1 t (t + 7))) := by
  refine AE.of wf_X6_splitIntoTokens (Nat.le_of_ble_eq_true rfl) (am_ok_v) ?_
  obtain ⟨c0, c1, c2, c3, c4, cj, c5, cL⟩ := id hS
  have hX0 := id hX
  unfold GTX at hX0
  refine q_blk (lv2 := [(0, vr t), (1, vi len)]) (st2 := [vi 0, vr t]) kX6_splitIntoTokens_0 rfl ?_
  refine q_pi eX6_splitIntoTokens_2 fl_RX6_24 (fun q hq => by cases hq; exact Or.inl rfl) (Or.inl rfl) c0 (Nat.le_of_ble_eq_true rfl) (l2 := [0, 0, 0, 0, 0, 0, 0, 0, he, nu, px, cl, hs, er, ea]) rfl (fun h1 e2 => ?_)
  have k3 := am_at e2
  have k4 := (am_ne e2 (t + 3) (by omega)).trans c1
  have k5 := (am_ne e2 (t + 4) (by omega)).trans c2
  have k6 := (am_ne e2 (t + 5) (by omega)).trans c3
  have k7 := (am_ne e2 (t + 6) (by omega)).trans c4
  have k8 := (am_ne e2 j (by omega)).trans c5
  have k9 := cL.kept (lo := t) (hi := t + 1) (am_fr.st e2 (by omega) (by omega)) (by omega)
  have k10 := (am_ne e2 u (by omega)).trans hX0
  have F5 : am_fr h h1 t (t + 7) := (am_fr.st e2 (by omega) (by omega))
  have S5 : ST h1 t u b j kd st vl ((([] : List (Int × Int × Int)).length : Nat) : Int) he nu px cl hs er ea cd := ⟨k3, k4, k5, k6, k7, cj, k8, k9⟩
  refine q_blk (lv2 := [(0, vr t), (1, vi len), (2, vi 0), (3, vi 0)]) (st2 := []) kX6_splitIntoTokens_5 rfl ?_
  refine am_lp7 (I := fun (ap : Int) (stp : Int) (hh : AH) (k9 : Int → Int) (s9 : Int → Int) (v9 : Int → Int) (ll : List (Int × Int × Int)) => (0 ≤ stp ∧ stp ≤ 800) ∧ (stp ≤ ap ∧ ap ≤ len) ∧ gm_to tx len 801 0 = ll ++ gm_to tx len (801 - stp.toNat) ap ∧ (ll.length : Int) ≤ stp ∧ TKA k9 s9 v9 ll ∧ ST hh t u b j k9 s9 v9 (ll.length : Int) he nu px cl hs er ea cd ∧ am_fr h hh t (t + 7)) (μ := fun (ap : Int) (stp : Int) (hh : AH) (k9 : Int → Int) (s9 : Int → Int) (v9 : Int → Int) (ll : List (Int × Int × Int)) => (800 - stp).toNat) (G := fun (ap : Int) (stp : Int) (hh : AH) (k9 : Int → Int) (s9 : Int → Int) (v9 : Int → Int) (ll : List (Int × Int × Int)) => AQ w m_X6_splitIntoTokens 7 9 [(0, vr t), (1, vi len), (2, vi ap), (3, vi stp)] [] hh (am_unit (fun h1 => ∃ kd' st' vl', TKA kd' st' vl' (gm_to tx len 801 0) ∧ (gm_to tx len 801 0).length ≤ 801 ∧ (∃ ll, gm_to tx len 801 0 = ll ++ [(0, len, 0)]) ∧ ST h1 t u b j kd' st' vl' ((gm_to tx len 801 0).length : Int) he nu px cl hs er ea cd ∧ am_fr h h1 t (t + 7)))) ?_ 0 0 h1 kd st vl [] (⟨⟨by omega, by omega⟩, ⟨by omega, by omega⟩, rfl, by decide, hK, S5, F5⟩)
  intro ap stp hh k9 s9 v9 ll hI12 ih11
  obtain ⟨⟨i0, i1⟩, ⟨a0, a1⟩, hq, hl, hT9, hS9, hf9⟩ := hI12
  have hX9 := hX.kept hf9 hu
  have xa := xr ap
  refine q_blk (lv2 := [(0, vr t), (1, vi len), (2, vi ap), (3, vi stp)]) (st2 := [vi 800, vi stp]) kX6_splitIntoTokens_9 rfl ?_
  refine AQ.ic_ge (tgt := 138) eX6_splitIntoTokens_13 (by decide) (by first | assumption | exact ⟨by omega, by omega⟩) ⟨by decide, by decide⟩ (fun br13 => ?_) (fun br13 => ?_)
  · skip
    have hq2 := hq.trans (congrArg (ll ++ ·) (gm_to_e (tx := tx) (n := 801 - stp.toNat) (by omega) (by omega)))
    have hl2 : ((gm_to tx len 801 0).length : Int) = (ll.length : Int) + 1 := by rw [hq2, List.length_append, List.length_singleton]; rfl
    refine q_blk (lv2 := [(0, vr t), (1, vi len), (2, vi ap), (3, vi stp)]) (st2 := [vi 0, vi len, vi 0, vr t]) kX6_splitIntoTokens_138 rfl ?_
    refine AQ.callVv (av := [vi 0, vi len, vi 0]) (st := []) (c_X6_addToken hS9 (by omega) (by omega) (k := 0) (s := len) (v := 0)) lk_RX6_102 (by decide) rfl rfl hS9.ob ⟨_, rfl, rfl⟩ (Nat.le_of_ble_eq_true rfl) eX6_splitIntoTokens_142 (fun h16 e15 => ?_)
    obtain ⟨Th16, Fh16⟩ := e15
    exact q_rv rfl eX6_splitIntoTokens_145 ⟨rfl, _, _, _, by rw [hq2]; exact TKA.add hT9 ⟨by decide, by decide⟩ ⟨by decide, by decide⟩, by omega, ⟨_, hq2⟩, by rw [hl2]; exact Th16, hf9.tr Fh16⟩
  · skip
    refine q_blk (lv2 := [(0, vr t), (1, vi len), (2, vi ap), (3, vi stp)]) (st2 := [vi len, vi ap]) kX6_splitIntoTokens_16 rfl ?_
    refine AQ.ic_ge (tgt := 138) eX6_splitIntoTokens_18 (by decide) (by first | assumption | exact ⟨by omega, by omega⟩) (by first | assumption | exact ⟨by omega, by omega⟩) (fun br17 => ?_) (fun br17 => ?_)
    · skip
      have hq2 := hq.trans (congrArg (ll ++ ·) (gm_to_e (tx := tx) (n := 801 - stp.toNat) (by omega) (by omega)))
      have hl2 : ((gm_to tx len 801 0).length : Int) = (ll.length : Int) + 1 := by rw [hq2, List.length_append, List.length_singleton]; rfl
      refine q_blk (lv2 := [(0, vr t), (1, vi len), (2, vi ap), (3, vi stp)]) (st2 := [vi 0, vi len, vi 0, vr t]) kX6_splitIntoTokens_138 rfl ?_
      refine AQ.callVv (av := [vi 0, vi len, vi 0]) (st := []) (c_X6_addToken hS9 (by omega) (by omega) (k := 0) (s := len) (v := 0)) lk_RX6_102 (by decide) rfl rfl hS9.ob ⟨_, rfl, rfl⟩ (Nat.le_of_ble_eq_true rfl) eX6_splitIntoTokens_142 (fun h20 e19 => ?_)
      obtain ⟨Th20, Fh20⟩ := e19
      exact q_rv rfl eX6_splitIntoTokens_145 ⟨rfl, _, _, _, by rw [hq2]; exact TKA.add hT9 ⟨by decide, by decide⟩ ⟨by decide, by decide⟩, by omega, ⟨_, hq2⟩, by rw [hl2]; exact Th20, hf9.tr Fh20⟩
    · skip
      refine q_blk (lv2 := [(0, vr t), (1, vi len), (2, vi ap), (3, vi stp)]) (st2 := [vi ap, vr t]) kX6_splitIntoTokens_21 rfl ?_
      refine q_Vi (av := [vi ap]) (st := []) (c_X6_byteAt hS9 hX9 xr (by omega) (by omega)) lk_RX6_87 (by decide) rfl rfl hS9.ob ⟨_, rfl, rfl⟩ (Nat.le_of_ble_eq_true rfl) eX6_splitIntoTokens_23 (fun z21 e22 => ?_)
      subst e22
      refine q_blk (lv2 := [(0, vr t), (1, vi len), (2, vi ap), (3, vi stp), (4, vi (tx ap)), (5, vi (ap + 1))]) (st2 := [vi (tx ap)]) kX6_splitIntoTokens_26 rfl ?_
      refine q_Si (av := [vi (tx ap)]) (st := []) (c_X6_isDigit (by omega) (by omega)) lk_RX6_91 (by decide) rfl rfl (Nat.le_of_ble_eq_true rfl) eX6_splitIntoTokens_35 (fun z23 e24 => ?_)
      rcases e24 with ⟨rfl, e24⟩ | ⟨rfl, e24⟩
      · skip
        unfold gm_dg at e24
        refine AQ.of (AS.if_eq_f eX6_splitIntoTokens_38 ⟨by decide, by decide⟩ (by decide) (by decide)) ?_
        refine q_blk (lv2 := [(0, vr t), (1, vi len), (2, vi ap), (3, vi stp), (4, vi (tx ap)), (5, vi (ap + 1))]) (st2 := [vi 57, vi 48, vi len, vi ap, vr t]) kX6_splitIntoTokens_41 rfl ?_
        refine q_Vi (av := [vi ap, vi len, vi 48, vi 57]) (st := []) (c_X6_endOfRun hS9 hX9 xr (by omega) (by omega) (by omega) (by decide) (by decide) (by decide) (by decide)) lk_RX6_94 (by decide) rfl rfl hS9.ob ⟨_, rfl, rfl⟩ (Nat.le_of_ble_eq_true rfl) eX6_splitIntoTokens_48 (fun z25 e26 => ?_)
        have be := e26.1
        have bz : z25 ≠ ap := fun q => by have q2 := e26.2.2; rw [q] at q2; omega
        refine q_blk (lv2 := [(0, vr t), (1, vi len), (2, vi ap), (3, vi stp), (4, vi (tx ap)), (5, vi z25)]) (st2 := [vi z25, vi ap, vr t, vi ap, vi 2, vr t]) kX6_splitIntoTokens_51 rfl ?_
        have hdg9 : ∀ k, ap ≤ k → k < z25 → gm_dg (tx k) := fun k q0 q1 => by
          by_cases c : k = ap
          · subst c; unfold gm_dg; omega
          · exact e26.2.1 k (by omega) q1
        refine q_Vi (av := [vi ap, vi z25]) (st := [vi ap, vi 2, vr t]) (c_X6_valueOf hS9 hX9 xr (by omega) (by omega) (by omega) hdg9) lk_RX6_98 (by decide) rfl rfl hS9.ob ⟨_, rfl, rfl⟩ (Nat.le_of_ble_eq_true rfl) eX6_splitIntoTokens_60 (fun z27 e28 => ?_)
        subst e28
        refine AQ.callVv (av := [vi 2, vi ap, vi (gm_va tx ap (z25 - ap).toNat)]) (st := []) (c_X6_addToken hS9 (by omega) (by omega) (k := 2) (s := ap) (v := (gm_va tx ap (z25 - ap).toNat))) lk_RX6_102 (by decide) rfl rfl hS9.ob ⟨_, rfl, rfl⟩ (Nat.le_of_ble_eq_true rfl) eX6_splitIntoTokens_63 (fun h31 e30 => ?_)
        obtain ⟨Th31, Fh31⟩ := e30
        refine q_goto (tgt := 129) eX6_splitIntoTokens_66 (by decide) ?_
        refine q_blk (lv2 := [(0, vr t), (1, vi len), (2, vi z25), (3, vi (stp + 1)), (4, vi (tx ap)), (5, vi z25)]) (st2 := []) kX6_splitIntoTokens_129 rfl ?_
        refine q_goto (tgt := 9) eX6_splitIntoTokens_135 (by decide) ?_
        refine q_sub (lv2 := [(0, vr t), (1, vi len), (2, vi z25), (3, vi (stp + 1))]) [0, 1, 2, 3] rfl ?_
        exact ih11 z25 (stp + 1) h31 (am_uI k9 (ll.length : Int) 2) (am_uI s9 (ll.length : Int) ap) (am_uI v9 (ll.length : Int) (gm_va tx ap (z25 - ap).toNat)) (ll ++ [(2, ap, (gm_va tx ap (z25 - ap).toNat))]) (⟨⟨by omega, by omega⟩, ⟨by omega, by omega⟩, hq.trans (by rw [gm_to_d (m := 801 - (stp + 1).toNat) (by omega) (by omega) (by omega) (by omega) ⟨by omega, by omega⟩ e26, List.append_assoc]; rfl), by rw [List.length_append, List.length_singleton]; omega, TKA.add hT9 ⟨by decide, by decide⟩ (gm_va_r (tx := tx) (s := ap) (n := (z25 - ap).toNat) (fun k q0 q1 => hdg9 k q0 (by omega))), by rw [List.length_append, List.length_singleton]; exact Th31, hf9.tr Fh31⟩) (by omega)
      · skip
        unfold gm_dg at e24
        refine AQ.of (AS.if_eq_t (tgt := 69) eX6_splitIntoTokens_38 (by decide) ⟨by decide, by decide⟩ (by decide)) ?_
        refine q_blk (lv2 := [(0, vr t), (1, vi len), (2, vi ap), (3, vi stp), (4, vi (tx ap)), (5, vi (ap + 1))]) (st2 := [vi 97, vi (tx ap)]) kX6_splitIntoTokens_69 rfl ?_
        refine AQ.ic_lt (tgt := 111) eX6_splitIntoTokens_73 (by decide) (by first | assumption | exact ⟨by omega, by omega⟩) ⟨by decide, by decide⟩ (fun br32 => ?_) (fun br32 => ?_)
        · skip
          refine q_blk (lv2 := [(0, vr t), (1, vi len), (2, vi ap), (3, vi stp), (4, vi (tx ap)), (5, vi (ap + 1))]) (st2 := [vi 32, vi (tx ap)]) kX6_splitIntoTokens_111 rfl ?_
          refine AQ.ic_eq (tgt := 129) eX6_splitIntoTokens_115 (by decide) (by first | assumption | exact ⟨by omega, by omega⟩) ⟨by decide, by decide⟩ (fun br33 => ?_) (fun br33 => ?_)
          · skip
            refine q_blk (lv2 := [(0, vr t), (1, vi len), (2, vi (ap + 1)), (3, vi (stp + 1)), (4, vi (tx ap)), (5, vi (ap + 1))]) (st2 := []) kX6_splitIntoTokens_129 rfl ?_
            refine q_goto (tgt := 9) eX6_splitIntoTokens_135 (by decide) ?_
            refine q_sub (lv2 := [(0, vr t), (1, vi len), (2, vi (ap + 1)), (3, vi (stp + 1))]) [0, 1, 2, 3] rfl ?_
            exact ih11 (ap + 1) (stp + 1) hh k9 s9 v9 ll (⟨⟨by omega, by omega⟩, ⟨by omega, by omega⟩, hq.trans (by rw [gm_to_b (m := 801 - (stp + 1).toNat) (by omega) (by omega) (by omega)]), by omega, hT9, hS9, hf9⟩) (by omega)
          · skip
            refine q_blk (lv2 := [(0, vr t), (1, vi len), (2, vi ap), (3, vi stp), (4, vi (tx ap)), (5, vi (ap + 1))]) (st2 := [vi (tx ap), vr t]) kX6_splitIntoTokens_118 rfl ?_
            refine q_Si (av := [vi (tx ap)]) (st := [vr t]) (c_X6_kindOfSign (by omega) (by omega)) lk_RX6_109 (by decide) rfl rfl (Nat.le_of_ble_eq_true rfl) eX6_splitIntoTokens_121 (fun z34 e35 => ?_)
            subst e35
            refine q_blk (lv2 := [(0, vr t), (1, vi len), (2, vi ap), (3, vi stp), (4, vi (tx ap)), (5, vi (ap + 1))]) (st2 := [vi 0, vi ap, vi (gm_ks (tx ap)), vr t]) kX6_splitIntoTokens_124 rfl ?_
            refine AQ.callVv (av := [vi (gm_ks (tx ap)), vi ap, vi 0]) (st := []) (c_X6_addToken hS9 (by omega) (by omega) (k := (gm_ks (tx ap))) (s := ap) (v := 0)) lk_RX6_102 (by decide) rfl rfl hS9.ob ⟨_, rfl, rfl⟩ (Nat.le_of_ble_eq_true rfl) eX6_splitIntoTokens_126 (fun h38 e37 => ?_)
            obtain ⟨Th38, Fh38⟩ := e37
            refine q_blk (lv2 := [(0, vr t), (1, vi len), (2, vi (ap + 1)), (3, vi (stp + 1)), (4, vi (tx ap)), (5, vi (ap + 1))]) (st2 := []) kX6_splitIntoTokens_129 rfl ?_
            refine q_goto (tgt := 9) eX6_splitIntoTokens_135 (by decide) ?_
            refine q_sub (lv2 := [(0, vr t), (1, vi len), (2, vi (ap + 1)), (3, vi (stp + 1))]) [0, 1, 2, 3] rfl ?_
            exact ih11 (ap + 1) (stp + 1) h38 (am_uI k9 (ll.length : Int) (gm_ks (tx ap))) (am_uI s9 (ll.length : Int) ap) (am_uI v9 (ll.length : Int) 0) (ll ++ [((gm_ks (tx ap)), ap, 0)]) (⟨⟨by omega, by omega⟩, ⟨by omega, by omega⟩, hq.trans (by rw [gm_to_s (m := 801 - (stp + 1).toNat) (by omega) (by omega) (by omega) (by omega) (by omega), List.append_assoc]; rfl), by rw [List.length_append, List.length_singleton]; omega, TKA.add hT9 (by have := gm_ks_r (tx ap); omega) ⟨by decide, by decide⟩, by rw [List.length_append, List.length_singleton]; exact Th38, hf9.tr Fh38⟩) (by omega)
        · skip
          refine q_blk (lv2 := [(0, vr t), (1, vi len), (2, vi ap), (3, vi stp), (4, vi (tx ap)), (5, vi (ap + 1))]) (st2 := [vi 122, vi (tx ap)]) kX6_splitIntoTokens_76 rfl ?_
          refine AQ.ic_gt (tgt := 111) eX6_splitIntoTokens_80 (by decide) (by first | assumption | exact ⟨by omega, by omega⟩) ⟨by decide, by decide⟩ (fun br39 => ?_) (fun br39 => ?_)
          · skip
            refine q_blk (lv2 := [(0, vr t), (1, vi len), (2, vi ap), (3, vi stp), (4, vi (tx ap)), (5, vi (ap + 1))]) (st2 := [vi 32, vi (tx ap)]) kX6_splitIntoTokens_111 rfl ?_
            refine AQ.ic_eq (tgt := 129) eX6_splitIntoTokens_115 (by decide) (by first | assumption | exact ⟨by omega, by omega⟩) ⟨by decide, by decide⟩ (fun br40 => ?_) (fun br40 => ?_)
            · skip
              refine q_blk (lv2 := [(0, vr t), (1, vi len), (2, vi (ap + 1)), (3, vi (stp + 1)), (4, vi (tx ap)), (5, vi (ap + 1))]) (st2 := []) kX6_splitIntoTokens_129 rfl ?_
              refine q_goto (tgt := 9) eX6_splitIntoTokens_135 (by decide) ?_
              refine q_sub (lv2 := [(0, vr t), (1, vi len), (2, vi (ap + 1)), (3, vi (stp + 1))]) [0, 1, 2, 3] rfl ?_
              exact ih11 (ap + 1) (stp + 1) hh k9 s9 v9 ll (⟨⟨by omega, by omega⟩, ⟨by omega, by omega⟩, hq.trans (by rw [gm_to_b (m := 801 - (stp + 1).toNat) (by omega) (by omega) (by omega)]), by omega, hT9, hS9, hf9⟩) (by omega)
            · skip
              refine q_blk (lv2 := [(0, vr t), (1, vi len), (2, vi ap), (3, vi stp), (4, vi (tx ap)), (5, vi (ap + 1))]) (st2 := [vi (tx ap), vr t]) kX6_splitIntoTokens_118 rfl ?_
              refine q_Si (av := [vi (tx ap)]) (st := [vr t]) (c_X6_kindOfSign (by omega) (by omega)) lk_RX6_109 (by decide) rfl rfl (Nat.le_of_ble_eq_true rfl) eX6_splitIntoTokens_121 (fun z41 e42 => ?_)
              subst e42
              refine q_blk (lv2 := [(0, vr t), (1, vi len), (2, vi ap), (3, vi stp), (4, vi (tx ap)), (5, vi (ap + 1))]) (st2 := [vi 0, vi ap, vi (gm_ks (tx ap)), vr t]) kX6_splitIntoTokens_124 rfl ?_
              refine AQ.callVv (av := [vi (gm_ks (tx ap)), vi ap, vi 0]) (st := []) (c_X6_addToken hS9 (by omega) (by omega) (k := (gm_ks (tx ap))) (s := ap) (v := 0)) lk_RX6_102 (by decide) rfl rfl hS9.ob ⟨_, rfl, rfl⟩ (Nat.le_of_ble_eq_true rfl) eX6_splitIntoTokens_126 (fun h45 e44 => ?_)
              obtain ⟨Th45, Fh45⟩ := e44
              refine q_blk (lv2 := [(0, vr t), (1, vi len), (2, vi (ap + 1)), (3, vi (stp + 1)), (4, vi (tx ap)), (5, vi (ap + 1))]) (st2 := []) kX6_splitIntoTokens_129 rfl ?_
              refine q_goto (tgt := 9) eX6_splitIntoTokens_135 (by decide) ?_
              refine q_sub (lv2 := [(0, vr t), (1, vi len), (2, vi (ap + 1)), (3, vi (stp + 1))]) [0, 1, 2, 3] rfl ?_
              exact ih11 (ap + 1) (stp + 1) h45 (am_uI k9 (ll.length : Int) (gm_ks (tx ap))) (am_uI s9 (ll.length : Int) ap) (am_uI v9 (ll.length : Int) 0) (ll ++ [((gm_ks (tx ap)), ap, 0)]) (⟨⟨by omega, by omega⟩, ⟨by omega, by omega⟩, hq.trans (by rw [gm_to_s (m := 801 - (stp + 1).toNat) (by omega) (by omega) (by omega) (by omega) (by omega), List.append_assoc]; rfl), by rw [List.length_append, List.length_singleton]; omega, TKA.add hT9 (by have := gm_ks_r (tx ap); omega) ⟨by decide, by decide⟩, by rw [List.length_append, List.length_singleton]; exact Th45, hf9.tr Fh45⟩) (by omega)
          · skip
            refine q_blk (lv2 := [(0, vr t), (1, vi len), (2, vi ap), (3, vi stp), (4, vi (tx ap)), (5, vi (ap + 1))]) (st2 := [vi 122, vi 97, vi len, vi ap, vr t]) kX6_splitIntoTokens_83 rfl ?_
            refine q_Vi (av := [vi ap, vi len, vi 97, vi 122]) (st := []) (c_X6_endOfRun hS9 hX9 xr (by omega) (by omega) (by omega) (by decide) (by decide) (by decide) (by decide)) lk_RX6_94 (by decide) rfl rfl hS9.ob ⟨_, rfl, rfl⟩ (Nat.le_of_ble_eq_true rfl) eX6_splitIntoTokens_90 (fun z46 e47 => ?_)
            have be := e47.1
            have bz : z46 ≠ ap := fun q => by have q2 := e47.2.2; rw [q] at q2; omega
            refine q_blk (lv2 := [(0, vr t), (1, vi len), (2, vi ap), (3, vi stp), (4, vi (tx ap)), (5, vi z46)]) (st2 := [vi z46, vi ap, vr t, vr t]) kX6_splitIntoTokens_93 rfl ?_
            refine q_Vi (av := [vi ap, vi z46]) (st := [vr t]) (c_X6_kindOfWord hS9 hX9 xr (by omega) (by omega) (by omega)) lk_RX6_106 (by decide) rfl rfl hS9.ob ⟨_, rfl, rfl⟩ (Nat.le_of_ble_eq_true rfl) eX6_splitIntoTokens_100 (fun z48 e49 => ?_)
            subst e49
            refine q_blk (lv2 := [(0, vr t), (1, vi len), (2, vi ap), (3, vi stp), (4, vi (tx ap)), (5, vi z46)]) (st2 := [vi 0, vi ap, vi (gm_kw tx ap z46), vr t]) kX6_splitIntoTokens_103 rfl ?_
            refine AQ.callVv (av := [vi (gm_kw tx ap z46), vi ap, vi 0]) (st := []) (c_X6_addToken hS9 (by omega) (by omega) (k := (gm_kw tx ap z46)) (s := ap) (v := 0)) lk_RX6_102 (by decide) rfl rfl hS9.ob ⟨_, rfl, rfl⟩ (Nat.le_of_ble_eq_true rfl) eX6_splitIntoTokens_105 (fun h52 e51 => ?_)
            obtain ⟨Th52, Fh52⟩ := e51
            refine q_goto (tgt := 129) eX6_splitIntoTokens_108 (by decide) ?_
            refine q_blk (lv2 := [(0, vr t), (1, vi len), (2, vi z46), (3, vi (stp + 1)), (4, vi (tx ap)), (5, vi z46)]) (st2 := []) kX6_splitIntoTokens_129 rfl ?_
            refine q_goto (tgt := 9) eX6_splitIntoTokens_135 (by decide) ?_
            refine q_sub (lv2 := [(0, vr t), (1, vi len), (2, vi z46), (3, vi (stp + 1))]) [0, 1, 2, 3] rfl ?_
            exact ih11 z46 (stp + 1) h52 (am_uI k9 (ll.length : Int) (gm_kw tx ap z46)) (am_uI s9 (ll.length : Int) ap) (am_uI v9 (ll.length : Int) 0) (ll ++ [((gm_kw tx ap z46), ap, 0)]) (⟨⟨by omega, by omega⟩, ⟨by omega, by omega⟩, hq.trans (by rw [gm_to_w (m := 801 - (stp + 1).toNat) (by omega) (by omega) (by omega) (by omega) ⟨by omega, by omega⟩ e47, List.append_assoc]; rfl), by rw [List.length_append, List.length_singleton]; omega, TKA.add hT9 (by have := gm_kw_r tx ap z46; omega) ⟨by decide, by decide⟩, by rw [List.length_append, List.length_singleton]; exact Th52, hf9.tr Fh52⟩) (by omega)
