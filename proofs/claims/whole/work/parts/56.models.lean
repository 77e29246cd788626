/-! CornerClaimsModel: scores. -/
theorem am_cmp_r (a b : Int) : (am_cmp a b = 1 ∧ b < a) ∨ (am_cmp a b = 0 ∧ a = b) ∨ (am_cmp a b = -1 ∧ a < b) := by
  unfold am_cmp
  split
  · exact Or.inl ⟨rfl, ‹_›⟩
  · split
    · exact Or.inr (Or.inl ⟨rfl, ‹_›⟩)
    · exact Or.inr (Or.inr ⟨rfl, by omega⟩)
theorem AS.ldcw {w : am_w} {y : YR} {d pc : Nat} {lv : List (Nat × AV)} {st : List AV} {h : AH} {idx : Nat} {z : Int} (hd : decode y.2.1 pc = .ok (.ldc_w idx, 3)) (hw : Cond.constant y.1.cls idx (Int32.ofInt z) ∈ GW) : AS w y d pc lv st h (pc + 3) lv (vi z :: st) h :=
  AS.lift fun p l e R s m args below meth c H locs cells slots Q ls hC hKS hKH hR hl hcl hsl hv kk => lv_ldcw hC.1 hC.2.1 hC.2.2.2.1 (hC.2.2.2.2.1 _ hw) hd (kk ls hv)
/-- a code as the model keeps it -/
def gm_ed : GL → List Int
  | [] => []
  | o :: r => (if o.1 ≤ 1 then [o.1, o.2] else [o.1]) ++ gm_ed r
theorem gm_ed_app : ∀ (A B : GL), gm_ed (A ++ B) = gm_ed A ++ gm_ed B
  | [], B => rfl
  | o :: r, B => by
    show (if o.1 ≤ 1 then [o.1, o.2] else [o.1]) ++ gm_ed (r ++ B) = _
    rw [gm_ed_app r B, ← List.append_assoc]
    rfl
/-- the data's code: none, or this one -/
def CO (D : Int → Int) (L : GL) : Prop := (D 4 = 0 ∧ D 5 = 0 ∧ L = gm_pln) ∨ (D 4 = 1 ∧ D 5 = ((gm_ed L).length : Int) ∧ (gm_ed L).length ≤ 1300 ∧ gm_wf L 0 ∧ ∀ (k : Nat) (v : Int), (gm_ed L)[k]? = some v → D (228 + k) = v)
noncomputable def gm_fgm (D cm : Int → Int) (p i : Int) : Int := if i = 0 then gm_arD D p else if i = 1 then gm_sm (gm_if cm p (sV D)) (D 2).toNat else if i = 2 then pN D p else if i = 3 then gm_de (pN D p) (pX D p) (pY D p) else gm_ca D p 2
theorem gm_rn_app (fg : Int → Int) : ∀ (A : GL) (o : Int × Int) (l : List Int), gm_rn fg (A ++ [o]) l = gm_s1 fg o (gm_rn fg A l)
  | [], _, _ => rfl
  | a :: A, o, l => gm_rn_app fg A o (gm_s1 fg a l)
/-- the stack while the code L is run: so far A, the rest r -/
def STK (fg : Int → Int) (sk : Int → Int) (L A r : GL) (l : List Int) (i top : Int) : Prop := L = A ++ r ∧ i = ((gm_ed A).length : Int) ∧ l = gm_rn fg A [] ∧ top = (l.length : Int) ∧ SK sk l ∧ gm_wf r l.length ∧ (∀ v ∈ l, gm_lt v) ∧ l.length ≤ 16
theorem gm_s1_16 {F : Int → Int} {o : Int × Int} {l : List Int} {r : GL} (hw : gm_wf (o :: r) l.length) (h : l.length ≤ 16) : (gm_s1 F o l).length ≤ 16 := by
  obtain ⟨ho, hw⟩ := hw
  unfold gm_s1
  split
  · rw [List.length_cons]; omega
  · split
    · rw [List.length_cons]; omega
    · split
      · rename_i b a r'
        simp only [List.length_cons] at h ⊢
        omega
      · exact h
theorem STK.next {fg sk : Int → Int} {L A : GL} {o : Int × Int} {r : GL} {l : List Int} {i top : Int} (h : STK fg sk L A (o :: r) l i top) (hF : ∀ i, 0 ≤ i → i ≤ 4 → gm_lt (fg i)) {sk' : Int → Int} {i' top' : Int} (hi : i' = i + if o.1 ≤ 1 then 2 else 1) (ht : top' = ((gm_s1 fg o l).length : Int)) (hs : SK sk' (gm_s1 fg o l)) : STK fg sk' L (A ++ [o]) r (gm_s1 fg o l) i' top' := by
  obtain ⟨h1, h2, h3, h4, h5, h6, h7, h8⟩ := h
  refine ⟨by rw [h1]; simp, ?_, by rw [gm_rn_app, ← h3], ht, hs, gm_s1_l h6, gm_s1_v h6.1 hF h7, gm_s1_16 h6 h8⟩
  rw [hi, h2, gm_ed_app, List.length_append]
  show _ = (((gm_ed A).length + ((if o.1 ≤ 1 then [o.1, o.2] else [o.1]) ++ gm_ed []).length : Nat) : Int)
  split <;> simp [gm_ed]
theorem STK.here {fg sk : Int → Int} {D : Int → Int} {L A r : GL} {l : List Int} {i top : Int} (h : STK fg sk L A r l i top) (hi : i < ((gm_ed L).length : Int)) (hc : ∀ (k : Nat) (v : Int), (gm_ed L)[k]? = some v → D (228 + k) = v) : ∃ o r', r = o :: r' ∧ D (228 + i) = o.1 ∧ (o.1 ≤ 1 → D (228 + (i + 1)) = o.2) ∧ gm_ok o := by
  obtain ⟨h1, h2, h3, h4, h5, h6, h7, h8⟩ := h
  cases r with
  | nil => rw [h1, List.append_nil] at hi; omega
  | cons o r' =>
    have e : gm_ed L = gm_ed A ++ ((if o.1 ≤ 1 then [o.1, o.2] else [o.1]) ++ gm_ed r') := by rw [h1, gm_ed_app]; rfl
    refine ⟨o, r', rfl, ?_, fun ho => ?_, h6.1⟩
    · rw [h2]
      refine hc _ _ ?_
      rw [e, List.getElem?_append_right (Nat.le_refl _), Nat.sub_self]
      split <;> rfl
    · rw [h2, show ((gm_ed A).length : Int) + 1 = (((gm_ed A).length + 1 : Nat) : Int) by omega]
      refine hc _ _ ?_
      rw [e, List.getElem?_append_right (by omega), if_pos ho, show (gm_ed A).length + 1 - (gm_ed A).length = 1 by omega]
      rfl
theorem STK.done {fg sk : Int → Int} {L A r : GL} {l : List Int} {i top : Int} (h : STK fg sk L A r l i top) (hi : ((gm_ed L).length : Int) ≤ i) : ∃ v, gm_rn fg L [] = [v] ∧ sk 0 = v ∧ gm_lt v := by
  obtain ⟨h1, h2, h3, h4, h5, h6, h7, h8⟩ := h
  cases r with
  | nil =>
    rw [List.append_nil] at h1
    subst h1
    have h6 : l.length = 1 := h6
    obtain ⟨v, rfl⟩ := List.length_eq_one_iff.mp h6
    exact ⟨v, h3.symm, by have := h5 0 v rfl; simpa using this, h7 v List.mem_cons_self⟩
  | cons o r' =>
    exfalso
    rw [h1, gm_ed_app, List.length_append] at hi
    have : 1 ≤ (gm_ed (o :: r')).length := by
      show 1 ≤ ((if o.1 ≤ 1 then [o.1, o.2] else [o.1]) ++ gm_ed r').length
      split <;> simp <;> omega
    omega
noncomputable def gm_msc (D cm : Int → Int) (L : GL) (p : Int) : Int := gm_li 99999 ((gm_rn (gm_fgm D cm p) L []).headD 0)
theorem gm_pln_rn (fg : Int → Int) : gm_rn fg gm_pln [] = [gm_li 1000000 (fg 0 + fg 1)] := rfl
theorem gm_tdiv_r {a b : Int} (ha : gm_lt a) : gm_lt (Int.tdiv a b) := by
  unfold gm_lt at ha ⊢
  have h := Int.natAbs_tdiv_le_natAbs a b
  omega
theorem gm_li_in {L z : Int} (h : -L ≤ z ∧ z ≤ L) : gm_li L z = z := by
  unfold gm_li
  rw [if_neg (by omega), if_neg (by omega)]

set_option maxHeartbeats 1000000 in
theorem c_X9_limited {w : am_w} {h : AH} {v : Int} (rv : -2000000000000 ≤ v ∧ v ≤ 2000000000000)  : AE w m_X9_limited 2 [vl v] h (am_lngp h (fun z => z = gm_li 1000000 v)) := by
  refine AE.of wf_X9_limited (Nat.le_of_ble_eq_true rfl) (am_ok_lp) ?_
  refine q_blk (lv2 := [(0, vl v)]) (st2 := [vl v]) kX9_limited_0 rfl ?_
  refine AQ.of (AS.ldc2 (z := 1000000) eX9_limited_1 (am_gw 1549 (by decide +kernel) (by decide +kernel))) ?_
  refine AQ.of (AS.lcmp eX9_limited_4 (by first | assumption | exact ⟨by omega, by omega⟩) (by first | assumption | exact ⟨by omega, by omega⟩)) ?_
  have c1 := am_cmp_r v 1000000
  refine AQ.if_le (tgt := 14) eX9_limited_5 (by decide) (by first | assumption | exact ⟨by omega, by omega⟩) (fun br2 => ?_) (fun br2 => ?_)
  · skip
    refine q_blk (lv2 := [(0, vl v)]) (st2 := [vl v]) kX9_limited_14 rfl ?_
    refine AQ.of (AS.ldc2 (z := (-1000000)) eX9_limited_15 (am_gw 1550 (by decide +kernel) (by decide +kernel))) ?_
    refine AQ.of (AS.lcmp eX9_limited_18 (by first | assumption | exact ⟨by omega, by omega⟩) (by first | assumption | exact ⟨by omega, by omega⟩)) ?_
    have c3 := am_cmp_r v (-1000000)
    refine AQ.if_ge (tgt := 28) eX9_limited_19 (by decide) (by first | assumption | exact ⟨by omega, by omega⟩) (fun br4 => ?_) (fun br4 => ?_)
    · skip
      refine q_blk (lv2 := [(0, vl v)]) (st2 := [vl v]) kX9_limited_28 rfl ?_
      exact q_rl rfl eX9_limited_29 ⟨v, rfl, by unfold gm_li; (repeat' split) <;> omega, rfl⟩
    · skip
      refine AQ.of (AS.ldc2 (z := (-1000000)) eX9_limited_22 (am_gw 1550 (by decide +kernel) (by decide +kernel))) ?_
      refine q_goto (tgt := 29) eX9_limited_25 (by decide) ?_
      exact q_rl rfl eX9_limited_29 ⟨(-1000000), rfl, by unfold gm_li; (repeat' split) <;> omega, rfl⟩
  · skip
    refine AQ.of (AS.ldc2 (z := 1000000) eX9_limited_8 (am_gw 1549 (by decide +kernel) (by decide +kernel))) ?_
    refine q_goto (tgt := 29) eX9_limited_11 (by decide) ?_
    exact q_rl rfl eX9_limited_29 ⟨1000000, rfl, by unfold gm_li; (repeat' split) <;> omega, rfl⟩

theorem gm_mul_r {a b : Int} (ha : gm_lt a) (hb : gm_lt b) : -1000000000000 ≤ a * b ∧ a * b ≤ 1000000000000 := by
  have := gm_op_r (k := 4) ha hb
  unfold gm_op at this
  rw [if_neg (by decide), if_neg (by decide), if_pos rfl] at this
  exact this
set_option maxHeartbeats 1000000 in
theorem c_X9_operate {w : am_w} {h : AH} {k a b : Int} (rk : 2 ≤ k ∧ k ≤ 5) (ha : gm_lt a) (hb : gm_lt b)  : AE w m_X9_operate 3 [vi k, vl a, vl b] h (am_lngp h (fun z => z = gm_li 1000000 (gm_op k a b))) := by
  refine AE.of wf_X9_operate (Nat.le_of_ble_eq_true rfl) (am_ok_lp) ?_
  have ha' := id ha
  have hb' := id hb
  unfold gm_lt at ha' hb'
  have hm9 := gm_mul_r ha hb
  refine q_blk (lv2 := [(0, vi k), (1, vl a), (3, vl b)]) (st2 := [vi 5, vi k]) kX9_operate_0 rfl ?_
  refine AQ.ic_ne (tgt := 19) eX9_operate_2 (by decide) (by first | assumption | exact ⟨by omega, by omega⟩) ⟨by decide, by decide⟩ (fun br1 => ?_) (fun br1 => ?_)
  · skip
    refine q_blk (lv2 := [(0, vi k), (1, vl a), (3, vl b)]) (st2 := [vi 2, vi k]) kX9_operate_19 rfl ?_
    refine AQ.ic_ne (tgt := 30) eX9_operate_21 (by decide) (by first | assumption | exact ⟨by omega, by omega⟩) ⟨by decide, by decide⟩ (fun br2 => ?_) (fun br2 => ?_)
    · skip
      refine q_blk (lv2 := [(0, vi k), (1, vl a), (3, vl b)]) (st2 := [vi 3, vi k]) kX9_operate_30 rfl ?_
      refine AQ.ic_ne (tgt := 41) eX9_operate_32 (by decide) (by first | assumption | exact ⟨by omega, by omega⟩) ⟨by decide, by decide⟩ (fun br3 => ?_) (fun br3 => ?_)
      · skip
        refine q_blk (lv2 := [(0, vi k), (1, vl a), (3, vl b)]) (st2 := [vl (a * b)]) kX9_operate_41 rfl ?_
        refine q_Sl (av := [vl (a * b)]) (st := []) (c_X9_limited (by omega)) lk_RX9_277 (by decide) rfl rfl (Nat.le_of_ble_eq_true rfl) eX9_operate_44 (fun z4 e5 => ?_)
        subst e5
        exact q_rl rfl eX9_operate_47 ⟨(gm_li 1000000 (a * b)), rfl, by unfold gm_op; first | (rw [if_pos (by omega)]) | (rw [if_neg (by omega), if_pos (by omega)]) | (rw [if_neg (by omega), if_neg (by omega), if_pos (by omega)]) | (rw [if_neg (by omega), if_neg (by omega), if_neg (by omega), if_pos (by omega)]; exact (gm_li_in ⟨by decide, by decide⟩).symm) | (rw [if_neg (by omega), if_neg (by omega), if_neg (by omega), if_neg (by omega)]; exact (gm_li_in (gm_tdiv_r ha)).symm), rfl⟩
      · skip
        refine q_blk (lv2 := [(0, vi k), (1, vl a), (3, vl b)]) (st2 := [vl (a - b)]) kX9_operate_35 rfl ?_
        refine q_goto (tgt := 44) eX9_operate_38 (by decide) ?_
        refine q_Sl (av := [vl (a - b)]) (st := []) (c_X9_limited (by omega)) lk_RX9_277 (by decide) rfl rfl (Nat.le_of_ble_eq_true rfl) eX9_operate_44 (fun z6 e7 => ?_)
        subst e7
        exact q_rl rfl eX9_operate_47 ⟨(gm_li 1000000 (a - b)), rfl, by unfold gm_op; first | (rw [if_pos (by omega)]) | (rw [if_neg (by omega), if_pos (by omega)]) | (rw [if_neg (by omega), if_neg (by omega), if_pos (by omega)]) | (rw [if_neg (by omega), if_neg (by omega), if_neg (by omega), if_pos (by omega)]; exact (gm_li_in ⟨by decide, by decide⟩).symm) | (rw [if_neg (by omega), if_neg (by omega), if_neg (by omega), if_neg (by omega)]; exact (gm_li_in (gm_tdiv_r ha)).symm), rfl⟩
    · skip
      refine q_blk (lv2 := [(0, vi k), (1, vl a), (3, vl b)]) (st2 := [vl (a + b)]) kX9_operate_24 rfl ?_
      refine q_goto (tgt := 44) eX9_operate_27 (by decide) ?_
      refine q_Sl (av := [vl (a + b)]) (st := []) (c_X9_limited (by omega)) lk_RX9_277 (by decide) rfl rfl (Nat.le_of_ble_eq_true rfl) eX9_operate_44 (fun z8 e9 => ?_)
      subst e9
      exact q_rl rfl eX9_operate_47 ⟨(gm_li 1000000 (a + b)), rfl, by unfold gm_op; first | (rw [if_pos (by omega)]) | (rw [if_neg (by omega), if_pos (by omega)]) | (rw [if_neg (by omega), if_neg (by omega), if_pos (by omega)]) | (rw [if_neg (by omega), if_neg (by omega), if_neg (by omega), if_pos (by omega)]; exact (gm_li_in ⟨by decide, by decide⟩).symm) | (rw [if_neg (by omega), if_neg (by omega), if_neg (by omega), if_neg (by omega)]; exact (gm_li_in (gm_tdiv_r ha)).symm), rfl⟩
  · skip
    refine q_blk (lv2 := [(0, vi k), (1, vl a), (3, vl b)]) (st2 := [vl 0, vl b]) kX9_operate_5 rfl ?_
    refine AQ.of (AS.lcmp eX9_operate_7 (by first | assumption | exact ⟨by omega, by omega⟩) (by first | assumption | exact ⟨by omega, by omega⟩)) ?_
    have c10 := am_cmp_r b 0
    refine AQ.if_ne (tgt := 15) eX9_operate_8 (by decide) (by first | assumption | exact ⟨by omega, by omega⟩) (fun br11 => ?_) (fun br11 => ?_)
    · skip
      refine q_blk (lv2 := [(0, vi k), (1, vl a), (3, vl b)]) (st2 := [vl b, vl a]) kX9_operate_15 rfl ?_
      refine AQ.of (AS.ldiv eX9_operate_17 (by first | assumption | exact ⟨by omega, by omega⟩) (by first | assumption | exact ⟨by omega, by omega⟩) (by omega)) ?_
      exact q_rl rfl eX9_operate_18 ⟨(Int.tdiv a b), rfl, by unfold gm_op; first | (rw [if_pos (by omega)]) | (rw [if_neg (by omega), if_pos (by omega)]) | (rw [if_neg (by omega), if_neg (by omega), if_pos (by omega)]) | (rw [if_neg (by omega), if_neg (by omega), if_neg (by omega), if_pos (by omega)]; exact (gm_li_in ⟨by decide, by decide⟩).symm) | (rw [if_neg (by omega), if_neg (by omega), if_neg (by omega), if_neg (by omega)]; exact (gm_li_in (gm_tdiv_r ha)).symm), rfl⟩
    · skip
      refine q_blk (lv2 := [(0, vi k), (1, vl a), (3, vl b)]) (st2 := [vl 0]) kX9_operate_11 rfl ?_
      refine q_goto (tgt := 18) eX9_operate_12 (by decide) ?_
      exact q_rl rfl eX9_operate_18 ⟨0, rfl, by unfold gm_op; first | (rw [if_pos (by omega)]) | (rw [if_neg (by omega), if_pos (by omega)]) | (rw [if_neg (by omega), if_neg (by omega), if_pos (by omega)]) | (rw [if_neg (by omega), if_neg (by omega), if_neg (by omega), if_pos (by omega)]; exact (gm_li_in ⟨by decide, by decide⟩).symm) | (rw [if_neg (by omega), if_neg (by omega), if_neg (by omega), if_neg (by omega)]; exact (gm_li_in (gm_tdiv_r ha)).symm), rfl⟩
