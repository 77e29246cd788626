/-! The law's expressions: made by chance, their values. -/
theorem am_cmp_r (a b : Int) : (am_cmp a b = 1 ∧ b < a) ∨ (am_cmp a b = 0 ∧ a = b) ∨ (am_cmp a b = -1 ∧ a < b) := by
  unfold am_cmp
  split
  · exact Or.inl ⟨rfl, ‹_›⟩
  · split
    · exact Or.inr (Or.inl ⟨rfl, ‹_›⟩)
    · exact Or.inr (Or.inr ⟨rfl, by omega⟩)
/-- digits; names; signs -/
def gm_dl (n : Int) : List Int := if n < 10 then [48 + n] else if n < 100 then [48 + n / 10, 48 + n % 10] else if n < 1000 then [48 + n / 100, 48 + n / 10 % 10, 48 + n % 10] else [48 + n / 1000, 48 + n / 100 % 10, 48 + n / 10 % 10, 48 + n % 10]
def gm_vn (n : Int) : List Int := if n = 0 then [97, 114, 101, 97] else if n = 1 then [115, 116, 111, 110, 101, 115] else if n = 2 then [99, 111, 114, 110, 101, 114, 115] else if n = 3 then [100, 101, 110, 116, 115] else [105, 110, 110, 101, 114]
def gm_opt (k : Int) : List Int := if k = 2 then [43] else if k = 3 then [32, 45, 32] else if k = 4 then [42, 32] else [47]
def gm_own (k : Int) : Int := if k < 4 then 1 else 2
def gm_wrp (o l : Int) (X : List Int) : List Int := if o < l then 40 :: (X ++ [41]) else X
def gm_xop (k : Int) (X1 X2 : Int → List Int) (l : Int) : List Int := gm_wrp (gm_own k) l (X1 (gm_own k) ++ gm_opt k ++ X2 (gm_own k + 1))
/-- a number or a figure -/
def NLF (h : AH) (B : Nat → Prop) (q : Nat) (L : GL) (X : Int → List Int) : Prop := B q ∧ ∃ k nb, h.1 q = some (9, 4, am_L [k, nb, 0, 0], am_G [none, none, none, none]) ∧ ((k = 0 ∧ 0 ≤ nb ∧ nb ≤ 9999 ∧ L = [(0, nb)] ∧ X = fun _ => gm_dl nb) ∨ (k = 1 ∧ 0 ≤ nb ∧ nb ≤ 4 ∧ L = [(1, nb)] ∧ X = fun _ => gm_vn nb))
/-- an expression of at most this depth: its code, its text within a sum, a product, a factor -/
def NT (h : AH) (B : Nat → Prop) : Nat → Nat → GL → (Int → List Int) → Prop
  | 0, q, L, X => NLF h B q L X
  | d + 1, q, L, X => NLF h B q L X ∨ (B q ∧ ∃ k nb l r L1 L2 X1 X2, (2 ≤ k ∧ k ≤ 5) ∧ h.1 q = some (9, 4, am_L [k, nb, 0, 0], am_G [none, none, some l, some r]) ∧ NT h B d l L1 X1 ∧ NT h B d r L2 X2 ∧ L = L1 ++ L2 ++ [(k, 0)] ∧ X = gm_xop k X1 X2)
theorem NLF.mv {h h1 : AH} {B B1 : Nat → Prop} {q : Nat} {L : GL} {X : Int → List Int} (hN : NLF h B q L X) (F : ∀ q, B q → h1.1 q = h.1 q) (hB : ∀ q, B q → B1 q) : NLF h1 B1 q L X := by
  obtain ⟨b, k, nb, c, e⟩ := hN
  exact ⟨hB q b, k, nb, (F q b).trans c, e⟩
theorem NT.mv {h h1 : AH} {B B1 : Nat → Prop} (F : ∀ q, B q → h1.1 q = h.1 q) (hB : ∀ q, B q → B1 q) : ∀ {d q : Nat} {L : GL} {X : Int → List Int}, NT h B d q L X → NT h1 B1 d q L X
  | 0, _, _, _, hN => NLF.mv hN F hB
  | d + 1, q, L, X, hN => by
    rcases hN with hN | ⟨b, k, nb, l, r, L1, L2, X1, X2, hk, c, n1, n2, e⟩
    · exact Or.inl (NLF.mv hN F hB)
    · exact Or.inr ⟨hB q b, k, nb, l, r, L1, L2, X1, X2, hk, (F q b).trans c, NT.mv F hB n1, NT.mv F hB n2, e⟩
theorem NT.b {h : AH} {B : Nat → Prop} {d q : Nat} {L : GL} {X : Int → List Int} (hN : NT h B d q L X) : B q ∧ am_ob h q 9 := by
  cases d with
  | zero => obtain ⟨b, k, nb, c, -⟩ := hN; exact ⟨b, _, _, _, c⟩
  | succ d =>
    rcases hN with ⟨b, k, nb, c, -⟩ | ⟨b, k, nb, l, r, L1, L2, X1, X2, hk, c, -⟩
    · exact ⟨b, _, _, _, c⟩
    · exact ⟨b, _, _, _, c⟩
theorem gm_rn_app (fg : Int → Int) : ∀ (L M : GL) (s : List Int), gm_rn fg (L ++ M) s = gm_rn fg M (gm_rn fg L s)
  | [], _, _ => rfl
  | o :: L, M, s => by
    show gm_rn fg (L ++ M) (gm_s1 fg o s) = _
    rw [gm_rn_app fg L M]
    rfl
/-- its value -/
def NV (fg : Int → Int) (L : GL) (z : Int) : Prop := gm_lt z ∧ ∀ s, gm_rn fg L s = z :: s
theorem NV.op {fg : Int → Int} {L1 L2 : GL} {k a b : Int} (hk : 2 ≤ k ∧ k ≤ 5) (h1 : NV fg L1 a) (h2 : NV fg L2 b) : NV fg (L1 ++ L2 ++ [(k, 0)]) (gm_li 1000000 (gm_op k a b)) := by
  refine ⟨gm_li_r (by decide), fun s => ?_⟩
  rw [gm_rn_app, gm_rn_app, h1.2, h2.2]
  show gm_s1 fg (k, 0) (b :: a :: s) = _
  unfold gm_s1
  rw [if_neg (show ¬ k = 0 by omega), if_neg (show ¬ k = 1 by omega)]

set_option maxRecDepth 4000 in
set_option maxHeartbeats 1000000 in
theorem c_X10_value0 {w : am_w} {h : AH} {q a1 : Nat} {fv fg : Int → Int} {gv : Int → Option Nat} (ca : h.1 a1 = some (102, 5, fv, gv)) (hv : ∀ i, 0 ≤ i → i ≤ 4 → fv i = fg i ∧ gm_lt (fg i)) {N : Nat} {nb : Int} (c0 : h.1 q = some (9, 4, am_L [0, nb, 0, 0], am_G [none, none, none, none])) (n0 : 0 ≤ nb ∧ nb ≤ 9999)  : AE w m_X10_value (N + 2) [vr q, vr a1] h (am_lngp h (fun z => NV fg [(0, nb)] z)) := by
  refine AE.of wf_X10_value (Nat.le_of_ble_eq_true rfl) (am_ok_lp) ?_
  refine q_blk (lv2 := [(0, vr q), (1, vr a1)]) (st2 := [vr q]) kX10_value_0 rfl ?_
  refine q_gi eX10_value_1 fl_RX10_16 (Or.inl rfl) c0 (z := 0) rfl ?_
  refine q_blk (lv2 := [(0, vr q), (1, vr a1)]) (st2 := [vi 2, vi 0]) kX10_value_4 rfl ?_
  refine AQ.of (AS.ic_ge_f eX10_value_5 ⟨by decide, by decide⟩ ⟨by decide, by decide⟩ (by decide) (by decide)) ?_
  refine q_blk (lv2 := [(0, vr q), (1, vr a1)]) (st2 := [vr q]) kX10_value_8 rfl ?_
  refine q_gi eX10_value_9 fl_RX10_16 (Or.inl rfl) c0 (z := 0) rfl ?_
  refine AQ.of (AS.if_ne_f eX10_value_12 ⟨by decide, by decide⟩ (by decide) (by decide)) ?_
  refine q_blk (lv2 := [(0, vr q), (1, vr a1)]) (st2 := [vr q]) kX10_value_15 rfl ?_
  refine q_gi eX10_value_16 fl_RX10_20 (Or.inl rfl) c0 (z := nb) rfl ?_
  refine AQ.of (AS.i2l eX10_value_19 (by first | assumption | exact ⟨by omega, by omega⟩)) ?_
  refine q_goto (tgt := 29) eX10_value_20 (by decide) ?_
  exact q_rl rfl eX10_value_29 ⟨nb, rfl, ⟨⟨by omega, by omega⟩, fun s => rfl⟩, rfl⟩

set_option maxRecDepth 4000 in
set_option maxHeartbeats 1000000 in
theorem c_X10_value1 {w : am_w} {h : AH} {q a1 : Nat} {fv fg : Int → Int} {gv : Int → Option Nat} (ca : h.1 a1 = some (102, 5, fv, gv)) (hv : ∀ i, 0 ≤ i → i ≤ 4 → fv i = fg i ∧ gm_lt (fg i)) {N : Nat} {nb : Int} (c0 : h.1 q = some (9, 4, am_L [1, nb, 0, 0], am_G [none, none, none, none])) (n0 : 0 ≤ nb ∧ nb ≤ 4)  : AE w m_X10_value (N + 2) [vr q, vr a1] h (am_lngp h (fun z => NV fg [(1, nb)] z)) := by
  refine AE.of wf_X10_value (Nat.le_of_ble_eq_true rfl) (am_ok_lp) ?_
  refine q_blk (lv2 := [(0, vr q), (1, vr a1)]) (st2 := [vr q]) kX10_value_0 rfl ?_
  refine q_gi eX10_value_1 fl_RX10_16 (Or.inl rfl) c0 (z := 1) rfl ?_
  refine q_blk (lv2 := [(0, vr q), (1, vr a1)]) (st2 := [vi 2, vi 1]) kX10_value_4 rfl ?_
  refine AQ.of (AS.ic_ge_f eX10_value_5 ⟨by decide, by decide⟩ ⟨by decide, by decide⟩ (by decide) (by decide)) ?_
  refine q_blk (lv2 := [(0, vr q), (1, vr a1)]) (st2 := [vr q]) kX10_value_8 rfl ?_
  refine q_gi eX10_value_9 fl_RX10_16 (Or.inl rfl) c0 (z := 1) rfl ?_
  refine AQ.of (AS.if_ne_t (tgt := 23) eX10_value_12 (by decide) ⟨by decide, by decide⟩ (by decide)) ?_
  refine q_blk (lv2 := [(0, vr q), (1, vr a1)]) (st2 := [vr q, vr a1]) kX10_value_23 rfl ?_
  refine q_gi eX10_value_25 fl_RX10_20 (Or.inl rfl) c0 (z := nb) rfl ?_
  refine q_la eX10_value_28 ca (by omega) (by omega) (z := (fg nb)) (hv nb (by omega) (by omega)).1 ?_
  exact q_rl rfl eX10_value_29 ⟨(fg nb), rfl, ⟨(hv nb (by omega) (by omega)).2, fun s => rfl⟩, rfl⟩

set_option maxRecDepth 4000 in
set_option maxHeartbeats 1000000 in
theorem c_X10_valueO {w : am_w} {h : AH} {q a1 : Nat} {fv fg : Int → Int} {gv : Int → Option Nat} (ca : h.1 a1 = some (102, 5, fv, gv)) (hv : ∀ i, 0 ≤ i → i ≤ 4 → fv i = fg i ∧ gm_lt (fg i)) {N l r : Nat} {k nb : Int} {L1 L2 : GL} (hk : 2 ≤ k ∧ k ≤ 5) (c0 : h.1 q = some (9, 4, am_L [k, nb, 0, 0], am_G [none, none, some l, some r])) (ob1 : am_ob h l 9) (ob2 : am_ob h r 9) (ih1 : AE w m_X10_value (N + 2) [vr l, vr a1] h (am_lngp h (fun z => NV fg L1 z))) (ih2 : AE w m_X10_value (N + 2) [vr r, vr a1] h (am_lngp h (fun z => NV fg L2 z)))  : AE w m_X10_value (N + 3) [vr q, vr a1] h (am_lngp h (fun z => NV fg (L1 ++ L2 ++ [(k, 0)]) z)) := by
  refine AE.of wf_X10_value (Nat.le_of_ble_eq_true rfl) (am_ok_lp) ?_
  refine q_blk (lv2 := [(0, vr q), (1, vr a1)]) (st2 := [vr q]) kX10_value_0 rfl ?_
  refine q_gi eX10_value_1 fl_RX10_16 (Or.inl rfl) c0 (z := k) rfl ?_
  refine q_blk (lv2 := [(0, vr q), (1, vr a1)]) (st2 := [vi 2, vi k]) kX10_value_4 rfl ?_
  refine AQ.of (AS.ic_ge_t (tgt := 30) eX10_value_5 (by decide) (by first | assumption | exact ⟨by omega, by omega⟩) ⟨by decide, by decide⟩ (by omega)) ?_
  refine q_blk (lv2 := [(0, vr q), (1, vr a1)]) (st2 := [vr q]) kX10_value_30 rfl ?_
  refine q_gr eX10_value_31 fl_RX10_27 (Or.inl ⟨_, rfl⟩) c0 rfl ?_
  refine q_blk (lv2 := [(0, vr q), (1, vr a1)]) (st2 := [vr a1, vr l]) kX10_value_34 rfl ?_
  refine q_Vl (av := [vr a1]) (st := []) ih1 lk_RX10_72 (by omega) rfl rfl ob1 ⟨_, rfl, rfl⟩ (Nat.le_of_ble_eq_true rfl) eX10_value_35 (fun z1 e2 => ?_)
  obtain ⟨⟨z1a, z1b⟩, z1c⟩ := id e2
  refine q_blk (lv2 := [(0, vr q), (1, vr a1), (2, vl z1)]) (st2 := [vr q]) kX10_value_38 rfl ?_
  refine q_gr eX10_value_40 fl_RX10_31 (Or.inl ⟨_, rfl⟩) c0 rfl ?_
  refine q_blk (lv2 := [(0, vr q), (1, vr a1), (2, vl z1)]) (st2 := [vr a1, vr r]) kX10_value_43 rfl ?_
  refine q_Vl (av := [vr a1]) (st := []) ih2 lk_RX10_72 (by omega) rfl rfl ob2 ⟨_, rfl, rfl⟩ (Nat.le_of_ble_eq_true rfl) eX10_value_44 (fun z3 e4 => ?_)
  obtain ⟨⟨z3a, z3b⟩, z3c⟩ := id e4
  have jn109 : ∀ (v : Int), v = gm_op k z1 z3 → AQ w m_X10_value (N + 3) 109 [(0, vr q), (1, vr a1), (2, vl z1)] [vl v] h (am_lngp h (fun z => NV fg (L1 ++ L2 ++ [(k, 0)]) z)) := by
    intro v hj
    have hv9 : -1000000000000 ≤ v ∧ v ≤ 1000000000000 := by rw [hj]; exact gm_op_r e2.1 e4.1
    refine q_blk (lv2 := [(0, vr q), (1, vr a1), (2, vl z1), (6, vl v)]) (st2 := []) kX10_value_109 rfl ?_
    refine AQ.of (AS.ldc2 (z := (-1000000)) eX10_value_111 (am_gw 1563 (by decide +kernel) (by decide +kernel))) ?_
    refine AQ.of (AS.ldc2 (z := 1000000) eX10_value_114 (am_gw 1564 (by decide +kernel) (by decide +kernel))) ?_
    refine q_blk (lv2 := [(0, vr q), (1, vr a1), (2, vl z1), (6, vl v)]) (st2 := [vl v, vl 1000000, vl (-1000000)]) kX10_value_117 rfl ?_
    refine AQ.of (AS.mminL eX10_value_119 ⟨by decide, by decide⟩ (by first | assumption | exact ⟨by omega, by omega⟩) (am_gw 1565 (by decide +kernel) (by decide +kernel)) (am_gw 434 (by decide +kernel) (by decide +kernel)) (am_gw 53 (by decide +kernel) (by decide +kernel)) (am_gw 435 (by decide +kernel) (by decide +kernel)) (by omega) (Nat.le_of_ble_eq_true rfl)) ?_
    obtain ⟨z5, e6⟩ : ∃ q : Int, q = (if v < 1000000 then v else 1000000) := ⟨_, rfl⟩
    rw [← e6]
    refine AQ.of (AS.mmaxL eX10_value_122 ⟨by decide, by decide⟩ (by first | assumption | exact ⟨by omega, by omega⟩) (am_gw 1566 (by decide +kernel) (by decide +kernel)) (am_gw 437 (by decide +kernel) (by decide +kernel)) (am_gw 53 (by decide +kernel) (by decide +kernel)) (am_gw 438 (by decide +kernel) (by decide +kernel)) (by omega) (Nat.le_of_ble_eq_true rfl)) ?_
    obtain ⟨z7, e8⟩ : ∃ q : Int, q = (if z5 < (-1000000) then (-1000000) else z5) := ⟨_, rfl⟩
    rw [← e8]
    exact q_rl rfl eX10_value_125 ⟨z7, rfl, (by have e9 : z7 = gm_li 1000000 (gm_op k z1 z3) := (by rw [← hj]; unfold gm_li; split <;> (try split) <;> omega); rw [e9]; exact NV.op hk e2 e4), rfl⟩
  refine q_blk (lv2 := [(0, vr q), (1, vr a1), (2, vl z1), (4, vl z3)]) (st2 := [vr q]) kX10_value_47 rfl ?_
  refine q_gi eX10_value_50 fl_RX10_16 (Or.inl rfl) c0 (z := k) rfl ?_
  refine q_blk (lv2 := [(0, vr q), (1, vr a1), (2, vl z1), (4, vl z3)]) (st2 := [vi 2, vi k]) kX10_value_53 rfl ?_
  refine AQ.ic_ne (tgt := 64) eX10_value_54 (by decide) (by first | assumption | exact ⟨by omega, by omega⟩) ⟨by decide, by decide⟩ (fun br9 => ?_) (fun br9 => ?_)
  · skip
    refine q_blk (lv2 := [(0, vr q), (1, vr a1), (2, vl z1), (4, vl z3)]) (st2 := [vr q]) kX10_value_64 rfl ?_
    refine q_gi eX10_value_65 fl_RX10_16 (Or.inl rfl) c0 (z := k) rfl ?_
    refine q_blk (lv2 := [(0, vr q), (1, vr a1), (2, vl z1), (4, vl z3)]) (st2 := [vi 3, vi k]) kX10_value_68 rfl ?_
    refine AQ.ic_ne (tgt := 79) eX10_value_69 (by decide) (by first | assumption | exact ⟨by omega, by omega⟩) ⟨by decide, by decide⟩ (fun br10 => ?_) (fun br10 => ?_)
    · skip
      refine q_blk (lv2 := [(0, vr q), (1, vr a1), (2, vl z1), (4, vl z3)]) (st2 := [vr q]) kX10_value_79 rfl ?_
      refine q_gi eX10_value_80 fl_RX10_16 (Or.inl rfl) c0 (z := k) rfl ?_
      refine q_blk (lv2 := [(0, vr q), (1, vr a1), (2, vl z1), (4, vl z3)]) (st2 := [vi 4, vi k]) kX10_value_83 rfl ?_
      refine AQ.ic_ne (tgt := 94) eX10_value_84 (by decide) (by first | assumption | exact ⟨by omega, by omega⟩) ⟨by decide, by decide⟩ (fun br11 => ?_) (fun br11 => ?_)
      · skip
        refine q_blk (lv2 := [(0, vr q), (1, vr a1), (2, vl z1), (4, vl z3)]) (st2 := [vl 0, vl z3]) kX10_value_94 rfl ?_
        refine AQ.of (AS.lcmp eX10_value_97 (by first | assumption | exact ⟨by omega, by omega⟩) (by first | assumption | exact ⟨by omega, by omega⟩)) ?_
        have c12 := am_cmp_r z3 0
        refine AQ.if_ne (tgt := 105) eX10_value_98 (by decide) (by first | assumption | exact ⟨by omega, by omega⟩) (fun br13 => ?_) (fun br13 => ?_)
        · skip
          refine q_blk (lv2 := [(0, vr q), (1, vr a1), (2, vl z1), (4, vl z3)]) (st2 := [vl z3, vl z1]) kX10_value_105 rfl ?_
          refine AQ.of (AS.ldiv eX10_value_108 (by first | assumption | exact ⟨by omega, by omega⟩) (by first | assumption | exact ⟨by omega, by omega⟩) (by omega)) ?_
          refine q_sub (lv2 := [(0, vr q), (1, vr a1), (2, vl z1)]) [0, 1, 2] rfl ?_
          exact jn109 (Int.tdiv z1 z3) (by unfold gm_op; repeat (first | rw [if_pos (by omega)] | rw [if_neg (by omega)]))
        · skip
          refine q_blk (lv2 := [(0, vr q), (1, vr a1), (2, vl z1), (4, vl z3)]) (st2 := [vl 0]) kX10_value_101 rfl ?_
          refine q_goto (tgt := 109) eX10_value_102 (by decide) ?_
          refine q_sub (lv2 := [(0, vr q), (1, vr a1), (2, vl z1)]) [0, 1, 2] rfl ?_
          exact jn109 0 (by unfold gm_op; repeat (first | rw [if_pos (by omega)] | rw [if_neg (by omega)]))
      · skip
        refine q_blk (lv2 := [(0, vr q), (1, vr a1), (2, vl z1), (4, vl z3)]) (st2 := [vl (z1 * z3)]) kX10_value_87 rfl ?_
        refine q_goto (tgt := 109) eX10_value_91 (by decide) ?_
        refine q_sub (lv2 := [(0, vr q), (1, vr a1), (2, vl z1)]) [0, 1, 2] rfl ?_
        exact jn109 (z1 * z3) (by unfold gm_op; repeat (first | rw [if_pos (by omega)] | rw [if_neg (by omega)]))
    · skip
      refine q_blk (lv2 := [(0, vr q), (1, vr a1), (2, vl z1), (4, vl z3)]) (st2 := [vl (z1 - z3)]) kX10_value_72 rfl ?_
      refine q_goto (tgt := 109) eX10_value_76 (by decide) ?_
      refine q_sub (lv2 := [(0, vr q), (1, vr a1), (2, vl z1)]) [0, 1, 2] rfl ?_
      exact jn109 (z1 - z3) (by unfold gm_op; repeat (first | rw [if_pos (by omega)] | rw [if_neg (by omega)]))
  · skip
    refine q_blk (lv2 := [(0, vr q), (1, vr a1), (2, vl z1), (4, vl z3)]) (st2 := [vl (z1 + z3)]) kX10_value_57 rfl ?_
    refine q_goto (tgt := 109) eX10_value_61 (by decide) ?_
    refine q_sub (lv2 := [(0, vr q), (1, vr a1), (2, vl z1)]) [0, 1, 2] rfl ?_
    exact jn109 (z1 + z3) (by unfold gm_op; repeat (first | rw [if_pos (by omega)] | rw [if_neg (by omega)]))

theorem c_X10_value {w : am_w} {h : AH} {a1 : Nat} {fv fg : Int → Int} {gv : Int → Option Nat} (ca : h.1 a1 = some (102, 5, fv, gv)) (hv : ∀ i, 0 ≤ i → i ≤ 4 → fv i = fg i ∧ gm_lt (fg i)) {B : Nat → Prop} : ∀ {d q : Nat} {L : GL} {X : Int → List Int}, NT h B d q L X → AE w m_X10_value (d + 2) [vr q, vr a1] h (am_lngp h (fun z => NV fg L z)) := by
  have leaf : ∀ {N q : Nat} {L : GL} {X : Int → List Int}, NLF h B q L X → AE w m_X10_value (N + 2) [vr q, vr a1] h (am_lngp h (fun z => NV fg L z)) := by
    rintro N q L X ⟨-, k, nb, c, ⟨rfl, n0, n1, rfl, -⟩ | ⟨rfl, n0, n1, rfl, -⟩⟩
    · exact c_X10_value0 ca hv c ⟨n0, n1⟩
    · exact c_X10_value1 ca hv c ⟨n0, n1⟩
  intro d
  induction d with
  | zero => intro q L X hN; exact leaf hN
  | succ d ih =>
    intro q L X hN
    rcases hN with hN | ⟨b, k, nb, l, r, L1, L2, X1, X2, hk, c, n1, n2, rfl, -⟩
    · exact leaf hN
    · exact c_X10_valueO ca hv hk c n1.b.2 n2.b.2 (ih n1) (ih n2)

def gm_nc : Nat → Nat
  | 0 => 1
  | d + 1 => 2 * gm_nc d + 1

set_option maxRecDepth 4000 in
set_option maxHeartbeats 1000000 in
theorem c_X10_init {w : am_w} {h : AH} {a : Nat}  : AE w m_X10_init 1 [vr a] h (am_unit (fun h1 => h = h1)) := by
  refine AE.of wf_X10_init (Nat.le_of_ble_eq_true rfl) (am_ok_v) ?_
  refine q_blk (lv2 := [(0, vr a)]) (st2 := [vr a]) kX10_init_0 rfl ?_
  refine AQ.of (AS.objInit eX10_init_1 (am_gw 1261 (by decide +kernel) (by decide +kernel)) (am_gw 77 (by decide +kernel) (by decide +kernel)) (am_gw 78 (by decide +kernel) (by decide +kernel)) (by decide) (Nat.le_of_ble_eq_true rfl)) ?_
  exact q_rv rfl eX10_init_4 ⟨rfl, rfl⟩

set_option maxRecDepth 4000 in
set_option maxHeartbeats 4000000 in
theorem c_X10_random0 {w : am_w} {h : AH} {r : Nat} (hR : RND h r) (hl : r < h.2.1)  : AE w m_X10_random 4 [vr r, vi 0] h (am_ref (fun q h1 => (∃ L X, NT h1 (FR h h1) 0 q L X) ∧ RND h1 r ∧ KF h h1 (fun q => q = r) (gm_nc 0) (4 * gm_nc 0))) := by
  refine AE.of wf_X10_random (Nat.le_of_ble_eq_true rfl) (am_ok_r) ?_
  obtain ⟨sd, hc⟩ := hR
  have gc : gm_nc 0 = 1 := rfl
  obtain ⟨t1, e3t⟩ : ∃ q : Nat, h.2.1 = q := ⟨_, rfl⟩
  refine q_no (ci := 9) e3t eX10_random_0 rfl (am_gw 1256 (by decide +kernel) (by decide +kernel)) (am_gw 1257 (by decide +kernel) (by decide +kernel)) in_RX10 (fun h2 e3c e3f e3z => ?_)
  have k4 := (e3f r (by omega)).trans hc
  have e3u : h2.2.1 = t1 + 1 := by rw [e3z]
  have e3v : h2.2.2 = h.2.2 + 4 := by rw [e3z]
  have F5 : ∀ q, q < h.2.1 → ¬ (fun q => q = r) q → h2.1 q = h.1 q := fun q q0 q1 => (e3f q (by omega)).trans ((fun _ _ _ => rfl) q q0 q1)
  refine q_blk (lv2 := [(0, vr r), (1, vi 0)]) (st2 := [vr t1, vr t1]) kX10_random_3 rfl ?_
  refine AQ.callIv (av := []) (st := [vr t1]) c_X10_init lk_RX10_9 (by decide) rfl rfl (Nat.le_of_ble_eq_true rfl) eX10_random_4 (fun h8 e7 => ?_)
  obtain ⟨rfl, -⟩ : h2 = h8 ∧ True := ⟨e7, trivial⟩
  refine q_blk (lv2 := [(0, vr r), (1, vi 0), (2, vr t1)]) (st2 := [vi 0, vr t1]) kX10_random_7 rfl ?_
  refine AQ.of (AS.if_ne_f eX10_random_10 ⟨by decide, by decide⟩ (by decide) (by decide)) ?_
  refine q_blk (lv2 := [(0, vr r), (1, vi 0), (2, vr t1)]) (st2 := [vi 2, vr r, vr t1]) kX10_random_13 rfl ?_
  refine AQ.callVi (av := [vi 2]) (st := [vr t1]) (c_X11_below ⟨_, k4⟩ (by omega) (b := 2) (by omega) (by omega)) lk_RX10_10 (by decide) rfl rfl ⟨_, _, _, k4⟩ ⟨_, rfl, rfl⟩ (Nat.le_of_ble_eq_true rfl) eX10_random_15 (fun z9 h11 e10 => ?_)
  obtain ⟨⟨z9a, z9b⟩, ⟨z9s, z9c⟩, g12f, ⟨g12a, g12b⟩, g12c, g12d⟩ := e10
  have k13 := (g12f t1 (by omega) (by show ¬ _ = _; omega)).trans e3c
  have F14 : ∀ q, q < h.2.1 → ¬ (fun q => q = r) q → h11.1 q = h.1 q := fun q q0 q1 => (g12f q (by omega) q1).trans (F5 q q0 q1)
  refine q_goto (tgt := 27) eX10_random_18 (by decide) ?_
  refine q_pi eX10_random_27 fl_RX10_16 (fun q hq => by cases hq; exact Or.inl rfl) (Or.inl rfl) k13 (Nat.le_of_ble_eq_true rfl) (l2 := [z9, 0, 0, 0]) rfl (fun h15 e16 => ?_)
  have k17 := (am_ne e16 r (by omega)).trans z9c
  have k18 := am_at e16
  have e16u : h15.2.1 = h11.2.1 := congrArg Prod.fst (am_z e16)
  have e16v : h15.2.2 = h11.2.2 := congrArg Prod.snd (am_z e16)
  have F19 : ∀ q, q < h.2.1 → ¬ (fun q => q = r) q → h15.1 q = h.1 q := fun q q0 q1 => (am_ne e16 q (by omega)).trans (F14 q q0 q1)
  refine q_blk (lv2 := [(0, vr r), (1, vi 0), (2, vr t1)]) (st2 := [vr t1, vr t1]) kX10_random_30 rfl ?_
  refine q_gi eX10_random_32 fl_RX10_16 (Or.inl rfl) k18 (z := z9) rfl ?_
  refine AQ.if_ne (tgt := 62) eX10_random_35 (by decide) (by first | assumption | exact ⟨by omega, by omega⟩) (fun br20 => ?_) (fun br20 => ?_)
  · skip
    refine q_blk (lv2 := [(0, vr r), (1, vi 0), (2, vr t1)]) (st2 := [vi 5, vr r, vr t1]) kX10_random_62 rfl ?_
    refine AQ.callVi (av := [vi 5]) (st := [vr t1]) (c_X11_below ⟨_, k17⟩ (by omega) (b := 5) (by omega) (by omega)) lk_RX10_10 (by decide) rfl rfl ⟨_, _, _, k17⟩ ⟨_, rfl, rfl⟩ (Nat.le_of_ble_eq_true rfl) eX10_random_64 (fun z21 h23 e22 => ?_)
    obtain ⟨⟨z21a, z21b⟩, ⟨z21s, z21c⟩, g24f, ⟨g24a, g24b⟩, g24c, g24d⟩ := e22
    have k25 := (g24f t1 (by omega) (by show ¬ _ = _; omega)).trans k18
    have F26 : ∀ q, q < h.2.1 → ¬ (fun q => q = r) q → h23.1 q = h.1 q := fun q q0 q1 => (g24f q (by omega) q1).trans (F19 q q0 q1)
    refine q_pi eX10_random_67 fl_RX10_20 (fun q hq => by cases hq; exact Or.inl rfl) (Or.inl rfl) k25 (Nat.le_of_ble_eq_true rfl) (l2 := [z9, z21, 0, 0]) rfl (fun h27 e28 => ?_)
    have k29 := (am_ne e28 r (by omega)).trans z21c
    have k30 := am_at e28
    have e28u : h27.2.1 = h23.2.1 := congrArg Prod.fst (am_z e28)
    have e28v : h27.2.2 = h23.2.2 := congrArg Prod.snd (am_z e28)
    have F31 : ∀ q, q < h.2.1 → ¬ (fun q => q = r) q → h27.1 q = h.1 q := fun q q0 q1 => (am_ne e28 q (by omega)).trans (F26 q q0 q1)
    refine q_blk (lv2 := [(0, vr r), (1, vi 0), (2, vr t1)]) (st2 := [vr t1]) kX10_random_70 rfl ?_
    refine q_gi eX10_random_71 fl_RX10_16 (Or.inl rfl) k30 (z := z9) rfl ?_
    refine q_blk (lv2 := [(0, vr r), (1, vi 0), (2, vr t1)]) (st2 := [vi 1, vi z9]) kX10_random_74 rfl ?_
    refine AQ.of (AS.ic_le_t (tgt := 100) eX10_random_75 (by decide) (by first | assumption | exact ⟨by omega, by omega⟩) ⟨by decide, by decide⟩ (by omega)) ?_
    refine q_blk (lv2 := [(0, vr r), (1, vi 0), (2, vr t1)]) (st2 := [vr t1]) kX10_random_100 rfl ?_
    exact q_ra rfl eX10_random_101 ⟨t1, rfl, ⟨_, _, ⟨⟨by omega, by omega⟩, z9, z21, k30, Or.inr ⟨by omega, by omega, by omega, rfl, rfl⟩⟩⟩, ⟨_, k29⟩, ⟨F31, ⟨by omega, by omega⟩, by omega, by omega⟩⟩
  · skip
    refine q_blk (lv2 := [(0, vr r), (1, vi 0), (2, vr t1)]) (st2 := [vi 8, vr r, vr r, vr t1]) kX10_random_38 rfl ?_
    refine AQ.callVi (av := [vi 8]) (st := [vr r, vr t1]) (c_X11_below ⟨_, k17⟩ (by omega) (b := 8) (by omega) (by omega)) lk_RX10_10 (by decide) rfl rfl ⟨_, _, _, k17⟩ ⟨_, rfl, rfl⟩ (Nat.le_of_ble_eq_true rfl) eX10_random_42 (fun z32 h34 e33 => ?_)
    obtain ⟨⟨z32a, z32b⟩, ⟨z32s, z32c⟩, g35f, ⟨g35a, g35b⟩, g35c, g35d⟩ := e33
    have k36 := (g35f t1 (by omega) (by show ¬ _ = _; omega)).trans k18
    have F37 : ∀ q, q < h.2.1 → ¬ (fun q => q = r) q → h34.1 q = h.1 q := fun q q0 q1 => (g35f q (by omega) q1).trans (F19 q q0 q1)
    refine AQ.if_ne (tgt := 54) eX10_random_45 (by decide) (by first | assumption | exact ⟨by omega, by omega⟩) (fun br38 => ?_) (fun br38 => ?_)
    · skip
      refine q_blk (lv2 := [(0, vr r), (1, vi 0), (2, vr t1)]) (st2 := [vi 12, vr r, vr t1]) kX10_random_54 rfl ?_
      refine AQ.callVi (av := [vi 12]) (st := [vr t1]) (c_X11_below ⟨_, z32c⟩ (by omega) (b := 12) (by omega) (by omega)) lk_RX10_10 (by decide) rfl rfl ⟨_, _, _, z32c⟩ ⟨_, rfl, rfl⟩ (Nat.le_of_ble_eq_true rfl) eX10_random_56 (fun z39 h41 e40 => ?_)
      obtain ⟨⟨z39a, z39b⟩, ⟨z39s, z39c⟩, g42f, ⟨g42a, g42b⟩, g42c, g42d⟩ := e40
      have k43 := (g42f t1 (by omega) (by show ¬ _ = _; omega)).trans k36
      have F44 : ∀ q, q < h.2.1 → ¬ (fun q => q = r) q → h41.1 q = h.1 q := fun q q0 q1 => (g42f q (by omega) q1).trans (F37 q q0 q1)
      refine q_goto (tgt := 67) eX10_random_59 (by decide) ?_
      refine q_pi eX10_random_67 fl_RX10_20 (fun q hq => by cases hq; exact Or.inl rfl) (Or.inl rfl) k43 (Nat.le_of_ble_eq_true rfl) (l2 := [z9, z39, 0, 0]) rfl (fun h45 e46 => ?_)
      have k47 := (am_ne e46 r (by omega)).trans z39c
      have k48 := am_at e46
      have e46u : h45.2.1 = h41.2.1 := congrArg Prod.fst (am_z e46)
      have e46v : h45.2.2 = h41.2.2 := congrArg Prod.snd (am_z e46)
      have F49 : ∀ q, q < h.2.1 → ¬ (fun q => q = r) q → h45.1 q = h.1 q := fun q q0 q1 => (am_ne e46 q (by omega)).trans (F44 q q0 q1)
      refine q_blk (lv2 := [(0, vr r), (1, vi 0), (2, vr t1)]) (st2 := [vr t1]) kX10_random_70 rfl ?_
      refine q_gi eX10_random_71 fl_RX10_16 (Or.inl rfl) k48 (z := z9) rfl ?_
      refine q_blk (lv2 := [(0, vr r), (1, vi 0), (2, vr t1)]) (st2 := [vi 1, vi z9]) kX10_random_74 rfl ?_
      refine AQ.of (AS.ic_le_t (tgt := 100) eX10_random_75 (by decide) (by first | assumption | exact ⟨by omega, by omega⟩) ⟨by decide, by decide⟩ (by omega)) ?_
      refine q_blk (lv2 := [(0, vr r), (1, vi 0), (2, vr t1)]) (st2 := [vr t1]) kX10_random_100 rfl ?_
      exact q_ra rfl eX10_random_101 ⟨t1, rfl, ⟨_, _, ⟨⟨by omega, by omega⟩, z9, z39, k48, Or.inl ⟨by omega, by omega, by omega, rfl, rfl⟩⟩⟩, ⟨_, k47⟩, ⟨F49, ⟨by omega, by omega⟩, by omega, by omega⟩⟩
    · skip
      refine q_blk (lv2 := [(0, vr r), (1, vi 0), (2, vr t1)]) (st2 := [vi 10000, vr r, vr t1]) kX10_random_48 rfl ?_
      refine q_goto (tgt := 56) eX10_random_51 (by decide) ?_
      refine AQ.callVi (av := [vi 10000]) (st := [vr t1]) (c_X11_below ⟨_, z32c⟩ (by omega) (b := 10000) (by omega) (by omega)) lk_RX10_10 (by decide) rfl rfl ⟨_, _, _, z32c⟩ ⟨_, rfl, rfl⟩ (Nat.le_of_ble_eq_true rfl) eX10_random_56 (fun z50 h52 e51 => ?_)
      obtain ⟨⟨z50a, z50b⟩, ⟨z50s, z50c⟩, g53f, ⟨g53a, g53b⟩, g53c, g53d⟩ := e51
      have k54 := (g53f t1 (by omega) (by show ¬ _ = _; omega)).trans k36
      have F55 : ∀ q, q < h.2.1 → ¬ (fun q => q = r) q → h52.1 q = h.1 q := fun q q0 q1 => (g53f q (by omega) q1).trans (F37 q q0 q1)
      refine q_goto (tgt := 67) eX10_random_59 (by decide) ?_
      refine q_pi eX10_random_67 fl_RX10_20 (fun q hq => by cases hq; exact Or.inl rfl) (Or.inl rfl) k54 (Nat.le_of_ble_eq_true rfl) (l2 := [z9, z50, 0, 0]) rfl (fun h56 e57 => ?_)
      have k58 := (am_ne e57 r (by omega)).trans z50c
      have k59 := am_at e57
      have e57u : h56.2.1 = h52.2.1 := congrArg Prod.fst (am_z e57)
      have e57v : h56.2.2 = h52.2.2 := congrArg Prod.snd (am_z e57)
      have F60 : ∀ q, q < h.2.1 → ¬ (fun q => q = r) q → h56.1 q = h.1 q := fun q q0 q1 => (am_ne e57 q (by omega)).trans (F55 q q0 q1)
      refine q_blk (lv2 := [(0, vr r), (1, vi 0), (2, vr t1)]) (st2 := [vr t1]) kX10_random_70 rfl ?_
      refine q_gi eX10_random_71 fl_RX10_16 (Or.inl rfl) k59 (z := z9) rfl ?_
      refine q_blk (lv2 := [(0, vr r), (1, vi 0), (2, vr t1)]) (st2 := [vi 1, vi z9]) kX10_random_74 rfl ?_
      refine AQ.of (AS.ic_le_t (tgt := 100) eX10_random_75 (by decide) (by first | assumption | exact ⟨by omega, by omega⟩) ⟨by decide, by decide⟩ (by omega)) ?_
      refine q_blk (lv2 := [(0, vr r), (1, vi 0), (2, vr t1)]) (st2 := [vr t1]) kX10_random_100 rfl ?_
      exact q_ra rfl eX10_random_101 ⟨t1, rfl, ⟨_, _, ⟨⟨by omega, by omega⟩, z9, z50, k59, Or.inl ⟨by omega, by omega, by omega, rfl, rfl⟩⟩⟩, ⟨_, k58⟩, ⟨F60, ⟨by omega, by omega⟩, by omega, by omega⟩⟩

set_option maxRecDepth 4000 in
set_option maxHeartbeats 4000000 in
theorem c_X10_randomS {w : am_w} {h : AH} {r : Nat} (hR : RND h r) (hl : r < h.2.1) {N : Nat} (hN : N < 100) (ih : ∀ {h : AH}, RND h r → r < h.2.1 → AE w m_X10_random (N + 4) [vr r, vi (N : Int)] h (am_ref (fun q h1 => (∃ L X, NT h1 (FR h h1) N q L X) ∧ RND h1 r ∧ KF h h1 (fun q => q = r) (gm_nc N) (4 * gm_nc N))))  : AE w m_X10_random (N + 5) [vr r, vi ((N : Int) + 1)] h (am_ref (fun q h1 => (∃ L X, NT h1 (FR h h1) (N + 1) q L X) ∧ RND h1 r ∧ KF h h1 (fun q => q = r) (gm_nc (N + 1)) (4 * gm_nc (N + 1)))) := by
  refine AE.of wf_X10_random (Nat.le_of_ble_eq_true rfl) (am_ok_r) ?_
  obtain ⟨sd, hc⟩ := hR
  have gc : gm_nc (N + 1) = 2 * gm_nc N + 1 := rfl
  have gp : 1 ≤ gm_nc N := by cases N <;> (unfold gm_nc; omega)
  obtain ⟨t1, e3t⟩ : ∃ q : Nat, h.2.1 = q := ⟨_, rfl⟩
  refine q_no (ci := 9) e3t eX10_random_0 rfl (am_gw 1256 (by decide +kernel) (by decide +kernel)) (am_gw 1257 (by decide +kernel) (by decide +kernel)) in_RX10 (fun h2 e3c e3f e3z => ?_)
  have k4 := (e3f r (by omega)).trans hc
  have e3u : h2.2.1 = t1 + 1 := by rw [e3z]
  have e3v : h2.2.2 = h.2.2 + 4 := by rw [e3z]
  have F5 : ∀ q, q < h.2.1 → ¬ (fun q => q = r) q → h2.1 q = h.1 q := fun q q0 q1 => (e3f q (by omega)).trans ((fun _ _ _ => rfl) q q0 q1)
  refine q_blk (lv2 := [(0, vr r), (1, vi ((N : Int) + 1))]) (st2 := [vr t1, vr t1]) kX10_random_3 rfl ?_
  refine AQ.callIv (av := []) (st := [vr t1]) c_X10_init lk_RX10_9 (by omega) rfl rfl (Nat.le_of_ble_eq_true rfl) eX10_random_4 (fun h8 e7 => ?_)
  obtain ⟨rfl, -⟩ : h2 = h8 ∧ True := ⟨e7, trivial⟩
  refine q_blk (lv2 := [(0, vr r), (1, vi ((N : Int) + 1)), (2, vr t1)]) (st2 := [vi ((N : Int) + 1), vr t1]) kX10_random_7 rfl ?_
  refine AQ.of (AS.if_ne_t (tgt := 21) eX10_random_10 (by decide) (by first | assumption | exact ⟨by omega, by omega⟩) (by omega)) ?_
  refine q_blk (lv2 := [(0, vr r), (1, vi ((N : Int) + 1)), (2, vr t1)]) (st2 := [vi 6, vr r, vr t1]) kX10_random_21 rfl ?_
  refine AQ.callVi (av := [vi 6]) (st := [vr t1]) (c_X11_below ⟨_, k4⟩ (by omega) (b := 6) (by omega) (by omega)) lk_RX10_10 (by omega) rfl rfl ⟨_, _, _, k4⟩ ⟨_, rfl, rfl⟩ (Nat.le_of_ble_eq_true rfl) eX10_random_24 (fun z9 h11 e10 => ?_)
  obtain ⟨⟨z9a, z9b⟩, ⟨z9s, z9c⟩, g12f, ⟨g12a, g12b⟩, g12c, g12d⟩ := e10
  have k13 := (g12f t1 (by omega) (by show ¬ _ = _; omega)).trans e3c
  have F14 : ∀ q, q < h.2.1 → ¬ (fun q => q = r) q → h11.1 q = h.1 q := fun q q0 q1 => (g12f q (by omega) q1).trans (F5 q q0 q1)
  refine q_pi eX10_random_27 fl_RX10_16 (fun q hq => by cases hq; exact Or.inl rfl) (Or.inl rfl) k13 (Nat.le_of_ble_eq_true rfl) (l2 := [z9, 0, 0, 0]) rfl (fun h15 e16 => ?_)
  have k17 := (am_ne e16 r (by omega)).trans z9c
  have k18 := am_at e16
  have e16u : h15.2.1 = h11.2.1 := congrArg Prod.fst (am_z e16)
  have e16v : h15.2.2 = h11.2.2 := congrArg Prod.snd (am_z e16)
  have F19 : ∀ q, q < h.2.1 → ¬ (fun q => q = r) q → h15.1 q = h.1 q := fun q q0 q1 => (am_ne e16 q (by omega)).trans (F14 q q0 q1)
  refine q_blk (lv2 := [(0, vr r), (1, vi ((N : Int) + 1)), (2, vr t1)]) (st2 := [vr t1, vr t1]) kX10_random_30 rfl ?_
  refine q_gi eX10_random_32 fl_RX10_16 (Or.inl rfl) k18 (z := z9) rfl ?_
  refine AQ.if_ne (tgt := 62) eX10_random_35 (by decide) (by first | assumption | exact ⟨by omega, by omega⟩) (fun br20 => ?_) (fun br20 => ?_)
  · skip
    refine q_blk (lv2 := [(0, vr r), (1, vi ((N : Int) + 1)), (2, vr t1)]) (st2 := [vi 5, vr r, vr t1]) kX10_random_62 rfl ?_
    refine AQ.callVi (av := [vi 5]) (st := [vr t1]) (c_X11_below ⟨_, k17⟩ (by omega) (b := 5) (by omega) (by omega)) lk_RX10_10 (by omega) rfl rfl ⟨_, _, _, k17⟩ ⟨_, rfl, rfl⟩ (Nat.le_of_ble_eq_true rfl) eX10_random_64 (fun z21 h23 e22 => ?_)
    obtain ⟨⟨z21a, z21b⟩, ⟨z21s, z21c⟩, g24f, ⟨g24a, g24b⟩, g24c, g24d⟩ := e22
    have k25 := (g24f t1 (by omega) (by show ¬ _ = _; omega)).trans k18
    have F26 : ∀ q, q < h.2.1 → ¬ (fun q => q = r) q → h23.1 q = h.1 q := fun q q0 q1 => (g24f q (by omega) q1).trans (F19 q q0 q1)
    refine q_pi eX10_random_67 fl_RX10_20 (fun q hq => by cases hq; exact Or.inl rfl) (Or.inl rfl) k25 (Nat.le_of_ble_eq_true rfl) (l2 := [z9, z21, 0, 0]) rfl (fun h27 e28 => ?_)
    have k29 := (am_ne e28 r (by omega)).trans z21c
    have k30 := am_at e28
    have e28u : h27.2.1 = h23.2.1 := congrArg Prod.fst (am_z e28)
    have e28v : h27.2.2 = h23.2.2 := congrArg Prod.snd (am_z e28)
    have F31 : ∀ q, q < h.2.1 → ¬ (fun q => q = r) q → h27.1 q = h.1 q := fun q q0 q1 => (am_ne e28 q (by omega)).trans (F26 q q0 q1)
    refine q_blk (lv2 := [(0, vr r), (1, vi ((N : Int) + 1)), (2, vr t1)]) (st2 := [vr t1]) kX10_random_70 rfl ?_
    refine q_gi eX10_random_71 fl_RX10_16 (Or.inl rfl) k30 (z := z9) rfl ?_
    refine q_blk (lv2 := [(0, vr r), (1, vi ((N : Int) + 1)), (2, vr t1)]) (st2 := [vi 1, vi z9]) kX10_random_74 rfl ?_
    refine AQ.ic_le (tgt := 100) eX10_random_75 (by decide) (by first | assumption | exact ⟨by omega, by omega⟩) ⟨by decide, by decide⟩ (fun br32 => ?_) (fun br32 => ?_)
    · skip
      refine q_blk (lv2 := [(0, vr r), (1, vi ((N : Int) + 1)), (2, vr t1)]) (st2 := [vr t1]) kX10_random_100 rfl ?_
      exact q_ra rfl eX10_random_101 ⟨t1, rfl, ⟨_, _, Or.inl ⟨⟨by omega, by omega⟩, z9, z21, k30, Or.inr ⟨by omega, by omega, by omega, rfl, rfl⟩⟩⟩, ⟨_, k29⟩, ⟨F31, ⟨by omega, by omega⟩, by omega, by omega⟩⟩
    · skip
      refine q_blk (lv2 := [(0, vr r), (1, vi ((N : Int) + 1)), (2, vr t1)]) (st2 := [vi (((N : Int) + 1) - 1), vr r, vr t1]) kX10_random_78 rfl ?_
      rw [show (N : Int) + 1 - 1 = N by omega]
      refine AQ.callSr (av := [vr r, vi (N : Int)]) (st := [vr t1]) (ih ⟨_, k29⟩ (by omega)) lk_RX10_23 (by omega) rfl rfl (Nat.le_of_ble_eq_true rfl) eX10_random_83 (fun z33 h35 e34 => ?_)
      obtain ⟨⟨z33L, z33X, z33n⟩, ⟨z33s, z33c⟩, g36f, ⟨g36a, g36b⟩, g36c, g36d⟩ := e34
      have z33q := z33n.b.1
      have z33q1 := z33q.1
      have z33q2 := z33q.2
      have k37 := (g36f t1 (by omega) (by show ¬ _ = _; omega)).trans k30
      have F38 : ∀ q, q < h.2.1 → ¬ (fun q => q = r) q → h35.1 q = h.1 q := fun q q0 q1 => (g36f q (by omega) q1).trans (F31 q q0 q1)
      refine q_pr eX10_random_86 fl_RX10_27 (fun q hq => by cases hq; exact Or.inl rfl) (Or.inl ⟨_, rfl⟩) k37 (Nat.le_of_ble_eq_true rfl) (l2 := [none, none, some z33, none]) rfl (fun h39 e40 => ?_)
      have k41 := (am_ne e40 r (by omega)).trans z33c
      have k42 := am_at e40
      have e40u : h39.2.1 = h35.2.1 := congrArg Prod.fst (am_z e40)
      have e40v : h39.2.2 = h35.2.2 := congrArg Prod.snd (am_z e40)
      have F43 : ∀ q, q < h.2.1 → ¬ (fun q => q = r) q → h39.1 q = h.1 q := fun q q0 q1 => (am_ne e40 q (by omega)).trans (F38 q q0 q1)
      have N44 := z33n.mv (h1 := h39) (fun q b => am_ne e40 q (by have := b.1; omega)) (fun q b => b)
      refine q_blk (lv2 := [(0, vr r), (1, vi ((N : Int) + 1)), (2, vr t1)]) (st2 := [vi (((N : Int) + 1) - 1), vr r, vr t1]) kX10_random_89 rfl ?_
      rw [show (N : Int) + 1 - 1 = N by omega]
      refine AQ.callSr (av := [vr r, vi (N : Int)]) (st := [vr t1]) (ih ⟨_, k41⟩ (by omega)) lk_RX10_23 (by omega) rfl rfl (Nat.le_of_ble_eq_true rfl) eX10_random_94 (fun z45 h47 e46 => ?_)
      obtain ⟨⟨z45L, z45X, z45n⟩, ⟨z45s, z45c⟩, g48f, ⟨g48a, g48b⟩, g48c, g48d⟩ := e46
      have z45q := z45n.b.1
      have z45q1 := z45q.1
      have z45q2 := z45q.2
      have k49 := (g48f t1 (by omega) (by show ¬ _ = _; omega)).trans k42
      have F50 : ∀ q, q < h.2.1 → ¬ (fun q => q = r) q → h47.1 q = h.1 q := fun q q0 q1 => (g48f q (by omega) q1).trans (F43 q q0 q1)
      have N51 := N44.mv (h1 := h47) (fun q b => g48f q (by have := b.2; omega) (by have := b.1; show ¬ _ = _; omega)) (fun q b => b)
      refine q_pr eX10_random_97 fl_RX10_31 (fun q hq => by cases hq; exact Or.inl rfl) (Or.inl ⟨_, rfl⟩) k49 (Nat.le_of_ble_eq_true rfl) (l2 := [none, none, some z33, some z45]) rfl (fun h52 e53 => ?_)
      have k54 := (am_ne e53 r (by omega)).trans z45c
      have k55 := am_at e53
      have e53u : h52.2.1 = h47.2.1 := congrArg Prod.fst (am_z e53)
      have e53v : h52.2.2 = h47.2.2 := congrArg Prod.snd (am_z e53)
      have F56 : ∀ q, q < h.2.1 → ¬ (fun q => q = r) q → h52.1 q = h.1 q := fun q q0 q1 => (am_ne e53 q (by omega)).trans (F50 q q0 q1)
      have N57 := N51.mv (h1 := h52) (fun q b => am_ne e53 q (by have := b.1; omega)) (fun q b => b)
      have N58 := z45n.mv (h1 := h52) (fun q b => am_ne e53 q (by have := b.1; omega)) (fun q b => b)
      refine q_blk (lv2 := [(0, vr r), (1, vi ((N : Int) + 1)), (2, vr t1)]) (st2 := [vr t1]) kX10_random_100 rfl ?_
      exact q_ra rfl eX10_random_101 ⟨t1, rfl, ⟨_, _, Or.inr ⟨⟨by omega, by omega⟩, z9, z21, z33, z45, z33L, z45L, z33X, z45X, ⟨by omega, by omega⟩, k55, (N57.mv (h1 := h52) (B1 := FR h h52) (fun q b => rfl) (fun q b => ⟨by have := b.1; omega, by have := b.2; omega⟩)), (N58.mv (h1 := h52) (B1 := FR h h52) (fun q b => rfl) (fun q b => ⟨by have := b.1; omega, by have := b.2; omega⟩)), rfl, rfl⟩⟩, ⟨_, k54⟩, ⟨F56, ⟨by omega, by omega⟩, by omega, by omega⟩⟩
  · skip
    refine q_blk (lv2 := [(0, vr r), (1, vi ((N : Int) + 1)), (2, vr t1)]) (st2 := [vi 8, vr r, vr r, vr t1]) kX10_random_38 rfl ?_
    refine AQ.callVi (av := [vi 8]) (st := [vr r, vr t1]) (c_X11_below ⟨_, k17⟩ (by omega) (b := 8) (by omega) (by omega)) lk_RX10_10 (by omega) rfl rfl ⟨_, _, _, k17⟩ ⟨_, rfl, rfl⟩ (Nat.le_of_ble_eq_true rfl) eX10_random_42 (fun z59 h61 e60 => ?_)
    obtain ⟨⟨z59a, z59b⟩, ⟨z59s, z59c⟩, g62f, ⟨g62a, g62b⟩, g62c, g62d⟩ := e60
    have k63 := (g62f t1 (by omega) (by show ¬ _ = _; omega)).trans k18
    have F64 : ∀ q, q < h.2.1 → ¬ (fun q => q = r) q → h61.1 q = h.1 q := fun q q0 q1 => (g62f q (by omega) q1).trans (F19 q q0 q1)
    refine AQ.if_ne (tgt := 54) eX10_random_45 (by decide) (by first | assumption | exact ⟨by omega, by omega⟩) (fun br65 => ?_) (fun br65 => ?_)
    · skip
      refine q_blk (lv2 := [(0, vr r), (1, vi ((N : Int) + 1)), (2, vr t1)]) (st2 := [vi 12, vr r, vr t1]) kX10_random_54 rfl ?_
      refine AQ.callVi (av := [vi 12]) (st := [vr t1]) (c_X11_below ⟨_, z59c⟩ (by omega) (b := 12) (by omega) (by omega)) lk_RX10_10 (by omega) rfl rfl ⟨_, _, _, z59c⟩ ⟨_, rfl, rfl⟩ (Nat.le_of_ble_eq_true rfl) eX10_random_56 (fun z66 h68 e67 => ?_)
      obtain ⟨⟨z66a, z66b⟩, ⟨z66s, z66c⟩, g69f, ⟨g69a, g69b⟩, g69c, g69d⟩ := e67
      have k70 := (g69f t1 (by omega) (by show ¬ _ = _; omega)).trans k63
      have F71 : ∀ q, q < h.2.1 → ¬ (fun q => q = r) q → h68.1 q = h.1 q := fun q q0 q1 => (g69f q (by omega) q1).trans (F64 q q0 q1)
      refine q_goto (tgt := 67) eX10_random_59 (by decide) ?_
      refine q_pi eX10_random_67 fl_RX10_20 (fun q hq => by cases hq; exact Or.inl rfl) (Or.inl rfl) k70 (Nat.le_of_ble_eq_true rfl) (l2 := [z9, z66, 0, 0]) rfl (fun h72 e73 => ?_)
      have k74 := (am_ne e73 r (by omega)).trans z66c
      have k75 := am_at e73
      have e73u : h72.2.1 = h68.2.1 := congrArg Prod.fst (am_z e73)
      have e73v : h72.2.2 = h68.2.2 := congrArg Prod.snd (am_z e73)
      have F76 : ∀ q, q < h.2.1 → ¬ (fun q => q = r) q → h72.1 q = h.1 q := fun q q0 q1 => (am_ne e73 q (by omega)).trans (F71 q q0 q1)
      refine q_blk (lv2 := [(0, vr r), (1, vi ((N : Int) + 1)), (2, vr t1)]) (st2 := [vr t1]) kX10_random_70 rfl ?_
      refine q_gi eX10_random_71 fl_RX10_16 (Or.inl rfl) k75 (z := z9) rfl ?_
      refine q_blk (lv2 := [(0, vr r), (1, vi ((N : Int) + 1)), (2, vr t1)]) (st2 := [vi 1, vi z9]) kX10_random_74 rfl ?_
      refine AQ.of (AS.ic_le_t (tgt := 100) eX10_random_75 (by decide) (by first | assumption | exact ⟨by omega, by omega⟩) ⟨by decide, by decide⟩ (by omega)) ?_
      refine q_blk (lv2 := [(0, vr r), (1, vi ((N : Int) + 1)), (2, vr t1)]) (st2 := [vr t1]) kX10_random_100 rfl ?_
      exact q_ra rfl eX10_random_101 ⟨t1, rfl, ⟨_, _, Or.inl ⟨⟨by omega, by omega⟩, z9, z66, k75, Or.inl ⟨by omega, by omega, by omega, rfl, rfl⟩⟩⟩, ⟨_, k74⟩, ⟨F76, ⟨by omega, by omega⟩, by omega, by omega⟩⟩
    · skip
      refine q_blk (lv2 := [(0, vr r), (1, vi ((N : Int) + 1)), (2, vr t1)]) (st2 := [vi 10000, vr r, vr t1]) kX10_random_48 rfl ?_
      refine q_goto (tgt := 56) eX10_random_51 (by decide) ?_
      refine AQ.callVi (av := [vi 10000]) (st := [vr t1]) (c_X11_below ⟨_, z59c⟩ (by omega) (b := 10000) (by omega) (by omega)) lk_RX10_10 (by omega) rfl rfl ⟨_, _, _, z59c⟩ ⟨_, rfl, rfl⟩ (Nat.le_of_ble_eq_true rfl) eX10_random_56 (fun z77 h79 e78 => ?_)
      obtain ⟨⟨z77a, z77b⟩, ⟨z77s, z77c⟩, g80f, ⟨g80a, g80b⟩, g80c, g80d⟩ := e78
      have k81 := (g80f t1 (by omega) (by show ¬ _ = _; omega)).trans k63
      have F82 : ∀ q, q < h.2.1 → ¬ (fun q => q = r) q → h79.1 q = h.1 q := fun q q0 q1 => (g80f q (by omega) q1).trans (F64 q q0 q1)
      refine q_goto (tgt := 67) eX10_random_59 (by decide) ?_
      refine q_pi eX10_random_67 fl_RX10_20 (fun q hq => by cases hq; exact Or.inl rfl) (Or.inl rfl) k81 (Nat.le_of_ble_eq_true rfl) (l2 := [z9, z77, 0, 0]) rfl (fun h83 e84 => ?_)
      have k85 := (am_ne e84 r (by omega)).trans z77c
      have k86 := am_at e84
      have e84u : h83.2.1 = h79.2.1 := congrArg Prod.fst (am_z e84)
      have e84v : h83.2.2 = h79.2.2 := congrArg Prod.snd (am_z e84)
      have F87 : ∀ q, q < h.2.1 → ¬ (fun q => q = r) q → h83.1 q = h.1 q := fun q q0 q1 => (am_ne e84 q (by omega)).trans (F82 q q0 q1)
      refine q_blk (lv2 := [(0, vr r), (1, vi ((N : Int) + 1)), (2, vr t1)]) (st2 := [vr t1]) kX10_random_70 rfl ?_
      refine q_gi eX10_random_71 fl_RX10_16 (Or.inl rfl) k86 (z := z9) rfl ?_
      refine q_blk (lv2 := [(0, vr r), (1, vi ((N : Int) + 1)), (2, vr t1)]) (st2 := [vi 1, vi z9]) kX10_random_74 rfl ?_
      refine AQ.of (AS.ic_le_t (tgt := 100) eX10_random_75 (by decide) (by first | assumption | exact ⟨by omega, by omega⟩) ⟨by decide, by decide⟩ (by omega)) ?_
      refine q_blk (lv2 := [(0, vr r), (1, vi ((N : Int) + 1)), (2, vr t1)]) (st2 := [vr t1]) kX10_random_100 rfl ?_
      exact q_ra rfl eX10_random_101 ⟨t1, rfl, ⟨_, _, Or.inl ⟨⟨by omega, by omega⟩, z9, z77, k86, Or.inl ⟨by omega, by omega, by omega, rfl, rfl⟩⟩⟩, ⟨_, k85⟩, ⟨F87, ⟨by omega, by omega⟩, by omega, by omega⟩⟩

theorem c_X10_random {w : am_w} {r : Nat} : ∀ {N : Nat}, N < 100 → ∀ {h : AH}, RND h r → r < h.2.1 → AE w m_X10_random (N + 4) [vr r, vi (N : Int)] h (am_ref (fun q h1 => (∃ L X, NT h1 (FR h h1) N q L X) ∧ RND h1 r ∧ KF h h1 (fun q => q = r) (gm_nc N) (4 * gm_nc N))) := by
  intro N
  induction N with
  | zero => intro _ h hR hl; exact c_X10_random0 hR hl
  | succ N ih =>
    intro hN h hR hl
    have := c_X10_randomS (w := w) hR hl (N := N) (by omega) (ih (by omega))
    rw [show ((N + 1 : Nat) : Int) = (N : Int) + 1 by omega]
    exact this
