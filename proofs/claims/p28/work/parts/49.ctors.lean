/-! Constructors. -/
theorem am_L_z : ∀ n : Nat, am_L (List.replicate n 0) = fun _ => 0 := by
  intro n
  funext j
  cases j with
  | ofNat j => show (List.replicate n (0 : Int)).getD j 0 = 0; simp [List.getD_eq_getElem?_getD, List.getElem?_replicate]; split <;> rfl
  | negSucc j => rfl
theorem am_G_z : ∀ n : Nat, am_G (List.replicate n none) = am_N := by
  intro n
  funext j
  cases j with
  | ofNat j => show (List.replicate n (none : Option Nat)).getD j none = none; simp [List.getD_eq_getElem?_getD, List.getElem?_replicate]; split <;> rfl
  | negSucc j => rfl
def am_Z : Int → Int := fun _ => 0
/-- so many slots made since -/
def gm_sl (h h1 : AH) (n : Nat) : Prop := h1.2.2 = h.2.2 + n
theorem gm_sl.z {h h1 : AH} (e : h1.2.2 = h.2.2) : gm_sl h h1 0 := e
theorem gm_sl.a {h h1 h2 : AH} {a b n m N : Nat} (p : gm_sl h h1 n) (e : h2.2 = (a, h1.2.2 + m)) (k : n + m = N) : gm_sl h h2 N := by
  unfold gm_sl at p ⊢
  rw [e, ← k, ← Nat.add_assoc, ← p]
theorem gm_sl.s {h h1 h2 : AH} {n : Nat} (p : gm_sl h h1 n) (e : h2.2 = h1.2) : gm_sl h h2 n := by
  unfold gm_sl at p ⊢
  rw [e, p]
section CTORS
variable {w : am_w} {y : YR} {d pc : Nat} {lv : List (Nat × AV)} {st : List AV} {h : AH} {Q : RV → AH → Prop}
theorem q_no {idx ci n0 : Nat} {q : vw_C} (ha : h.2.1 = n0) (hd : decode y.2.1 pc = .ok (.new idx, 3)) (hq : vwCl[ci]? = some q) (hl1 : Cond.classLink y.1.cls idx q.1 ∈ GW) (hl2 : Cond.instantiable q.1 q.2.2 ∈ GW) (hl3 : Cond.initialized q.1 ∈ GW)
    (kk : ∀ h2 : AH, h2.1 n0 = some (ci, (q.2.2 : Int), am_L (List.replicate q.2.2 0), am_G (List.replicate q.2.2 none)) → (∀ z, z ≠ n0 → h2.1 z = h.1 z) → h2.2 = (n0 + 1, h.2.2 + q.2.2) → AQ w y d (pc + 3) lv (vr n0 :: st) h2 Q) : AQ w y d pc lv st h Q := by
  subst ha
  refine AQ.of (AS.newO hd hq hl1 hl2 hl3) (kk _ ?_ (fun z hz => am_new_ne _ _ hz) rfl)
  rw [am_L_z, am_G_z]
  exact am_new_at h _ _
theorem q_na {k n0 : Nat} {n : Int} {aty : ArrayType} (N : Nat) (hN : n.toNat = N) (ha : h.2.1 = n0) (hd : decode y.2.1 pc = .ok (.newarray aty, 2)) (hk : (k = 100 ∧ aty = .int) ∨ (k = 101 ∧ aty = .byte) ∨ (k = 102 ∧ aty = .long)) (hw : Cond.arrayClass (newarray.typeOf aty) ∈ GW) (h0 : 0 ≤ n) (h1 : n ≤ 1000000)
    (kk : ∀ h2 : AH, h2.1 n0 = some (k, n, am_Z, am_N) → (∀ z, z ≠ n0 → h2.1 z = h.1 z) → h2.2 = (n0 + 1, h.2.2 + N) → AQ w y d (pc + 2) lv (vr n0 :: st) h2 Q) : AQ w y d pc lv (vi n :: st) h Q := by
  subst ha
  subst hN
  exact AQ.of (AS.newA hd hk hw h0 h1) (kk _ (am_new_at h _ _) (fun z hz => am_new_ne _ _ hz) rfl)
theorem q_nr {k idx n0 : Nat} {n : Int} {C : String} (N : Nat) (hN : n.toNat = N) (ha : h.2.1 = n0) (hd : decode y.2.1 pc = .ok (.anewarray idx, 3)) (hk : (k = 103 ∧ C = "CornerClaims$Board") ∨ (k = 104 ∧ C = "CornerClaims$Shape")) (hw : Cond.classLink y.1.cls idx C ∈ GW) (h0 : 0 ≤ n) (h1 : n ≤ 1000000)
    (kk : ∀ h2 : AH, h2.1 n0 = some (k, n, am_Z, am_N) → (∀ z, z ≠ n0 → h2.1 z = h.1 z) → h2.2 = (n0 + 1, h.2.2 + N) → AQ w y d (pc + 3) lv (vr n0 :: st) h2 Q) : AQ w y d pc lv (vi n :: st) h Q := by
  subst ha
  subst hN
  exact AQ.of (AS.newR hd (hk.elim Or.inl fun q => Or.inr (Or.inl q)) hw h0 h1) (kk _ (am_new_at h _ _) (fun z hz => am_new_ne _ _ hz) rfl)
end CTORS

set_option maxHeartbeats 2000000 in
theorem c_X7_init {w : am_w} {h : AH} {a : Nat} (hc : h.1 a = some (6, 5, am_L (List.replicate 5 0), am_G (List.replicate 5 none))) (ht : h.2.1 = a + 1)  : AE w m_X7_init 2 [vr a] h (am_unit (fun h1 => (∃ fx fy, SP h1 a 0 0 0 fx fy) ∧ h1.2 = (a + 3, h.2.2 + 24) ∧ ∀ q, q < a → h1.1 q = h.1 q)) := by
  refine AE.of wf_X7_init (Nat.le_of_ble_eq_true rfl) (am_ok_v) ?_
  refine q_blk (lv2 := [(0, vr a)]) (st2 := [vr a]) kX7_init_0 rfl ?_
  refine AQ.of (AS.objInit eX7_init_1 (am_gw 91 (by decide +kernel) (by decide +kernel)) (am_gw 77 (by decide +kernel) (by decide +kernel)) (am_gw 78 (by decide +kernel) (by decide +kernel)) (by decide) (Nat.le_of_ble_eq_true rfl)) ?_
  refine q_blk (lv2 := [(0, vr a)]) (st2 := [vi 12, vr a]) kX7_init_4 rfl ?_
  refine q_na (k := 100) 12 rfl ht eX7_init_7 (Or.inl ⟨rfl, rfl⟩) (am_gw 120 (by decide +kernel) (by decide +kernel)) (by decide) (by decide) (fun h1 e2c e2f e2z => ?_)
  have k3 := (e2f a (by omega)).trans hc
  have l4 : ∀ q, q < a → h1.1 q = h.1 q := fun q hq => (e2f q (by omega)).trans ((fun _ _ => rfl) q hq)
  have e2t : h1.2.1 = (a + 2) := by rw [e2z]
  have e2s : gm_sl h h1 12 := gm_sl.a (n := 0) (b := 0) (gm_sl.z rfl) e2z rfl
  refine q_pr eX7_init_9 fl_RX7_9 (fun q hq => by cases hq; exact Or.inr ⟨rfl, rfl, am_gw 92 (by decide +kernel) (by decide +kernel)⟩) (Or.inr ⟨_, rfl⟩) k3 (Nat.le_of_ble_eq_true rfl) (l2 := [some (a + 1), none, none, none, none]) rfl (fun h5 e6 => ?_)
  have k7 := am_at e6
  have k8 := (am_ne e6 (a + 1) (by omega)).trans e2c
  have e6t : h5.2.1 = (a + 2) := (congrArg Prod.fst (am_z e6)).trans e2t
  clear e2t
  have e6s : gm_sl h h5 12 := gm_sl.s e2s (am_z e6)
  have l9 : ∀ q, q < a → h5.1 q = h.1 q := fun q hq => (am_ne e6 q (by omega)).trans (l4 q hq)
  refine q_blk (lv2 := [(0, vr a)]) (st2 := [vi 12, vr a]) kX7_init_12 rfl ?_
  refine q_na (k := 100) 12 rfl e6t eX7_init_15 (Or.inl ⟨rfl, rfl⟩) (am_gw 120 (by decide +kernel) (by decide +kernel)) (by decide) (by decide) (fun h10 e11c e11f e11z => ?_)
  have k12 := (e11f a (by omega)).trans k7
  have k13 := (e11f (a + 1) (by omega)).trans k8
  have l14 : ∀ q, q < a → h10.1 q = h.1 q := fun q hq => (e11f q (by omega)).trans (l9 q hq)
  have e11t : h10.2.1 = (a + 3) := by rw [e11z]
  have e11s : gm_sl h h10 24 := gm_sl.a (n := 12) (b := 0) e6s e11z rfl
  clear e6t
  refine q_pr eX7_init_17 fl_RX7_15 (fun q hq => by cases hq; exact Or.inr ⟨rfl, rfl, am_gw 93 (by decide +kernel) (by decide +kernel)⟩) (Or.inr ⟨_, rfl⟩) k12 (Nat.le_of_ble_eq_true rfl) (l2 := [some (a + 1), some (a + 2), none, none, none]) rfl (fun h15 e16 => ?_)
  have k17 := am_at e16
  have k18 := (am_ne e16 (a + 1) (by omega)).trans k13
  have k19 := (am_ne e16 (a + 2) (by omega)).trans e11c
  have e16t : h15.2.1 = (a + 3) := (congrArg Prod.fst (am_z e16)).trans e11t
  clear e11t
  have e16s : gm_sl h h15 24 := gm_sl.s e11s (am_z e16)
  have l20 : ∀ q, q < a → h15.1 q = h.1 q := fun q hq => (am_ne e16 q (by omega)).trans (l14 q hq)
  refine q_blk (lv2 := [(0, vr a)]) (st2 := [vi 0, vr a]) kX7_init_20 rfl ?_
  refine q_pi eX7_init_22 fl_RX7_18 (fun q hq => by cases hq; exact Or.inl rfl) (Or.inl rfl) k17 (Nat.le_of_ble_eq_true rfl) (l2 := [0, 0, 0, 0, 0]) rfl (fun h21 e22 => ?_)
  have k23 := am_at e22
  have k24 := (am_ne e22 (a + 1) (by omega)).trans k18
  have k25 := (am_ne e22 (a + 2) (by omega)).trans k19
  have e22t : h21.2.1 = (a + 3) := (congrArg Prod.fst (am_z e22)).trans e16t
  clear e16t
  have e22s : gm_sl h h21 24 := gm_sl.s e16s (am_z e22)
  have l26 : ∀ q, q < a → h21.1 q = h.1 q := fun q hq => (am_ne e22 q (by omega)).trans (l20 q hq)
  refine q_blk (lv2 := [(0, vr a)]) (st2 := [vi 0, vr a]) kX7_init_25 rfl ?_
  refine q_pi eX7_init_27 fl_RX7_22 (fun q hq => by cases hq; exact Or.inl rfl) (Or.inl rfl) k23 (Nat.le_of_ble_eq_true rfl) (l2 := [0, 0, 0, 0, 0]) rfl (fun h27 e28 => ?_)
  have k29 := am_at e28
  have k30 := (am_ne e28 (a + 1) (by omega)).trans k24
  have k31 := (am_ne e28 (a + 2) (by omega)).trans k25
  have e28t : h27.2.1 = (a + 3) := (congrArg Prod.fst (am_z e28)).trans e22t
  clear e22t
  have e28s : gm_sl h h27 24 := gm_sl.s e22s (am_z e28)
  have l32 : ∀ q, q < a → h27.1 q = h.1 q := fun q hq => (am_ne e28 q (by omega)).trans (l26 q hq)
  refine q_blk (lv2 := [(0, vr a)]) (st2 := [vi 0, vr a]) kX7_init_30 rfl ?_
  refine q_pi eX7_init_32 fl_RX7_25 (fun q hq => by cases hq; exact Or.inl rfl) (Or.inr ⟨rfl, by first | decide | omega⟩) k29 (Nat.le_of_ble_eq_true rfl) (l2 := [0, 0, 0, 0, 0]) rfl (fun h33 e34 => ?_)
  have k35 := am_at e34
  have k36 := (am_ne e34 (a + 1) (by omega)).trans k30
  have k37 := (am_ne e34 (a + 2) (by omega)).trans k31
  have e34t : h33.2.1 = (a + 3) := (congrArg Prod.fst (am_z e34)).trans e28t
  clear e28t
  have e34s : gm_sl h h33 24 := gm_sl.s e28s (am_z e34)
  have l38 : ∀ q, q < a → h33.1 q = h.1 q := fun q hq => (am_ne e34 q (by omega)).trans (l32 q hq)
  exact q_rv rfl eX7_init_35 ⟨rfl, ⟨am_Z, am_Z, k35, k36, k37⟩, Prod.ext e34t e34s, l38⟩

set_option maxHeartbeats 2000000 in
theorem c_X4_init {w : am_w} {h : AH} {a : Nat} (hc : h.1 a = some (3, 8, am_L (List.replicate 8 0), am_G (List.replicate 8 none))) (ht : h.2.1 = a + 1)  : AE w m_X4_init 2 [vr a] h (am_unit (fun h1 => (LJ h1 a) ∧ h1.2 = (a + 1, h.2.2 + 0) ∧ ∀ q, q < a → h1.1 q = h.1 q)) := by
  refine AE.of wf_X4_init (Nat.le_of_ble_eq_true rfl) (am_ok_v) ?_
  refine q_blk (lv2 := [(0, vr a)]) (st2 := [vr a]) kX4_init_0 rfl ?_
  refine AQ.of (AS.objInit eX4_init_1 (am_gw 178 (by decide +kernel) (by decide +kernel)) (am_gw 77 (by decide +kernel) (by decide +kernel)) (am_gw 78 (by decide +kernel) (by decide +kernel)) (by decide) (Nat.le_of_ble_eq_true rfl)) ?_
  refine q_blk (lv2 := [(0, vr a)]) (st2 := [vi 0, vr a]) kX4_init_4 rfl ?_
  refine q_pi eX4_init_6 fl_RX4_9 (fun q hq => by cases hq; exact Or.inl rfl) (Or.inl rfl) hc (Nat.le_of_ble_eq_true rfl) (l2 := [0, 0, 0, 0, 0, 0, 0, 0]) rfl (fun h1 e2 => ?_)
  have k3 := am_at e2
  have e2t : h1.2.1 = (a + 1) := (congrArg Prod.fst (am_z e2)).trans ht
  have e2s : gm_sl h h1 0 := gm_sl.s (gm_sl.z rfl) (am_z e2)
  have l4 : ∀ q, q < a → h1.1 q = h.1 q := fun q hq => (am_ne e2 q (by omega)).trans ((fun _ _ => rfl) q hq)
  refine q_blk (lv2 := [(0, vr a)]) (st2 := [vi 0, vr a]) kX4_init_9 rfl ?_
  refine q_pi eX4_init_11 fl_RX4_15 (fun q hq => by cases hq; exact Or.inl rfl) (Or.inl rfl) k3 (Nat.le_of_ble_eq_true rfl) (l2 := [0, 0, 0, 0, 0, 0, 0, 0]) rfl (fun h5 e6 => ?_)
  have k7 := am_at e6
  have e6t : h5.2.1 = (a + 1) := (congrArg Prod.fst (am_z e6)).trans e2t
  clear e2t
  have e6s : gm_sl h h5 0 := gm_sl.s e2s (am_z e6)
  have l8 : ∀ q, q < a → h5.1 q = h.1 q := fun q hq => (am_ne e6 q (by omega)).trans (l4 q hq)
  refine q_blk (lv2 := [(0, vr a)]) (st2 := [vi 0, vr a]) kX4_init_14 rfl ?_
  refine q_pi eX4_init_16 fl_RX4_18 (fun q hq => by cases hq; exact Or.inl rfl) (Or.inl rfl) k7 (Nat.le_of_ble_eq_true rfl) (l2 := [0, 0, 0, 0, 0, 0, 0, 0]) rfl (fun h9 e10 => ?_)
  have k11 := am_at e10
  have e10t : h9.2.1 = (a + 1) := (congrArg Prod.fst (am_z e10)).trans e6t
  clear e6t
  have e10s : gm_sl h h9 0 := gm_sl.s e6s (am_z e10)
  have l12 : ∀ q, q < a → h9.1 q = h.1 q := fun q hq => (am_ne e10 q (by omega)).trans (l8 q hq)
  refine q_blk (lv2 := [(0, vr a)]) (st2 := [vi 0, vr a]) kX4_init_19 rfl ?_
  refine q_pi eX4_init_21 fl_RX4_21 (fun q hq => by cases hq; exact Or.inl rfl) (Or.inl rfl) k11 (Nat.le_of_ble_eq_true rfl) (l2 := [0, 0, 0, 0, 0, 0, 0, 0]) rfl (fun h13 e14 => ?_)
  have k15 := am_at e14
  have e14t : h13.2.1 = (a + 1) := (congrArg Prod.fst (am_z e14)).trans e10t
  clear e10t
  have e14s : gm_sl h h13 0 := gm_sl.s e10s (am_z e14)
  have l16 : ∀ q, q < a → h13.1 q = h.1 q := fun q hq => (am_ne e14 q (by omega)).trans (l12 q hq)
  refine q_blk (lv2 := [(0, vr a)]) (st2 := [vi (-1), vr a]) kX4_init_24 rfl ?_
  refine q_pi eX4_init_26 fl_RX4_24 (fun q hq => by cases hq; exact Or.inl rfl) (Or.inl rfl) k15 (Nat.le_of_ble_eq_true rfl) (l2 := [0, 0, 0, 0, (-1), 0, 0, 0]) rfl (fun h17 e18 => ?_)
  have k19 := am_at e18
  have e18t : h17.2.1 = (a + 1) := (congrArg Prod.fst (am_z e18)).trans e14t
  clear e14t
  have e18s : gm_sl h h17 0 := gm_sl.s e14s (am_z e18)
  have l20 : ∀ q, q < a → h17.1 q = h.1 q := fun q hq => (am_ne e18 q (by omega)).trans (l16 q hq)
  refine q_blk (lv2 := [(0, vr a)]) (st2 := [vi (-1), vr a]) kX4_init_29 rfl ?_
  refine q_pi eX4_init_31 fl_RX4_27 (fun q hq => by cases hq; exact Or.inl rfl) (Or.inl rfl) k19 (Nat.le_of_ble_eq_true rfl) (l2 := [0, 0, 0, 0, (-1), (-1), 0, 0]) rfl (fun h21 e22 => ?_)
  have k23 := am_at e22
  have e22t : h21.2.1 = (a + 1) := (congrArg Prod.fst (am_z e22)).trans e18t
  clear e18t
  have e22s : gm_sl h h21 0 := gm_sl.s e18s (am_z e22)
  have l24 : ∀ q, q < a → h21.1 q = h.1 q := fun q hq => (am_ne e22 q (by omega)).trans (l20 q hq)
  refine q_blk (lv2 := [(0, vr a)]) (st2 := [vi (-1), vr a]) kX4_init_34 rfl ?_
  refine q_pi eX4_init_36 fl_RX4_30 (fun q hq => by cases hq; exact Or.inl rfl) (Or.inl rfl) k23 (Nat.le_of_ble_eq_true rfl) (l2 := [0, 0, 0, 0, (-1), (-1), (-1), 0]) rfl (fun h25 e26 => ?_)
  have k27 := am_at e26
  have e26t : h25.2.1 = (a + 1) := (congrArg Prod.fst (am_z e26)).trans e22t
  clear e22t
  have e26s : gm_sl h h25 0 := gm_sl.s e22s (am_z e26)
  have l28 : ∀ q, q < a → h25.1 q = h.1 q := fun q hq => (am_ne e26 q (by omega)).trans (l24 q hq)
  refine q_blk (lv2 := [(0, vr a)]) (st2 := [vi (-1), vr a]) kX4_init_39 rfl ?_
  refine q_pi eX4_init_41 fl_RX4_33 (fun q hq => by cases hq; exact Or.inl rfl) (Or.inl rfl) k27 (Nat.le_of_ble_eq_true rfl) (l2 := [0, 0, 0, 0, (-1), (-1), (-1), (-1)]) rfl (fun h29 e30 => ?_)
  have k31 := am_at e30
  have e30t : h29.2.1 = (a + 1) := (congrArg Prod.fst (am_z e30)).trans e26t
  clear e26t
  have e30s : gm_sl h h29 0 := gm_sl.s e26s (am_z e30)
  have l32 : ∀ q, q < a → h29.1 q = h.1 q := fun q hq => (am_ne e30 q (by omega)).trans (l28 q hq)
  exact q_rv rfl eX4_init_44 ⟨rfl, ⟨0, 0, 0, 0, -1, -1, -1, -1, (by have q := k31; rw [am_G_z] at q; exact q), ⟨by decide, by decide⟩, ⟨by decide, by decide⟩, ⟨by decide, by decide⟩, ⟨by decide, by decide⟩⟩, Prod.ext e30t e30s, l32⟩

set_option maxHeartbeats 2000000 in
theorem c_X3_init {w : am_w} {h : AH} {a : Nat} (hc : h.1 a = some (2, 2, am_L (List.replicate 2 0), am_G (List.replicate 2 none))) (ht : h.2.1 = a + 1) {b : Nat}  : AE w m_X3_init 3 [vr a, vr b] h (am_unit (fun h1 => (JD h1 a b (a + 1) ∧ LJ h1 (a + 1)) ∧ h1.2 = (a + 2, h.2.2 + 8) ∧ ∀ q, q < a → h1.1 q = h.1 q)) := by
  refine AE.of wf_X3_init (Nat.le_of_ble_eq_true rfl) (am_ok_v) ?_
  refine q_blk (lv2 := [(0, vr a), (1, vr b)]) (st2 := [vr a]) kX3_init_0 rfl ?_
  refine AQ.of (AS.objInit eX3_init_1 (am_gw 172 (by decide +kernel) (by decide +kernel)) (am_gw 77 (by decide +kernel) (by decide +kernel)) (am_gw 78 (by decide +kernel) (by decide +kernel)) (by decide) (Nat.le_of_ble_eq_true rfl)) ?_
  refine q_blk (lv2 := [(0, vr a), (1, vr b)]) (st2 := [vr a]) kX3_init_4 rfl ?_
  refine q_no (ci := 3) ht eX3_init_5 rfl (am_gw 173 (by decide +kernel) (by decide +kernel)) (am_gw 174 (by decide +kernel) (by decide +kernel)) in_RX4 (fun h1 e2c e2f e2z => ?_)
  have k3 := (e2f a (by omega)).trans hc
  have l4 : ∀ q, q < a → h1.1 q = h.1 q := fun q hq => (e2f q (by omega)).trans ((fun _ _ => rfl) q hq)
  have e2t : h1.2.1 = (a + 2) := by rw [e2z]
  have e2s : gm_sl h h1 8 := gm_sl.a (n := 0) (b := 0) (gm_sl.z rfl) e2z rfl
  refine q_blk (lv2 := [(0, vr a), (1, vr b)]) (st2 := [vr (a + 1), vr (a + 1), vr a]) kX3_init_8 rfl ?_
  refine AQ.callIv (av := []) (st := [vr (a + 1), vr a]) (c_X4_init e2c e2t) lk_RX3_11 (by decide) rfl rfl (Nat.le_of_ble_eq_true rfl) eX3_init_9 (fun h7 e6 => ?_)
  obtain ⟨ph7, zh7, fh7⟩ := e6
  have k8 := (fh7 a (by omega)).trans k3
  have l9 : ∀ q, q < a → h7.1 q = h.1 q := fun q hq => (fh7 q (by omega)).trans (l4 q hq)
  have th7 : h7.2.1 = (a + 2) := by rw [zh7]
  have sh7 : gm_sl h h7 8 := gm_sl.a (n := 8) (b := 0) e2s zh7 rfl
  refine q_pr eX3_init_12 fl_RX3_12 (fun q hq => by cases hq; exact Or.inr ⟨rfl, rfl, am_gw 205 (by decide +kernel) (by decide +kernel)⟩) (Or.inl ⟨_, rfl⟩) k8 (Nat.le_of_ble_eq_true rfl) (l2 := [none, some (a + 1)]) rfl (fun h10 e11 => ?_)
  have k12 := am_at e11
  have e11t : h10.2.1 = (a + 2) := (congrArg Prod.fst (am_z e11)).trans th7
  clear th7
  have e11s : gm_sl h h10 8 := gm_sl.s sh7 (am_z e11)
  have l13 : ∀ q, q < a → h10.1 q = h.1 q := fun q hq => (am_ne e11 q (by omega)).trans (l9 q hq)
  have L14 := ph7.kept (lo := a) (hi := a + 1) (am_fr.st e11 (by omega) (by omega)) (by omega)
  refine q_blk (lv2 := [(0, vr a), (1, vr b)]) (st2 := [vr b, vr a]) kX3_init_15 rfl ?_
  refine q_pr eX3_init_17 fl_RX3_18 (fun q hq => by cases hq; exact Or.inr ⟨rfl, rfl, am_gw 204 (by decide +kernel) (by decide +kernel)⟩) (Or.inl ⟨_, rfl⟩) k12 (Nat.le_of_ble_eq_true rfl) (l2 := [some b, some (a + 1)]) rfl (fun h15 e16 => ?_)
  have k17 := am_at e16
  have e16t : h15.2.1 = (a + 2) := (congrArg Prod.fst (am_z e16)).trans e11t
  clear e11t
  have e16s : gm_sl h h15 8 := gm_sl.s e11s (am_z e16)
  have l18 : ∀ q, q < a → h15.1 q = h.1 q := fun q hq => (am_ne e16 q (by omega)).trans (l13 q hq)
  have L19 := L14.kept (lo := a) (hi := a + 1) (am_fr.st e16 (by omega) (by omega)) (by omega)
  exact q_rv rfl eX3_init_20 ⟨rfl, ⟨(by have q := k17; rw [am_L_z 2] at q; unfold JD; rw [show am_L [] = fun _ => 0 from am_L_z 0]; exact q), L19⟩, Prod.ext e16t e16s, l18⟩

set_option maxHeartbeats 2000000 in
theorem c_X5_init {w : am_w} {h : AH} {a : Nat} (hc : h.1 a = some (4, 4, am_L (List.replicate 4 0), am_G (List.replicate 4 none))) (ht : h.2.1 = a + 1) {b : Nat}  : AE w m_X5_init 2 [vr a, vr b] h (am_unit (fun h1 => (∃ fg l, SCD h1 a b fg l) ∧ h1.2 = (a + 3, h.2.2 + 21) ∧ ∀ q, q < a → h1.1 q = h.1 q)) := by
  refine AE.of wf_X5_init (Nat.le_of_ble_eq_true rfl) (am_ok_v) ?_
  refine q_blk (lv2 := [(0, vr a), (1, vr b)]) (st2 := [vr a]) kX5_init_0 rfl ?_
  refine AQ.of (AS.objInit eX5_init_1 (am_gw 270 (by decide +kernel) (by decide +kernel)) (am_gw 77 (by decide +kernel) (by decide +kernel)) (am_gw 78 (by decide +kernel) (by decide +kernel)) (by decide) (Nat.le_of_ble_eq_true rfl)) ?_
  refine q_blk (lv2 := [(0, vr a), (1, vr b)]) (st2 := [vi 5, vr a]) kX5_init_4 rfl ?_
  refine q_na (k := 100) 5 rfl ht eX5_init_6 (Or.inl ⟨rfl, rfl⟩) (am_gw 120 (by decide +kernel) (by decide +kernel)) (by decide) (by decide) (fun h1 e2c e2f e2z => ?_)
  have k3 := (e2f a (by omega)).trans hc
  have l4 : ∀ q, q < a → h1.1 q = h.1 q := fun q hq => (e2f q (by omega)).trans ((fun _ _ => rfl) q hq)
  have e2t : h1.2.1 = (a + 2) := by rw [e2z]
  have e2s : gm_sl h h1 5 := gm_sl.a (n := 0) (b := 0) (gm_sl.z rfl) e2z rfl
  refine q_pr eX5_init_8 fl_RX5_9 (fun q hq => by cases hq; exact Or.inr ⟨rfl, rfl, am_gw 272 (by decide +kernel) (by decide +kernel)⟩) (Or.inr ⟨_, rfl⟩) k3 (Nat.le_of_ble_eq_true rfl) (l2 := [none, some (a + 1), none, none]) rfl (fun h5 e6 => ?_)
  have k7 := am_at e6
  have k8 := (am_ne e6 (a + 1) (by omega)).trans e2c
  have e6t : h5.2.1 = (a + 2) := (congrArg Prod.fst (am_z e6)).trans e2t
  clear e2t
  have e6s : gm_sl h h5 5 := gm_sl.s e2s (am_z e6)
  have l9 : ∀ q, q < a → h5.1 q = h.1 q := fun q hq => (am_ne e6 q (by omega)).trans (l4 q hq)
  refine q_blk (lv2 := [(0, vr a), (1, vr b)]) (st2 := [vi 16, vr a]) kX5_init_11 rfl ?_
  refine q_na (k := 100) 16 rfl e6t eX5_init_14 (Or.inl ⟨rfl, rfl⟩) (am_gw 120 (by decide +kernel) (by decide +kernel)) (by decide) (by decide) (fun h10 e11c e11f e11z => ?_)
  have k12 := (e11f a (by omega)).trans k7
  have k13 := (e11f (a + 1) (by omega)).trans k8
  have l14 : ∀ q, q < a → h10.1 q = h.1 q := fun q hq => (e11f q (by omega)).trans (l9 q hq)
  have e11t : h10.2.1 = (a + 3) := by rw [e11z]
  have e11s : gm_sl h h10 21 := gm_sl.a (n := 5) (b := 0) e6s e11z rfl
  clear e6t
  refine q_pr eX5_init_16 fl_RX5_15 (fun q hq => by cases hq; exact Or.inr ⟨rfl, rfl, am_gw 273 (by decide +kernel) (by decide +kernel)⟩) (Or.inr ⟨_, rfl⟩) k12 (Nat.le_of_ble_eq_true rfl) (l2 := [none, some (a + 1), some (a + 2), none]) rfl (fun h15 e16 => ?_)
  have k17 := am_at e16
  have k18 := (am_ne e16 (a + 1) (by omega)).trans k13
  have k19 := (am_ne e16 (a + 2) (by omega)).trans e11c
  have e16t : h15.2.1 = (a + 3) := (congrArg Prod.fst (am_z e16)).trans e11t
  clear e11t
  have e16s : gm_sl h h15 21 := gm_sl.s e11s (am_z e16)
  have l20 : ∀ q, q < a → h15.1 q = h.1 q := fun q hq => (am_ne e16 q (by omega)).trans (l14 q hq)
  refine q_blk (lv2 := [(0, vr a), (1, vr b)]) (st2 := [vi 0, vr a]) kX5_init_19 rfl ?_
  refine q_pi eX5_init_21 fl_RX5_18 (fun q hq => by cases hq; exact Or.inl rfl) (Or.inl rfl) k17 (Nat.le_of_ble_eq_true rfl) (l2 := [0, 0, 0, 0]) rfl (fun h21 e22 => ?_)
  have k23 := am_at e22
  have k24 := (am_ne e22 (a + 1) (by omega)).trans k18
  have k25 := (am_ne e22 (a + 2) (by omega)).trans k19
  have e22t : h21.2.1 = (a + 3) := (congrArg Prod.fst (am_z e22)).trans e16t
  clear e16t
  have e22s : gm_sl h h21 21 := gm_sl.s e16s (am_z e22)
  have l26 : ∀ q, q < a → h21.1 q = h.1 q := fun q hq => (am_ne e22 q (by omega)).trans (l20 q hq)
  refine q_blk (lv2 := [(0, vr a), (1, vr b)]) (st2 := [vr b, vr a]) kX5_init_24 rfl ?_
  refine q_pr eX5_init_26 fl_RX5_22 (fun q hq => by cases hq; exact Or.inr ⟨rfl, rfl, am_gw 271 (by decide +kernel) (by decide +kernel)⟩) (Or.inl ⟨_, rfl⟩) k23 (Nat.le_of_ble_eq_true rfl) (l2 := [some b, some (a + 1), some (a + 2), none]) rfl (fun h27 e28 => ?_)
  have k29 := am_at e28
  have k30 := (am_ne e28 (a + 1) (by omega)).trans k24
  have k31 := (am_ne e28 (a + 2) (by omega)).trans k25
  have e28t : h27.2.1 = (a + 3) := (congrArg Prod.fst (am_z e28)).trans e22t
  clear e22t
  have e28s : gm_sl h h27 21 := gm_sl.s e22s (am_z e28)
  have l32 : ∀ q, q < a → h27.1 q = h.1 q := fun q hq => (am_ne e28 q (by omega)).trans (l26 q hq)
  exact q_rv rfl eX5_init_29 ⟨rfl, ⟨am_Z, [], am_Z, k29, k30, k31, fun k v q => by simp at q, by decide⟩, Prod.ext e28t e28s, l32⟩

set_option maxHeartbeats 2000000 in
theorem c_X6_init {w : am_w} {h : AH} {a : Nat} (hc : h.1 a = some (5, 15, am_L (List.replicate 15 0), am_G (List.replicate 15 none))) (ht : h.2.1 = a + 3) {u b j : Nat}  : AE w m_X6_init 2 [vr a, vr u, vr b, vr j] h (am_unit (fun h1 => (h1.1 a = some (5, 15, am_L [0, 0, 0, 0, 0, 0, 0, 0, 0, 0, 0, 0, 0, 0, -1], am_G [some u, some b, some j, some (a + 3), some (a + 4), some (a + 5), some (a + 6), none, none, none, none, none, none, none, none]) ∧ h1.1 (a + 3) = some (100, 801, am_Z, am_N) ∧ h1.1 (a + 4) = some (100, 801, am_Z, am_N) ∧ h1.1 (a + 5) = some (100, 801, am_Z, am_N) ∧ h1.1 (a + 6) = some (100, 800, am_Z, am_N) ∧ h1.1 (a + 1) = h.1 (a + 1) ∧ h1.1 (a + 2) = h.1 (a + 2)) ∧ h1.2 = (a + 7, h.2.2 + 3203) ∧ ∀ q, q < a → h1.1 q = h.1 q)) := by
  refine AE.of wf_X6_init (Nat.le_of_ble_eq_true rfl) (am_ok_v) ?_
  refine q_blk (lv2 := [(0, vr a), (1, vr u), (2, vr b), (3, vr j)]) (st2 := [vr a]) kX6_init_0 rfl ?_
  refine AQ.of (AS.objInit eX6_init_1 (am_gw 216 (by decide +kernel) (by decide +kernel)) (am_gw 77 (by decide +kernel) (by decide +kernel)) (am_gw 78 (by decide +kernel) (by decide +kernel)) (by decide) (Nat.le_of_ble_eq_true rfl)) ?_
  refine q_blk (lv2 := [(0, vr a), (1, vr u), (2, vr b), (3, vr j)]) (st2 := [vi 801, vr a]) kX6_init_4 rfl ?_
  refine q_na (k := 100) 801 rfl ht eX6_init_8 (Or.inl ⟨rfl, rfl⟩) (am_gw 120 (by decide +kernel) (by decide +kernel)) (by decide) (by decide) (fun h1 e2c e2f e2z => ?_)
  have k3 := (e2f a (by omega)).trans hc
  have k4 := (e2f (a + 1) (by omega)).trans (rfl : h.1 (a + 1) = _)
  have k5 := (e2f (a + 2) (by omega)).trans (rfl : h.1 (a + 2) = _)
  have l6 : ∀ q, q < a → h1.1 q = h.1 q := fun q hq => (e2f q (by omega)).trans ((fun _ _ => rfl) q hq)
  have e2t : h1.2.1 = (a + 4) := by rw [e2z]
  have e2s : gm_sl h h1 801 := gm_sl.a (n := 0) (b := 0) (gm_sl.z rfl) e2z rfl
  refine q_pr eX6_init_10 fl_RX6_9 (fun q hq => by cases hq; exact Or.inr ⟨rfl, rfl, am_gw 220 (by decide +kernel) (by decide +kernel)⟩) (Or.inr ⟨_, rfl⟩) k3 (Nat.le_of_ble_eq_true rfl) (l2 := [none, none, none, some (a + 3), none, none, none, none, none, none, none, none, none, none, none]) rfl (fun h7 e8 => ?_)
  have k9 := am_at e8
  have k10 := (am_ne e8 (a + 1) (by omega)).trans k4
  have k11 := (am_ne e8 (a + 2) (by omega)).trans k5
  have k12 := (am_ne e8 (a + 3) (by omega)).trans e2c
  have e8t : h7.2.1 = (a + 4) := (congrArg Prod.fst (am_z e8)).trans e2t
  clear e2t
  have e8s : gm_sl h h7 801 := gm_sl.s e2s (am_z e8)
  have l13 : ∀ q, q < a → h7.1 q = h.1 q := fun q hq => (am_ne e8 q (by omega)).trans (l6 q hq)
  refine q_blk (lv2 := [(0, vr a), (1, vr u), (2, vr b), (3, vr j)]) (st2 := [vi 801, vr a]) kX6_init_13 rfl ?_
  refine q_na (k := 100) 801 rfl e8t eX6_init_17 (Or.inl ⟨rfl, rfl⟩) (am_gw 120 (by decide +kernel) (by decide +kernel)) (by decide) (by decide) (fun h14 e15c e15f e15z => ?_)
  have k16 := (e15f a (by omega)).trans k9
  have k17 := (e15f (a + 1) (by omega)).trans k10
  have k18 := (e15f (a + 2) (by omega)).trans k11
  have k19 := (e15f (a + 3) (by omega)).trans k12
  have l20 : ∀ q, q < a → h14.1 q = h.1 q := fun q hq => (e15f q (by omega)).trans (l13 q hq)
  have e15t : h14.2.1 = (a + 5) := by rw [e15z]
  have e15s : gm_sl h h14 1602 := gm_sl.a (n := 801) (b := 0) e8s e15z rfl
  clear e8t
  refine q_pr eX6_init_19 fl_RX6_15 (fun q hq => by cases hq; exact Or.inr ⟨rfl, rfl, am_gw 221 (by decide +kernel) (by decide +kernel)⟩) (Or.inr ⟨_, rfl⟩) k16 (Nat.le_of_ble_eq_true rfl) (l2 := [none, none, none, some (a + 3), some (a + 4), none, none, none, none, none, none, none, none, none, none]) rfl (fun h21 e22 => ?_)
  have k23 := am_at e22
  have k24 := (am_ne e22 (a + 1) (by omega)).trans k17
  have k25 := (am_ne e22 (a + 2) (by omega)).trans k18
  have k26 := (am_ne e22 (a + 3) (by omega)).trans k19
  have k27 := (am_ne e22 (a + 4) (by omega)).trans e15c
  have e22t : h21.2.1 = (a + 5) := (congrArg Prod.fst (am_z e22)).trans e15t
  clear e15t
  have e22s : gm_sl h h21 1602 := gm_sl.s e15s (am_z e22)
  have l28 : ∀ q, q < a → h21.1 q = h.1 q := fun q hq => (am_ne e22 q (by omega)).trans (l20 q hq)
  refine q_blk (lv2 := [(0, vr a), (1, vr u), (2, vr b), (3, vr j)]) (st2 := [vi 801, vr a]) kX6_init_22 rfl ?_
  refine q_na (k := 100) 801 rfl e22t eX6_init_26 (Or.inl ⟨rfl, rfl⟩) (am_gw 120 (by decide +kernel) (by decide +kernel)) (by decide) (by decide) (fun h29 e30c e30f e30z => ?_)
  have k31 := (e30f a (by omega)).trans k23
  have k32 := (e30f (a + 1) (by omega)).trans k24
  have k33 := (e30f (a + 2) (by omega)).trans k25
  have k34 := (e30f (a + 3) (by omega)).trans k26
  have k35 := (e30f (a + 4) (by omega)).trans k27
  have l36 : ∀ q, q < a → h29.1 q = h.1 q := fun q hq => (e30f q (by omega)).trans (l28 q hq)
  have e30t : h29.2.1 = (a + 6) := by rw [e30z]
  have e30s : gm_sl h h29 2403 := gm_sl.a (n := 1602) (b := 0) e22s e30z rfl
  clear e22t
  refine q_pr eX6_init_28 fl_RX6_18 (fun q hq => by cases hq; exact Or.inr ⟨rfl, rfl, am_gw 222 (by decide +kernel) (by decide +kernel)⟩) (Or.inr ⟨_, rfl⟩) k31 (Nat.le_of_ble_eq_true rfl) (l2 := [none, none, none, some (a + 3), some (a + 4), some (a + 5), none, none, none, none, none, none, none, none, none]) rfl (fun h37 e38 => ?_)
  have k39 := am_at e38
  have k40 := (am_ne e38 (a + 1) (by omega)).trans k32
  have k41 := (am_ne e38 (a + 2) (by omega)).trans k33
  have k42 := (am_ne e38 (a + 3) (by omega)).trans k34
  have k43 := (am_ne e38 (a + 4) (by omega)).trans k35
  have k44 := (am_ne e38 (a + 5) (by omega)).trans e30c
  have e38t : h37.2.1 = (a + 6) := (congrArg Prod.fst (am_z e38)).trans e30t
  clear e30t
  have e38s : gm_sl h h37 2403 := gm_sl.s e30s (am_z e38)
  have l45 : ∀ q, q < a → h37.1 q = h.1 q := fun q hq => (am_ne e38 q (by omega)).trans (l36 q hq)
  refine q_blk (lv2 := [(0, vr a), (1, vr u), (2, vr b), (3, vr j)]) (st2 := [vi 800, vr a]) kX6_init_31 rfl ?_
  refine q_na (k := 100) 800 rfl e38t eX6_init_35 (Or.inl ⟨rfl, rfl⟩) (am_gw 120 (by decide +kernel) (by decide +kernel)) (by decide) (by decide) (fun h46 e47c e47f e47z => ?_)
  have k48 := (e47f a (by omega)).trans k39
  have k49 := (e47f (a + 1) (by omega)).trans k40
  have k50 := (e47f (a + 2) (by omega)).trans k41
  have k51 := (e47f (a + 3) (by omega)).trans k42
  have k52 := (e47f (a + 4) (by omega)).trans k43
  have k53 := (e47f (a + 5) (by omega)).trans k44
  have l54 : ∀ q, q < a → h46.1 q = h.1 q := fun q hq => (e47f q (by omega)).trans (l45 q hq)
  have e47t : h46.2.1 = (a + 7) := by rw [e47z]
  have e47s : gm_sl h h46 3203 := gm_sl.a (n := 2403) (b := 0) e38s e47z rfl
  clear e38t
  refine q_pr eX6_init_37 fl_RX6_21 (fun q hq => by cases hq; exact Or.inr ⟨rfl, rfl, am_gw 223 (by decide +kernel) (by decide +kernel)⟩) (Or.inr ⟨_, rfl⟩) k48 (Nat.le_of_ble_eq_true rfl) (l2 := [none, none, none, some (a + 3), some (a + 4), some (a + 5), some (a + 6), none, none, none, none, none, none, none, none]) rfl (fun h55 e56 => ?_)
  have k57 := am_at e56
  have k58 := (am_ne e56 (a + 1) (by omega)).trans k49
  have k59 := (am_ne e56 (a + 2) (by omega)).trans k50
  have k60 := (am_ne e56 (a + 3) (by omega)).trans k51
  have k61 := (am_ne e56 (a + 4) (by omega)).trans k52
  have k62 := (am_ne e56 (a + 5) (by omega)).trans k53
  have k63 := (am_ne e56 (a + 6) (by omega)).trans e47c
  have e56t : h55.2.1 = (a + 7) := (congrArg Prod.fst (am_z e56)).trans e47t
  clear e47t
  have e56s : gm_sl h h55 3203 := gm_sl.s e47s (am_z e56)
  have l64 : ∀ q, q < a → h55.1 q = h.1 q := fun q hq => (am_ne e56 q (by omega)).trans (l54 q hq)
  refine q_blk (lv2 := [(0, vr a), (1, vr u), (2, vr b), (3, vr j)]) (st2 := [vi 0, vr a]) kX6_init_40 rfl ?_
  refine q_pi eX6_init_42 fl_RX6_24 (fun q hq => by cases hq; exact Or.inl rfl) (Or.inl rfl) k57 (Nat.le_of_ble_eq_true rfl) (l2 := [0, 0, 0, 0, 0, 0, 0, 0, 0, 0, 0, 0, 0, 0, 0]) rfl (fun h65 e66 => ?_)
  have k67 := am_at e66
  have k68 := (am_ne e66 (a + 1) (by omega)).trans k58
  have k69 := (am_ne e66 (a + 2) (by omega)).trans k59
  have k70 := (am_ne e66 (a + 3) (by omega)).trans k60
  have k71 := (am_ne e66 (a + 4) (by omega)).trans k61
  have k72 := (am_ne e66 (a + 5) (by omega)).trans k62
  have k73 := (am_ne e66 (a + 6) (by omega)).trans k63
  have e66t : h65.2.1 = (a + 7) := (congrArg Prod.fst (am_z e66)).trans e56t
  clear e56t
  have e66s : gm_sl h h65 3203 := gm_sl.s e56s (am_z e66)
  have l74 : ∀ q, q < a → h65.1 q = h.1 q := fun q hq => (am_ne e66 q (by omega)).trans (l64 q hq)
  refine q_blk (lv2 := [(0, vr a), (1, vr u), (2, vr b), (3, vr j)]) (st2 := [vi 0, vr a]) kX6_init_45 rfl ?_
  refine q_pi eX6_init_47 fl_RX6_28 (fun q hq => by cases hq; exact Or.inl rfl) (Or.inl rfl) k67 (Nat.le_of_ble_eq_true rfl) (l2 := [0, 0, 0, 0, 0, 0, 0, 0, 0, 0, 0, 0, 0, 0, 0]) rfl (fun h75 e76 => ?_)
  have k77 := am_at e76
  have k78 := (am_ne e76 (a + 1) (by omega)).trans k68
  have k79 := (am_ne e76 (a + 2) (by omega)).trans k69
  have k80 := (am_ne e76 (a + 3) (by omega)).trans k70
  have k81 := (am_ne e76 (a + 4) (by omega)).trans k71
  have k82 := (am_ne e76 (a + 5) (by omega)).trans k72
  have k83 := (am_ne e76 (a + 6) (by omega)).trans k73
  have e76t : h75.2.1 = (a + 7) := (congrArg Prod.fst (am_z e76)).trans e66t
  clear e66t
  have e76s : gm_sl h h75 3203 := gm_sl.s e66s (am_z e76)
  have l84 : ∀ q, q < a → h75.1 q = h.1 q := fun q hq => (am_ne e76 q (by omega)).trans (l74 q hq)
  refine q_blk (lv2 := [(0, vr a), (1, vr u), (2, vr b), (3, vr j)]) (st2 := [vi 0, vr a]) kX6_init_50 rfl ?_
  refine q_pi eX6_init_52 fl_RX6_31 (fun q hq => by cases hq; exact Or.inl rfl) (Or.inl rfl) k77 (Nat.le_of_ble_eq_true rfl) (l2 := [0, 0, 0, 0, 0, 0, 0, 0, 0, 0, 0, 0, 0, 0, 0]) rfl (fun h85 e86 => ?_)
  have k87 := am_at e86
  have k88 := (am_ne e86 (a + 1) (by omega)).trans k78
  have k89 := (am_ne e86 (a + 2) (by omega)).trans k79
  have k90 := (am_ne e86 (a + 3) (by omega)).trans k80
  have k91 := (am_ne e86 (a + 4) (by omega)).trans k81
  have k92 := (am_ne e86 (a + 5) (by omega)).trans k82
  have k93 := (am_ne e86 (a + 6) (by omega)).trans k83
  have e86t : h85.2.1 = (a + 7) := (congrArg Prod.fst (am_z e86)).trans e76t
  clear e76t
  have e86s : gm_sl h h85 3203 := gm_sl.s e76s (am_z e86)
  have l94 : ∀ q, q < a → h85.1 q = h.1 q := fun q hq => (am_ne e86 q (by omega)).trans (l84 q hq)
  refine q_blk (lv2 := [(0, vr a), (1, vr u), (2, vr b), (3, vr j)]) (st2 := [vi 0, vr a]) kX6_init_55 rfl ?_
  refine q_pi eX6_init_57 fl_RX6_34 (fun q hq => by cases hq; exact Or.inl rfl) (Or.inl rfl) k87 (Nat.le_of_ble_eq_true rfl) (l2 := [0, 0, 0, 0, 0, 0, 0, 0, 0, 0, 0, 0, 0, 0, 0]) rfl (fun h95 e96 => ?_)
  have k97 := am_at e96
  have k98 := (am_ne e96 (a + 1) (by omega)).trans k88
  have k99 := (am_ne e96 (a + 2) (by omega)).trans k89
  have k100 := (am_ne e96 (a + 3) (by omega)).trans k90
  have k101 := (am_ne e96 (a + 4) (by omega)).trans k91
  have k102 := (am_ne e96 (a + 5) (by omega)).trans k92
  have k103 := (am_ne e96 (a + 6) (by omega)).trans k93
  have e96t : h95.2.1 = (a + 7) := (congrArg Prod.fst (am_z e96)).trans e86t
  clear e86t
  have e96s : gm_sl h h95 3203 := gm_sl.s e86s (am_z e96)
  have l104 : ∀ q, q < a → h95.1 q = h.1 q := fun q hq => (am_ne e96 q (by omega)).trans (l94 q hq)
  refine q_blk (lv2 := [(0, vr a), (1, vr u), (2, vr b), (3, vr j)]) (st2 := [vi 0, vr a]) kX6_init_60 rfl ?_
  refine q_pi eX6_init_62 fl_RX6_37 (fun q hq => by cases hq; exact Or.inl rfl) (Or.inl rfl) k97 (Nat.le_of_ble_eq_true rfl) (l2 := [0, 0, 0, 0, 0, 0, 0, 0, 0, 0, 0, 0, 0, 0, 0]) rfl (fun h105 e106 => ?_)
  have k107 := am_at e106
  have k108 := (am_ne e106 (a + 1) (by omega)).trans k98
  have k109 := (am_ne e106 (a + 2) (by omega)).trans k99
  have k110 := (am_ne e106 (a + 3) (by omega)).trans k100
  have k111 := (am_ne e106 (a + 4) (by omega)).trans k101
  have k112 := (am_ne e106 (a + 5) (by omega)).trans k102
  have k113 := (am_ne e106 (a + 6) (by omega)).trans k103
  have e106t : h105.2.1 = (a + 7) := (congrArg Prod.fst (am_z e106)).trans e96t
  clear e96t
  have e106s : gm_sl h h105 3203 := gm_sl.s e96s (am_z e106)
  have l114 : ∀ q, q < a → h105.1 q = h.1 q := fun q hq => (am_ne e106 q (by omega)).trans (l104 q hq)
  refine q_blk (lv2 := [(0, vr a), (1, vr u), (2, vr b), (3, vr j)]) (st2 := [vi 0, vr a]) kX6_init_65 rfl ?_
  refine q_pi eX6_init_67 fl_RX6_40 (fun q hq => by cases hq; exact Or.inl rfl) (Or.inr ⟨rfl, by first | decide | omega⟩) k107 (Nat.le_of_ble_eq_true rfl) (l2 := [0, 0, 0, 0, 0, 0, 0, 0, 0, 0, 0, 0, 0, 0, 0]) rfl (fun h115 e116 => ?_)
  have k117 := am_at e116
  have k118 := (am_ne e116 (a + 1) (by omega)).trans k108
  have k119 := (am_ne e116 (a + 2) (by omega)).trans k109
  have k120 := (am_ne e116 (a + 3) (by omega)).trans k110
  have k121 := (am_ne e116 (a + 4) (by omega)).trans k111
  have k122 := (am_ne e116 (a + 5) (by omega)).trans k112
  have k123 := (am_ne e116 (a + 6) (by omega)).trans k113
  have e116t : h115.2.1 = (a + 7) := (congrArg Prod.fst (am_z e116)).trans e106t
  clear e106t
  have e116s : gm_sl h h115 3203 := gm_sl.s e106s (am_z e116)
  have l124 : ∀ q, q < a → h115.1 q = h.1 q := fun q hq => (am_ne e116 q (by omega)).trans (l114 q hq)
  refine q_blk (lv2 := [(0, vr a), (1, vr u), (2, vr b), (3, vr j)]) (st2 := [vi 0, vr a]) kX6_init_70 rfl ?_
  refine q_pi eX6_init_72 fl_RX6_44 (fun q hq => by cases hq; exact Or.inl rfl) (Or.inl rfl) k117 (Nat.le_of_ble_eq_true rfl) (l2 := [0, 0, 0, 0, 0, 0, 0, 0, 0, 0, 0, 0, 0, 0, 0]) rfl (fun h125 e126 => ?_)
  have k127 := am_at e126
  have k128 := (am_ne e126 (a + 1) (by omega)).trans k118
  have k129 := (am_ne e126 (a + 2) (by omega)).trans k119
  have k130 := (am_ne e126 (a + 3) (by omega)).trans k120
  have k131 := (am_ne e126 (a + 4) (by omega)).trans k121
  have k132 := (am_ne e126 (a + 5) (by omega)).trans k122
  have k133 := (am_ne e126 (a + 6) (by omega)).trans k123
  have e126t : h125.2.1 = (a + 7) := (congrArg Prod.fst (am_z e126)).trans e116t
  clear e116t
  have e126s : gm_sl h h125 3203 := gm_sl.s e116s (am_z e126)
  have l134 : ∀ q, q < a → h125.1 q = h.1 q := fun q hq => (am_ne e126 q (by omega)).trans (l124 q hq)
  refine q_blk (lv2 := [(0, vr a), (1, vr u), (2, vr b), (3, vr j)]) (st2 := [vi (-1), vr a]) kX6_init_75 rfl ?_
  refine q_pi eX6_init_77 fl_RX6_47 (fun q hq => by cases hq; exact Or.inl rfl) (Or.inl rfl) k127 (Nat.le_of_ble_eq_true rfl) (l2 := [0, 0, 0, 0, 0, 0, 0, 0, 0, 0, 0, 0, 0, 0, (-1)]) rfl (fun h135 e136 => ?_)
  have k137 := am_at e136
  have k138 := (am_ne e136 (a + 1) (by omega)).trans k128
  have k139 := (am_ne e136 (a + 2) (by omega)).trans k129
  have k140 := (am_ne e136 (a + 3) (by omega)).trans k130
  have k141 := (am_ne e136 (a + 4) (by omega)).trans k131
  have k142 := (am_ne e136 (a + 5) (by omega)).trans k132
  have k143 := (am_ne e136 (a + 6) (by omega)).trans k133
  have e136t : h135.2.1 = (a + 7) := (congrArg Prod.fst (am_z e136)).trans e126t
  clear e126t
  have e136s : gm_sl h h135 3203 := gm_sl.s e126s (am_z e136)
  have l144 : ∀ q, q < a → h135.1 q = h.1 q := fun q hq => (am_ne e136 q (by omega)).trans (l134 q hq)
  refine q_blk (lv2 := [(0, vr a), (1, vr u), (2, vr b), (3, vr j)]) (st2 := [vr u, vr a]) kX6_init_80 rfl ?_
  refine q_pr eX6_init_82 fl_RX6_50 (fun q hq => by cases hq; exact Or.inr ⟨rfl, rfl, am_gw 217 (by decide +kernel) (by decide +kernel)⟩) (Or.inr ⟨_, rfl⟩) k137 (Nat.le_of_ble_eq_true rfl) (l2 := [some u, none, none, some (a + 3), some (a + 4), some (a + 5), some (a + 6), none, none, none, none, none, none, none, none]) rfl (fun h145 e146 => ?_)
  have k147 := am_at e146
  have k148 := (am_ne e146 (a + 1) (by omega)).trans k138
  have k149 := (am_ne e146 (a + 2) (by omega)).trans k139
  have k150 := (am_ne e146 (a + 3) (by omega)).trans k140
  have k151 := (am_ne e146 (a + 4) (by omega)).trans k141
  have k152 := (am_ne e146 (a + 5) (by omega)).trans k142
  have k153 := (am_ne e146 (a + 6) (by omega)).trans k143
  have e146t : h145.2.1 = (a + 7) := (congrArg Prod.fst (am_z e146)).trans e136t
  clear e136t
  have e146s : gm_sl h h145 3203 := gm_sl.s e136s (am_z e146)
  have l154 : ∀ q, q < a → h145.1 q = h.1 q := fun q hq => (am_ne e146 q (by omega)).trans (l144 q hq)
  refine q_blk (lv2 := [(0, vr a), (1, vr u), (2, vr b), (3, vr j)]) (st2 := [vr b, vr a]) kX6_init_85 rfl ?_
  refine q_pr eX6_init_87 fl_RX6_54 (fun q hq => by cases hq; exact Or.inr ⟨rfl, rfl, am_gw 218 (by decide +kernel) (by decide +kernel)⟩) (Or.inl ⟨_, rfl⟩) k147 (Nat.le_of_ble_eq_true rfl) (l2 := [some u, some b, none, some (a + 3), some (a + 4), some (a + 5), some (a + 6), none, none, none, none, none, none, none, none]) rfl (fun h155 e156 => ?_)
  have k157 := am_at e156
  have k158 := (am_ne e156 (a + 1) (by omega)).trans k148
  have k159 := (am_ne e156 (a + 2) (by omega)).trans k149
  have k160 := (am_ne e156 (a + 3) (by omega)).trans k150
  have k161 := (am_ne e156 (a + 4) (by omega)).trans k151
  have k162 := (am_ne e156 (a + 5) (by omega)).trans k152
  have k163 := (am_ne e156 (a + 6) (by omega)).trans k153
  have e156t : h155.2.1 = (a + 7) := (congrArg Prod.fst (am_z e156)).trans e146t
  clear e146t
  have e156s : gm_sl h h155 3203 := gm_sl.s e146s (am_z e156)
  have l164 : ∀ q, q < a → h155.1 q = h.1 q := fun q hq => (am_ne e156 q (by omega)).trans (l154 q hq)
  refine q_blk (lv2 := [(0, vr a), (1, vr u), (2, vr b), (3, vr j)]) (st2 := [vr j, vr a]) kX6_init_90 rfl ?_
  refine q_pr eX6_init_92 fl_RX6_58 (fun q hq => by cases hq; exact Or.inr ⟨rfl, rfl, am_gw 219 (by decide +kernel) (by decide +kernel)⟩) (Or.inl ⟨_, rfl⟩) k157 (Nat.le_of_ble_eq_true rfl) (l2 := [some u, some b, some j, some (a + 3), some (a + 4), some (a + 5), some (a + 6), none, none, none, none, none, none, none, none]) rfl (fun h165 e166 => ?_)
  have k167 := am_at e166
  have k168 := (am_ne e166 (a + 1) (by omega)).trans k158
  have k169 := (am_ne e166 (a + 2) (by omega)).trans k159
  have k170 := (am_ne e166 (a + 3) (by omega)).trans k160
  have k171 := (am_ne e166 (a + 4) (by omega)).trans k161
  have k172 := (am_ne e166 (a + 5) (by omega)).trans k162
  have k173 := (am_ne e166 (a + 6) (by omega)).trans k163
  have e166t : h165.2.1 = (a + 7) := (congrArg Prod.fst (am_z e166)).trans e156t
  clear e156t
  have e166s : gm_sl h h165 3203 := gm_sl.s e156s (am_z e166)
  have l174 : ∀ q, q < a → h165.1 q = h.1 q := fun q hq => (am_ne e166 q (by omega)).trans (l164 q hq)
  exact q_rv rfl eX6_init_95 ⟨rfl, ⟨k167, k170, k171, k172, k173, k168, k169⟩, Prod.ext e166t e166s, l174⟩
