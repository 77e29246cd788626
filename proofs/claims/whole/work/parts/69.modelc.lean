/-! CornerClaimsModel: its constructor. -/
theorem am_grid_at {h : AH} {N M : Nat} : (am_grid h N M).1 h.2.1 = some (105, (N : Int), am_Z, fun i : Int => if 0 ≤ i ∧ i < (N : Int) then some (h.2.1 + 1 + i.toNat) else none) := if_pos rfl
theorem am_grid_row {h : AH} {N M : Nat} {i : Int} (i0 : 0 ≤ i) (i1 : i < N) : (am_grid h N M).1 (h.2.1 + 1 + i.toNat) = some (100, (M : Int), am_Z, am_N) := (if_neg (by omega)).trans (if_pos ⟨by omega, by omega⟩)
theorem am_grid_ne {h : AH} {N M z : Nat} (hz : ¬ (h.2.1 ≤ z ∧ z < h.2.1 + 1 + N)) : (am_grid h N M).1 z = h.1 z := (if_neg (by omega)).trans (if_neg (by omega))
section CTN
variable {w : am_w} {y : YR} {d pc : Nat} {lv : List (Nat × AV)} {st : List AV} {h : AH} {Q : RV → AH → Prop}
theorem q_nm {idx n0 : Nat} (ha : h.2.1 = n0) (hd : decode y.2.1 pc = .ok (.multianewarray idx 2, 4)) (hw1 : Cond.classLink y.1.cls idx ("[" ++ (FieldType.array .int).toString) ∈ GW) (hw2 : Cond.arrayClass .int ∈ GW)
    (kk : ∀ h2 : AH, h2.1 n0 = some (105, 8, am_Z, fun i => if 0 ≤ i ∧ i < 8 then some (n0 + 1 + i.toNat) else none) → (∀ i : Int, 0 ≤ i → i < 8 → h2.1 (n0 + 1 + i.toNat) = some (100, 1528, am_Z, am_N)) → (∀ z, ¬ (n0 ≤ z ∧ z < n0 + 9) → h2.1 z = h.1 z) → h2.2 = (n0 + 9, h.2.2 + 12232) → AQ w y d (pc + 4) lv (vr n0 :: st) h2 Q) : AQ w y d pc lv (vi 1528 :: vi 8 :: st) h Q := by
  subst ha
  exact AQ.of (AS.newM (N := 8) (M := 1528) hd hw1 hw2 (by decide) (by decide)) (kk _ am_grid_at (fun i i0 i1 => am_grid_row i0 i1) (fun z hz => am_grid_ne (by omega)) rfl)
end CTN

set_option maxHeartbeats 8000000 in
theorem c_X9_init {w : am_w} {h : AH} {n : Nat} (hc : h.1 n = some (8, 20, am_L (List.replicate 20 0), am_G (List.replicate 20 none))) (ht : h.2.1 = n + 1)  : AE w m_X9_init 2 [vr n] h (am_unit (fun h1 => MA h1 n 0 0 (-1) 0 am_Z (fun _ => am_Z) (am_uI (am_uI am_Z 0 2) 1 2) ∧ h1.2 = (n + 14, h.2.2 + 17388) ∧ ∀ q, q < n → h1.1 q = h.1 q)) := by
  refine AE.of wf_X9_init (Nat.le_of_ble_eq_true rfl) (am_ok_v) ?_
  refine q_blk (lv2 := [(0, vr n)]) (st2 := [vr n]) kX9_init_0 rfl ?_
  refine AQ.of (AS.objInit eX9_init_1 (am_gw 1181 (by decide +kernel) (by decide +kernel)) (am_gw 119 (by decide +kernel) (by decide +kernel)) (am_gw 120 (by decide +kernel) (by decide +kernel)) (by decide) (Nat.le_of_ble_eq_true rfl)) ?_
  refine q_blk (lv2 := [(0, vr n)]) (st2 := [vi 800, vr n]) kX9_init_4 rfl ?_
  refine q_na (k := 100) 800 rfl ht eX9_init_8 (Or.inl ⟨rfl, rfl⟩) (am_gw 162 (by decide +kernel) (by decide +kernel)) (by decide) (by decide) (fun h1 e2c e2f e2z => ?_)
  have k3 := (e2f n (by omega)).trans hc
  have l4 : ∀ q, q < n → h1.1 q = h.1 q := fun q hq => (e2f q (by omega)).trans ((fun _ _ => rfl) q hq)
  have e2t : h1.2.1 = (n + 2) := by rw [e2z]
  have e2s : gm_sl h h1 800 := gm_sl.a (n := 0) (b := 0) (gm_sl.z rfl) e2z rfl
  refine q_pr eX9_init_10 fl_RX9_9 (fun q hq => by cases hq; exact Or.inr ⟨rfl, rfl, am_gw 1185 (by decide +kernel) (by decide +kernel)⟩) (Or.inr ⟨_, rfl⟩) k3 (Nat.le_of_ble_eq_true rfl) (l2 := [none, some (n + 1), none, none, none, none, none, none, none, none, none, none, none, none, none, none, none, none, none, none]) rfl (fun h5 e6 => ?_)
  have k7 := am_at e6
  have k8 := (am_ne e6 (n + 1) (by omega)).trans e2c
  have e6t : h5.2.1 = (n + 2) := (congrArg Prod.fst (am_z e6)).trans e2t
  clear e2t
  have e6s : gm_sl h h5 800 := gm_sl.s e2s (am_z e6)
  have l9 : ∀ q, q < n → h5.1 q = h.1 q := fun q hq => (am_ne e6 q (by omega)).trans (l4 q hq)
  refine q_blk (lv2 := [(0, vr n)]) (st2 := [vi (-1), vr n]) kX9_init_13 rfl ?_
  refine q_pi eX9_init_15 fl_RX9_13 (fun q hq => by cases hq; exact Or.inl rfl) (Or.inl rfl) k7 (Nat.le_of_ble_eq_true rfl) (l2 := [0, 0, 0, 0, 0, 0, 0, (-1), 0, 0, 0, 0, 0, 0, 0, 0, 0, 0, 0, 0]) rfl (fun h10 e11 => ?_)
  have k12 := am_at e11
  have k13 := (am_ne e11 (n + 1) (by omega)).trans k8
  have e11t : h10.2.1 = (n + 2) := (congrArg Prod.fst (am_z e11)).trans e6t
  clear e6t
  have e11s : gm_sl h h10 800 := gm_sl.s e6s (am_z e11)
  have l14 : ∀ q, q < n → h10.1 q = h.1 q := fun q hq => (am_ne e11 q (by omega)).trans (l9 q hq)
  refine q_blk (lv2 := [(0, vr n)]) (st2 := [vi 1528, vr n]) kX9_init_18 rfl ?_
  refine q_na (k := 100) 1528 rfl e11t eX9_init_22 (Or.inl ⟨rfl, rfl⟩) (am_gw 162 (by decide +kernel) (by decide +kernel)) (by decide) (by decide) (fun h15 e16c e16f e16z => ?_)
  have k17 := (e16f n (by omega)).trans k12
  have k18 := (e16f (n + 1) (by omega)).trans k13
  have l19 : ∀ q, q < n → h15.1 q = h.1 q := fun q hq => (e16f q (by omega)).trans (l14 q hq)
  have e16t : h15.2.1 = (n + 3) := by rw [e16z]
  have e16s : gm_sl h h15 2328 := gm_sl.a (n := 800) (b := 0) e11s e16z rfl
  clear e11t
  refine q_pr eX9_init_24 fl_RX9_17 (fun q hq => by cases hq; exact Or.inr ⟨rfl, rfl, am_gw 1192 (by decide +kernel) (by decide +kernel)⟩) (Or.inr ⟨_, rfl⟩) k17 (Nat.le_of_ble_eq_true rfl) (l2 := [none, some (n + 1), none, none, none, none, none, none, some (n + 2), none, none, none, none, none, none, none, none, none, none, none]) rfl (fun h20 e21 => ?_)
  have k22 := am_at e21
  have k23 := (am_ne e21 (n + 1) (by omega)).trans k18
  have k24 := (am_ne e21 (n + 2) (by omega)).trans e16c
  have e21t : h20.2.1 = (n + 3) := (congrArg Prod.fst (am_z e21)).trans e16t
  clear e16t
  have e21s : gm_sl h h20 2328 := gm_sl.s e16s (am_z e21)
  have l25 : ∀ q, q < n → h20.1 q = h.1 q := fun q hq => (am_ne e21 q (by omega)).trans (l19 q hq)
  refine q_blk (lv2 := [(0, vr n)]) (st2 := [vi 1528, vr n]) kX9_init_27 rfl ?_
  refine q_na (k := 100) 1528 rfl e21t eX9_init_31 (Or.inl ⟨rfl, rfl⟩) (am_gw 162 (by decide +kernel) (by decide +kernel)) (by decide) (by decide) (fun h26 e27c e27f e27z => ?_)
  have k28 := (e27f n (by omega)).trans k22
  have k29 := (e27f (n + 1) (by omega)).trans k23
  have k30 := (e27f (n + 2) (by omega)).trans k24
  have l31 : ∀ q, q < n → h26.1 q = h.1 q := fun q hq => (e27f q (by omega)).trans (l25 q hq)
  have e27t : h26.2.1 = (n + 4) := by rw [e27z]
  have e27s : gm_sl h h26 3856 := gm_sl.a (n := 2328) (b := 0) e21s e27z rfl
  clear e21t
  refine q_pr eX9_init_33 fl_RX9_20 (fun q hq => by cases hq; exact Or.inr ⟨rfl, rfl, am_gw 1193 (by decide +kernel) (by decide +kernel)⟩) (Or.inr ⟨_, rfl⟩) k28 (Nat.le_of_ble_eq_true rfl) (l2 := [none, some (n + 1), none, none, none, none, none, none, some (n + 2), some (n + 3), none, none, none, none, none, none, none, none, none, none]) rfl (fun h32 e33 => ?_)
  have k34 := am_at e33
  have k35 := (am_ne e33 (n + 1) (by omega)).trans k29
  have k36 := (am_ne e33 (n + 2) (by omega)).trans k30
  have k37 := (am_ne e33 (n + 3) (by omega)).trans e27c
  have e33t : h32.2.1 = (n + 4) := (congrArg Prod.fst (am_z e33)).trans e27t
  clear e27t
  have e33s : gm_sl h h32 3856 := gm_sl.s e27s (am_z e33)
  have l38 : ∀ q, q < n → h32.1 q = h.1 q := fun q hq => (am_ne e33 q (by omega)).trans (l31 q hq)
  refine q_blk (lv2 := [(0, vr n)]) (st2 := [vi 1528, vi 8, vr n]) kX9_init_36 rfl ?_
  refine q_nm e33t eX9_init_42 (am_gw 1182 (by decide +kernel) (by decide +kernel)) (am_gw 162 (by decide +kernel) (by decide +kernel)) (fun h39 e40c e40r e40f e40z => ?_)
  have k41 := (e40f n (by omega)).trans k34
  have k42 := (e40f (n + 1) (by omega)).trans k35
  have k43 := (e40f (n + 2) (by omega)).trans k36
  have k44 := (e40f (n + 3) (by omega)).trans k37
  have l45 : ∀ q, q < n → h39.1 q = h.1 q := fun q hq => (e40f q (by omega)).trans (l38 q hq)
  have e40t : h39.2.1 = (n + 13) := by rw [e40z]
  have e40s : gm_sl h h39 16088 := gm_sl.a (n := 3856) (b := 0) e33s e40z rfl
  refine q_pr eX9_init_46 fl_RX9_25 (fun q hq => by cases hq; exact Or.inr ⟨rfl, rfl, am_gw 1194 (by decide +kernel) (by decide +kernel)⟩) (Or.inr ⟨_, rfl⟩) k41 (Nat.le_of_ble_eq_true rfl) (l2 := [none, some (n + 1), none, none, none, none, none, none, some (n + 2), some (n + 3), some (n + 4), none, none, none, none, none, none, none, none, none]) rfl (fun h46 e47 => ?_)
  have k48 := am_at e47
  have k49 := (am_ne e47 (n + 1) (by omega)).trans k42
  have k50 := (am_ne e47 (n + 2) (by omega)).trans k43
  have k51 := (am_ne e47 (n + 3) (by omega)).trans k44
  have k52 := (am_ne e47 (n + 4) (by omega)).trans e40c
  have e47t : h46.2.1 = (n + 13) := (congrArg Prod.fst (am_z e47)).trans e40t
  clear e40t
  have e47s : gm_sl h h46 16088 := gm_sl.s e40s (am_z e47)
  have l53 : ∀ q, q < n → h46.1 q = h.1 q := fun q hq => (am_ne e47 q (by omega)).trans (l45 q hq)
  have r54 : ∀ q, (n + 5) ≤ q → q < (n + 13) → h46.1 q = h39.1 q := fun q q0 q1 => (am_ne e47 q (by omega)).trans ((fun _ _ _ => rfl) q q0 q1)
  refine q_blk (lv2 := [(0, vr n)]) (st2 := [vi 1300, vr n]) kX9_init_49 rfl ?_
  refine q_na (k := 102) 1300 rfl e47t eX9_init_53 (Or.inr (Or.inr ⟨rfl, rfl⟩)) (am_gw 1245 (by decide +kernel) (by decide +kernel)) (by decide) (by decide) (fun h55 e56c e56f e56z => ?_)
  have k57 := (e56f n (by omega)).trans k48
  have k58 := (e56f (n + 1) (by omega)).trans k49
  have k59 := (e56f (n + 2) (by omega)).trans k50
  have k60 := (e56f (n + 3) (by omega)).trans k51
  have k61 := (e56f (n + 4) (by omega)).trans k52
  have l62 : ∀ q, q < n → h55.1 q = h.1 q := fun q hq => (e56f q (by omega)).trans (l53 q hq)
  have e56t : h55.2.1 = (n + 14) := by rw [e56z]
  have e56s : gm_sl h h55 17388 := gm_sl.a (n := 16088) (b := 0) e47s e56z rfl
  clear e47t
  have r63 : ∀ q, (n + 5) ≤ q → q < (n + 13) → h55.1 q = h39.1 q := fun q q0 q1 => (e56f q (by omega)).trans (r54 q q0 q1)
  refine q_pr eX9_init_55 fl_RX9_28 (fun q hq => by cases hq; exact Or.inr ⟨rfl, rfl, am_gw 1203 (by decide +kernel) (by decide +kernel)⟩) (Or.inr ⟨_, rfl⟩) k57 (Nat.le_of_ble_eq_true rfl) (l2 := [none, some (n + 1), none, none, none, none, none, none, some (n + 2), some (n + 3), some (n + 4), none, none, none, none, none, none, none, none, some (n + 13)]) rfl (fun h64 e65 => ?_)
  have k66 := am_at e65
  have k67 := (am_ne e65 (n + 1) (by omega)).trans k58
  have k68 := (am_ne e65 (n + 2) (by omega)).trans k59
  have k69 := (am_ne e65 (n + 3) (by omega)).trans k60
  have k70 := (am_ne e65 (n + 4) (by omega)).trans k61
  have k71 := (am_ne e65 (n + 13) (by omega)).trans e56c
  have e65t : h64.2.1 = (n + 14) := (congrArg Prod.fst (am_z e65)).trans e56t
  clear e56t
  have e65s : gm_sl h h64 17388 := gm_sl.s e56s (am_z e65)
  have l72 : ∀ q, q < n → h64.1 q = h.1 q := fun q hq => (am_ne e65 q (by omega)).trans (l62 q hq)
  have r73 : ∀ q, (n + 5) ≤ q → q < (n + 13) → h64.1 q = h39.1 q := fun q q0 q1 => (am_ne e65 q (by omega)).trans (r63 q q0 q1)
  refine q_blk (lv2 := [(0, vr n)]) (st2 := [vr n]) kX9_init_58 rfl ?_
  refine q_gr eX9_init_59 fl_RX9_17 (Or.inr ⟨_, rfl⟩) k66 rfl ?_
  refine q_blk (lv2 := [(0, vr n)]) (st2 := [vi 2, vi 0, vr (n + 2)]) kX9_init_62 rfl ?_
  refine q_is eX9_init_64 k68 (by omega) (by omega) (fun h74 e75 => ?_)
  have k76 := (am_ne e75 n (by omega)).trans k66
  have k77 := (am_ne e75 (n + 1) (by omega)).trans k67
  have k78 := am_at e75
  have k79 := (am_ne e75 (n + 3) (by omega)).trans k69
  have k80 := (am_ne e75 (n + 4) (by omega)).trans k70
  have k81 := (am_ne e75 (n + 13) (by omega)).trans k71
  have e75t : h74.2.1 = (n + 14) := (congrArg Prod.fst (am_z e75)).trans e65t
  clear e65t
  have e75s : gm_sl h h74 17388 := gm_sl.s e65s (am_z e75)
  have l82 : ∀ q, q < n → h74.1 q = h.1 q := fun q hq => (am_ne e75 q (by omega)).trans (l72 q hq)
  have r83 : ∀ q, (n + 5) ≤ q → q < (n + 13) → h74.1 q = h39.1 q := fun q q0 q1 => (am_ne e75 q (by omega)).trans (r73 q q0 q1)
  refine q_blk (lv2 := [(0, vr n)]) (st2 := [vr n]) kX9_init_65 rfl ?_
  refine q_gr eX9_init_66 fl_RX9_17 (Or.inr ⟨_, rfl⟩) k76 rfl ?_
  refine q_blk (lv2 := [(0, vr n)]) (st2 := [vi 2, vi 1, vr (n + 2)]) kX9_init_69 rfl ?_
  refine q_is eX9_init_71 k78 (by omega) (by omega) (fun h84 e85 => ?_)
  have k86 := (am_ne e85 n (by omega)).trans k76
  have k87 := (am_ne e85 (n + 1) (by omega)).trans k77
  have k88 := am_at e85
  have k89 := (am_ne e85 (n + 3) (by omega)).trans k79
  have k90 := (am_ne e85 (n + 4) (by omega)).trans k80
  have k91 := (am_ne e85 (n + 13) (by omega)).trans k81
  have e85t : h84.2.1 = (n + 14) := (congrArg Prod.fst (am_z e85)).trans e75t
  clear e75t
  have e85s : gm_sl h h84 17388 := gm_sl.s e75s (am_z e85)
  have l92 : ∀ q, q < n → h84.1 q = h.1 q := fun q hq => (am_ne e85 q (by omega)).trans (l82 q hq)
  have r93 : ∀ q, (n + 5) ≤ q → q < (n + 13) → h84.1 q = h39.1 q := fun q q0 q1 => (am_ne e85 q (by omega)).trans (r83 q q0 q1)
  exact q_rv rfl eX9_init_72 ⟨rfl, ⟨0, 0, 0, 0, 0, 0, 0, 0, 0, 0, 0, am_Z, am_Z, ⟨k86, k88⟩, ⟨k87, k89, by rw [show am_L [] = am_Z from am_L_z 0]; exact k90, fun i i0 i1 => (r93 (n + 5 + i.toNat) (by omega) (by omega)).trans (e40r i i0 i1)⟩, k91⟩, Prod.ext e85t e85s, l92⟩

set_option maxHeartbeats 1000000 in
theorem c_X9_thrown {w : am_w} {h : AH} {n : Nat} {th bl eo ud : Int} {bf : Int → Int} {rw : Int → Int → Int} {D : Int → Int} (hA : MA h n th bl eo ud bf rw D)  : AE w m_X9_thrown 1 [vr n] h (am_intp h (fun z => z = th)) := by
  refine AE.of wf_X9_thrown (Nat.le_of_ble_eq_true rfl) (am_ok_ip) ?_
  obtain ⟨tl, ps, er, ea, g0, g1, g2, g3, ns, ne, se, od, sk, hm, hR, hK⟩ := hA
  obtain ⟨m0, m1⟩ := id hm
  refine q_blk (lv2 := [(0, vr n)]) (st2 := [vr n]) kX9_thrown_0 rfl ?_
  refine q_gi eX9_thrown_1 fl_RX9_32 (Or.inl rfl) m0 (z := th) rfl ?_
  exact q_ri rfl eX9_thrown_4 ⟨th, rfl, rfl, rfl⟩
