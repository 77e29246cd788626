/-! CornerClaims: its constructor. -/
theorem gm_Zr {a b i : Int} (h : a ≤ 0) (k : 0 ≤ b) : a ≤ am_Z i ∧ am_Z i ≤ b := ⟨h, k⟩
def gm_slots : Nat := 800 + (10 + 260) + (10 + 260) + (2 + 8) + (15 + 2 + 8 + 3203) + (4 + 21) + (3 + 2168)

set_option maxHeartbeats 8000000 in
theorem c_X8_init {w : am_w} {h : AH} {o : Nat} (hc : h.1 o = some (7, 9, am_L (List.replicate 9 0), am_G (List.replicate 9 none))) (ht : h.2.1 = o + 1) (hP : PLN w h o)  : AE w m_X8_init 8 [vr o] h (am_unit (fun h1 => (CCS h1 o (o + 1) (o + 2) (o + 26) (o + 50) (o + 52) (o + 59) (o + 62) (gm_emp 2 2) am_Z (w.2 100) gm_pln am_Z 0 (-1) []) ∧ h1.2 = (o + 256, h.2.2 + gm_slots) ∧ ∀ q, q < o → h1.1 q = h.1 q)) := by
  refine AE.of wf_X8_init (Nat.le_of_ble_eq_true rfl) (am_ok_v) ?_
  refine q_blk (lv2 := [(0, vr o)]) (st2 := [vr o]) kX8_init_0 rfl ?_
  refine AQ.of (AS.objInit eX8_init_1 (am_gw 76 (by decide +kernel) (by decide +kernel)) (am_gw 77 (by decide +kernel) (by decide +kernel)) (am_gw 78 (by decide +kernel) (by decide +kernel)) (by decide) (Nat.le_of_ble_eq_true rfl)) ?_
  refine q_blk (lv2 := [(0, vr o)]) (st2 := [vi 800, vr o]) kX8_init_4 rfl ?_
  refine q_na (k := 101) 800 rfl ht eX8_init_8 (Or.inr (Or.inl ⟨rfl, rfl⟩)) (am_gw 119 (by decide +kernel) (by decide +kernel)) (by decide) (by decide) (fun h1 e2c e2f e2z => ?_)
  have k3 := (e2f o (by omega)).trans hc
  have l4 : ∀ q, q < o → h1.1 q = h.1 q := fun q hq => (e2f q (by omega)).trans ((fun _ _ => rfl) q hq)
  have e2t : h1.2.1 = (o + 2) := by rw [e2z]
  have e2s : gm_sl h h1 800 := gm_sl.a (n := 0) (b := 0) (gm_sl.z rfl) e2z rfl
  refine q_pr eX8_init_10 fl_RX8_9 (fun q hq => by cases hq; exact Or.inr ⟨rfl, rfl, am_gw 303 (by decide +kernel) (by decide +kernel)⟩) (Or.inr ⟨_, rfl⟩) k3 (Nat.le_of_ble_eq_true rfl) (l2 := [some (o + 1), none, none, none, none, none, none, none, none]) rfl (fun h5 e6 => ?_)
  have k7 := am_at e6
  have k8 := (am_ne e6 (o + 1) (by omega)).trans e2c
  have e6t : h5.2.1 = (o + 2) := (congrArg Prod.fst (am_z e6)).trans e2t
  clear e2t
  have e6s : gm_sl h h5 800 := gm_sl.s e2s (am_z e6)
  have l9 : ∀ q, q < o → h5.1 q = h.1 q := fun q hq => (am_ne e6 q (by omega)).trans (l4 q hq)
  refine q_blk (lv2 := [(0, vr o)]) (st2 := [vr o]) kX8_init_13 rfl ?_
  refine q_no (ci := 0) e6t eX8_init_14 rfl (am_gw 79 (by decide +kernel) (by decide +kernel)) (am_gw 80 (by decide +kernel) (by decide +kernel)) in_RX0 (fun h10 e11c e11f e11z => ?_)
  have k12 := (e11f o (by omega)).trans k7
  have k13 := (e11f (o + 1) (by omega)).trans k8
  have l14 : ∀ q, q < o → h10.1 q = h.1 q := fun q hq => (e11f q (by omega)).trans (l9 q hq)
  have e11t : h10.2.1 = (o + 3) := by rw [e11z]
  have e11s : gm_sl h h10 810 := gm_sl.a (n := 800) (b := 0) e6s e11z rfl
  clear e6t
  refine q_blk (lv2 := [(0, vr o)]) (st2 := [vr (o + 2), vr (o + 2), vr o]) kX8_init_17 rfl ?_
  refine AQ.callIv (av := []) (st := [vr (o + 2), vr o]) (c_X0_init e11c e11t) lk_RX8_15 (by decide) rfl rfl (Nat.le_of_ble_eq_true rfl) eX8_init_18 (fun h17 e16 => ?_)
  obtain ⟨ph17, zh17, fh17⟩ := e16
  have k18 := (fh17 o (by omega)).trans k12
  have k19 := (fh17 (o + 1) (by omega)).trans k13
  have l20 : ∀ q, q < o → h17.1 q = h.1 q := fun q hq => (fh17 q (by omega)).trans (l14 q hq)
  have th17 : h17.2.1 = (o + 26) := by rw [zh17]
  have sh17 : gm_sl h h17 1070 := gm_sl.a (n := 810) (b := 0) e11s zh17 rfl
  refine q_pr eX8_init_21 fl_RX8_16 (fun q hq => by cases hq; exact Or.inr ⟨rfl, rfl, am_gw 304 (by decide +kernel) (by decide +kernel)⟩) (Or.inl ⟨_, rfl⟩) k18 (Nat.le_of_ble_eq_true rfl) (l2 := [some (o + 1), some (o + 2), none, none, none, none, none, none, none]) rfl (fun h21 e22 => ?_)
  have k23 := am_at e22
  have k24 := (am_ne e22 (o + 1) (by omega)).trans k19
  have e22t : h21.2.1 = (o + 26) := (congrArg Prod.fst (am_z e22)).trans th17
  clear th17
  have e22s : gm_sl h h21 1070 := gm_sl.s sh17 (am_z e22)
  have l25 : ∀ q, q < o → h21.1 q = h.1 q := fun q hq => (am_ne e22 q (by omega)).trans (l20 q hq)
  have r26 : ∀ q, (o + 2) ≤ q → q < (o + 2) + 24 → h21.1 q = h17.1 q := fun q q0 q1 => (am_ne e22 q (by omega)).trans ((fun _ _ _ => rfl) q q0 q1)
  refine q_blk (lv2 := [(0, vr o)]) (st2 := [vr o]) kX8_init_24 rfl ?_
  refine q_no (ci := 0) e22t eX8_init_25 rfl (am_gw 79 (by decide +kernel) (by decide +kernel)) (am_gw 80 (by decide +kernel) (by decide +kernel)) in_RX0 (fun h27 e28c e28f e28z => ?_)
  have k29 := (e28f o (by omega)).trans k23
  have k30 := (e28f (o + 1) (by omega)).trans k24
  have l31 : ∀ q, q < o → h27.1 q = h.1 q := fun q hq => (e28f q (by omega)).trans (l25 q hq)
  have e28t : h27.2.1 = (o + 27) := by rw [e28z]
  have e28s : gm_sl h h27 1080 := gm_sl.a (n := 1070) (b := 0) e22s e28z rfl
  clear e22t
  have r32 : ∀ q, (o + 2) ≤ q → q < (o + 2) + 24 → h27.1 q = h17.1 q := fun q q0 q1 => (e28f q (by omega)).trans (r26 q q0 q1)
  refine q_blk (lv2 := [(0, vr o)]) (st2 := [vr (o + 26), vr (o + 26), vr o]) kX8_init_28 rfl ?_
  refine AQ.callIv (av := []) (st := [vr (o + 26), vr o]) (c_X0_init e28c e28t) lk_RX8_15 (by decide) rfl rfl (Nat.le_of_ble_eq_true rfl) eX8_init_29 (fun h35 e34 => ?_)
  obtain ⟨ph35, zh35, fh35⟩ := e34
  have k36 := (fh35 o (by omega)).trans k29
  have k37 := (fh35 (o + 1) (by omega)).trans k30
  have l38 : ∀ q, q < o → h35.1 q = h.1 q := fun q hq => (fh35 q (by omega)).trans (l31 q hq)
  have th35 : h35.2.1 = (o + 50) := by rw [zh35]
  have sh35 : gm_sl h h35 1340 := gm_sl.a (n := 1080) (b := 0) e28s zh35 rfl
  have r39 : ∀ q, (o + 2) ≤ q → q < (o + 2) + 24 → h35.1 q = h17.1 q := fun q q0 q1 => (fh35 q (by omega)).trans (r32 q q0 q1)
  refine q_pr eX8_init_32 fl_RX8_20 (fun q hq => by cases hq; exact Or.inr ⟨rfl, rfl, am_gw 305 (by decide +kernel) (by decide +kernel)⟩) (Or.inl ⟨_, rfl⟩) k36 (Nat.le_of_ble_eq_true rfl) (l2 := [some (o + 1), some (o + 2), some (o + 26), none, none, none, none, none, none]) rfl (fun h40 e41 => ?_)
  have k42 := am_at e41
  have k43 := (am_ne e41 (o + 1) (by omega)).trans k37
  have e41t : h40.2.1 = (o + 50) := (congrArg Prod.fst (am_z e41)).trans th35
  clear th35
  have e41s : gm_sl h h40 1340 := gm_sl.s sh35 (am_z e41)
  have l44 : ∀ q, q < o → h40.1 q = h.1 q := fun q hq => (am_ne e41 q (by omega)).trans (l38 q hq)
  have r45 : ∀ q, (o + 2) ≤ q → q < (o + 2) + 24 → h40.1 q = h17.1 q := fun q q0 q1 => (am_ne e41 q (by omega)).trans (r39 q q0 q1)
  have r46 : ∀ q, (o + 26) ≤ q → q < (o + 26) + 24 → h40.1 q = h35.1 q := fun q q0 q1 => (am_ne e41 q (by omega)).trans ((fun _ _ _ => rfl) q q0 q1)
  refine q_blk (lv2 := [(0, vr o)]) (st2 := [vr o]) kX8_init_35 rfl ?_
  refine q_no (ci := 2) e41t eX8_init_36 rfl (am_gw 167 (by decide +kernel) (by decide +kernel)) (am_gw 168 (by decide +kernel) (by decide +kernel)) in_RX3 (fun h47 e48c e48f e48z => ?_)
  have k49 := (e48f o (by omega)).trans k42
  have k50 := (e48f (o + 1) (by omega)).trans k43
  have l51 : ∀ q, q < o → h47.1 q = h.1 q := fun q hq => (e48f q (by omega)).trans (l44 q hq)
  have e48t : h47.2.1 = (o + 51) := by rw [e48z]
  have e48s : gm_sl h h47 1342 := gm_sl.a (n := 1340) (b := 0) e41s e48z rfl
  clear e41t
  have r52 : ∀ q, (o + 2) ≤ q → q < (o + 2) + 24 → h47.1 q = h17.1 q := fun q q0 q1 => (e48f q (by omega)).trans (r45 q q0 q1)
  have r53 : ∀ q, (o + 26) ≤ q → q < (o + 26) + 24 → h47.1 q = h35.1 q := fun q q0 q1 => (e48f q (by omega)).trans (r46 q q0 q1)
  refine q_blk (lv2 := [(0, vr o)]) (st2 := [vr o, vr (o + 50), vr (o + 50), vr o]) kX8_init_39 rfl ?_
  refine q_gr eX8_init_41 fl_RX8_16 (Or.inl ⟨_, rfl⟩) k49 rfl ?_
  refine AQ.callIv (av := [vr (o + 2)]) (st := [vr (o + 50), vr o]) (c_X3_init e48c e48t) lk_RX8_25 (by decide) rfl rfl (Nat.le_of_ble_eq_true rfl) eX8_init_44 (fun h56 e55 => ?_)
  obtain ⟨ph56, zh56, fh56⟩ := e55
  have k57 := (fh56 o (by omega)).trans k49
  have k58 := (fh56 (o + 1) (by omega)).trans k50
  have l59 : ∀ q, q < o → h56.1 q = h.1 q := fun q hq => (fh56 q (by omega)).trans (l51 q hq)
  have th56 : h56.2.1 = (o + 52) := by rw [zh56]
  have sh56 : gm_sl h h56 1350 := gm_sl.a (n := 1342) (b := 0) e48s zh56 rfl
  have r60 : ∀ q, (o + 2) ≤ q → q < (o + 2) + 24 → h56.1 q = h17.1 q := fun q q0 q1 => (fh56 q (by omega)).trans (r52 q q0 q1)
  have r61 : ∀ q, (o + 26) ≤ q → q < (o + 26) + 24 → h56.1 q = h35.1 q := fun q q0 q1 => (fh56 q (by omega)).trans (r53 q q0 q1)
  refine q_pr eX8_init_47 fl_RX8_28 (fun q hq => by cases hq; exact Or.inr ⟨rfl, rfl, am_gw 306 (by decide +kernel) (by decide +kernel)⟩) (Or.inl ⟨_, rfl⟩) k57 (Nat.le_of_ble_eq_true rfl) (l2 := [some (o + 1), some (o + 2), some (o + 26), some (o + 50), none, none, none, none, none]) rfl (fun h62 e63 => ?_)
  have k64 := am_at e63
  have k65 := (am_ne e63 (o + 1) (by omega)).trans k58
  have e63t : h62.2.1 = (o + 52) := (congrArg Prod.fst (am_z e63)).trans th56
  clear th56
  have e63s : gm_sl h h62 1350 := gm_sl.s sh56 (am_z e63)
  have l66 : ∀ q, q < o → h62.1 q = h.1 q := fun q hq => (am_ne e63 q (by omega)).trans (l59 q hq)
  have r67 : ∀ q, (o + 2) ≤ q → q < (o + 2) + 24 → h62.1 q = h17.1 q := fun q q0 q1 => (am_ne e63 q (by omega)).trans (r60 q q0 q1)
  have r68 : ∀ q, (o + 26) ≤ q → q < (o + 26) + 24 → h62.1 q = h35.1 q := fun q q0 q1 => (am_ne e63 q (by omega)).trans (r61 q q0 q1)
  have r69 : ∀ q, (o + 50) ≤ q → q < (o + 50) + 2 → h62.1 q = h56.1 q := fun q q0 q1 => (am_ne e63 q (by omega)).trans ((fun _ _ _ => rfl) q q0 q1)
  refine q_blk (lv2 := [(0, vr o)]) (st2 := [vr o]) kX8_init_50 rfl ?_
  refine q_no (ci := 5) e63t eX8_init_51 rfl (am_gw 211 (by decide +kernel) (by decide +kernel)) (am_gw 212 (by decide +kernel) (by decide +kernel)) in_RX6 (fun h70 e71c e71f e71z => ?_)
  have k72 := (e71f o (by omega)).trans k64
  have k73 := (e71f (o + 1) (by omega)).trans k65
  have l74 : ∀ q, q < o → h70.1 q = h.1 q := fun q hq => (e71f q (by omega)).trans (l66 q hq)
  have e71t : h70.2.1 = (o + 53) := by rw [e71z]
  have e71s : gm_sl h h70 1365 := gm_sl.a (n := 1350) (b := 0) e63s e71z rfl
  clear e63t
  have r75 : ∀ q, (o + 2) ≤ q → q < (o + 2) + 24 → h70.1 q = h17.1 q := fun q q0 q1 => (e71f q (by omega)).trans (r67 q q0 q1)
  have r76 : ∀ q, (o + 26) ≤ q → q < (o + 26) + 24 → h70.1 q = h35.1 q := fun q q0 q1 => (e71f q (by omega)).trans (r68 q q0 q1)
  have r77 : ∀ q, (o + 50) ≤ q → q < (o + 50) + 2 → h70.1 q = h56.1 q := fun q q0 q1 => (e71f q (by omega)).trans (r69 q q0 q1)
  refine q_blk (lv2 := [(0, vr o)]) (st2 := [vr o, vr (o + 52), vr (o + 52), vr o]) kX8_init_54 rfl ?_
  refine q_gr eX8_init_56 fl_RX8_9 (Or.inr ⟨_, rfl⟩) k72 rfl ?_
  refine q_blk (lv2 := [(0, vr o)]) (st2 := [vr o, vr (o + 1), vr (o + 52), vr (o + 52), vr o]) kX8_init_59 rfl ?_
  refine q_gr eX8_init_60 fl_RX8_20 (Or.inl ⟨_, rfl⟩) k72 rfl ?_
  refine q_no (ci := 2) e71t eX8_init_63 rfl (am_gw 167 (by decide +kernel) (by decide +kernel)) (am_gw 168 (by decide +kernel) (by decide +kernel)) in_RX3 (fun h78 e79c e79f e79z => ?_)
  have k80 := (e79f o (by omega)).trans k72
  have k81 := (e79f (o + 1) (by omega)).trans k73
  have k82 := (e79f (o + 52) (by omega)).trans e71c
  have l83 : ∀ q, q < o → h78.1 q = h.1 q := fun q hq => (e79f q (by omega)).trans (l74 q hq)
  have e79t : h78.2.1 = (o + 54) := by rw [e79z]
  have e79s : gm_sl h h78 1367 := gm_sl.a (n := 1365) (b := 0) e71s e79z rfl
  clear e71t
  have r84 : ∀ q, (o + 2) ≤ q → q < (o + 2) + 24 → h78.1 q = h17.1 q := fun q q0 q1 => (e79f q (by omega)).trans (r75 q q0 q1)
  have r85 : ∀ q, (o + 26) ≤ q → q < (o + 26) + 24 → h78.1 q = h35.1 q := fun q q0 q1 => (e79f q (by omega)).trans (r76 q q0 q1)
  have r86 : ∀ q, (o + 50) ≤ q → q < (o + 50) + 2 → h78.1 q = h56.1 q := fun q q0 q1 => (e79f q (by omega)).trans (r77 q q0 q1)
  refine q_blk (lv2 := [(0, vr o)]) (st2 := [vr o, vr (o + 53), vr (o + 53), vr (o + 26), vr (o + 1), vr (o + 52), vr (o + 52), vr o]) kX8_init_66 rfl ?_
  refine q_gr eX8_init_68 fl_RX8_20 (Or.inl ⟨_, rfl⟩) k80 rfl ?_
  refine AQ.callIv (av := [vr (o + 26)]) (st := [vr (o + 53), vr (o + 26), vr (o + 1), vr (o + 52), vr (o + 52), vr o]) (c_X3_init e79c e79t) lk_RX8_25 (by decide) rfl rfl (Nat.le_of_ble_eq_true rfl) eX8_init_71 (fun h89 e88 => ?_)
  obtain ⟨ph89, zh89, fh89⟩ := e88
  have k90 := (fh89 o (by omega)).trans k80
  have k91 := (fh89 (o + 1) (by omega)).trans k81
  have k92 := (fh89 (o + 52) (by omega)).trans k82
  have l93 : ∀ q, q < o → h89.1 q = h.1 q := fun q hq => (fh89 q (by omega)).trans (l83 q hq)
  have th89 : h89.2.1 = (o + 55) := by rw [zh89]
  have sh89 : gm_sl h h89 1375 := gm_sl.a (n := 1367) (b := 0) e79s zh89 rfl
  have r94 : ∀ q, (o + 2) ≤ q → q < (o + 2) + 24 → h89.1 q = h17.1 q := fun q q0 q1 => (fh89 q (by omega)).trans (r84 q q0 q1)
  have r95 : ∀ q, (o + 26) ≤ q → q < (o + 26) + 24 → h89.1 q = h35.1 q := fun q q0 q1 => (fh89 q (by omega)).trans (r85 q q0 q1)
  have r96 : ∀ q, (o + 50) ≤ q → q < (o + 50) + 2 → h89.1 q = h56.1 q := fun q q0 q1 => (fh89 q (by omega)).trans (r86 q q0 q1)
  refine AQ.callIv (av := [vr (o + 1), vr (o + 26), vr (o + 53)]) (st := [vr (o + 52), vr o]) (c_X6_init k92 th89) lk_RX8_34 (by decide) rfl rfl (Nat.le_of_ble_eq_true rfl) eX8_init_74 (fun h99 e98 => ?_)
  obtain ⟨ph99, zh99, fh99⟩ := e98
  have k100 := (fh99 o (by omega)).trans k90
  have k101 := (fh99 (o + 1) (by omega)).trans k91
  have l102 : ∀ q, q < o → h99.1 q = h.1 q := fun q hq => (fh99 q (by omega)).trans (l93 q hq)
  have th99 : h99.2.1 = (o + 59) := by rw [zh99]
  have sh99 : gm_sl h h99 4578 := gm_sl.a (n := 1375) (b := 0) sh89 zh99 rfl
  have r103 : ∀ q, (o + 2) ≤ q → q < (o + 2) + 24 → h99.1 q = h17.1 q := fun q q0 q1 => (fh99 q (by omega)).trans (r94 q q0 q1)
  have r104 : ∀ q, (o + 26) ≤ q → q < (o + 26) + 24 → h99.1 q = h35.1 q := fun q q0 q1 => (fh99 q (by omega)).trans (r95 q q0 q1)
  have r105 : ∀ q, (o + 50) ≤ q → q < (o + 50) + 2 → h99.1 q = h56.1 q := fun q q0 q1 => (fh99 q (by omega)).trans (r96 q q0 q1)
  obtain ⟨t0, t3, t4, t5, t6, t1, t2⟩ := id ph99
  have j1 := t1.trans (((fun _ _ _ => rfl) (o + 53) (by omega) (by omega)).trans ph89.1)
  have j2 : LJ h99 (o + 54) := LJ.loc ph89.2 (t2.trans ((fun _ _ _ => rfl) (o + 54) (by omega) (by omega)))
  refine q_pr eX8_init_77 fl_RX8_37 (fun q hq => by cases hq; exact Or.inr ⟨rfl, rfl, am_gw 307 (by decide +kernel) (by decide +kernel)⟩) (Or.inl ⟨_, rfl⟩) k100 (Nat.le_of_ble_eq_true rfl) (l2 := [some (o + 1), some (o + 2), some (o + 26), some (o + 50), some (o + 52), none, none, none, none]) rfl (fun h106 e107 => ?_)
  have k108 := am_at e107
  have k109 := (am_ne e107 (o + 1) (by omega)).trans k101
  have e107t : h106.2.1 = (o + 59) := (congrArg Prod.fst (am_z e107)).trans th99
  clear th99
  have e107s : gm_sl h h106 4578 := gm_sl.s sh99 (am_z e107)
  have l110 : ∀ q, q < o → h106.1 q = h.1 q := fun q hq => (am_ne e107 q (by omega)).trans (l102 q hq)
  have r111 : ∀ q, (o + 2) ≤ q → q < (o + 2) + 24 → h106.1 q = h17.1 q := fun q q0 q1 => (am_ne e107 q (by omega)).trans (r103 q q0 q1)
  have r112 : ∀ q, (o + 26) ≤ q → q < (o + 26) + 24 → h106.1 q = h35.1 q := fun q q0 q1 => (am_ne e107 q (by omega)).trans (r104 q q0 q1)
  have r113 : ∀ q, (o + 50) ≤ q → q < (o + 50) + 2 → h106.1 q = h56.1 q := fun q q0 q1 => (am_ne e107 q (by omega)).trans (r105 q q0 q1)
  have r114 : ∀ q, (o + 52) ≤ q → q < (o + 52) + 7 → h106.1 q = h99.1 q := fun q q0 q1 => (am_ne e107 q (by omega)).trans ((fun _ _ _ => rfl) q q0 q1)
  refine q_blk (lv2 := [(0, vr o)]) (st2 := [vr o]) kX8_init_80 rfl ?_
  refine q_no (ci := 4) e107t eX8_init_81 rfl (am_gw 265 (by decide +kernel) (by decide +kernel)) (am_gw 266 (by decide +kernel) (by decide +kernel)) in_RX5 (fun h115 e116c e116f e116z => ?_)
  have k117 := (e116f o (by omega)).trans k108
  have k118 := (e116f (o + 1) (by omega)).trans k109
  have l119 : ∀ q, q < o → h115.1 q = h.1 q := fun q hq => (e116f q (by omega)).trans (l110 q hq)
  have e116t : h115.2.1 = (o + 60) := by rw [e116z]
  have e116s : gm_sl h h115 4582 := gm_sl.a (n := 4578) (b := 0) e107s e116z rfl
  clear e107t
  have r120 : ∀ q, (o + 2) ≤ q → q < (o + 2) + 24 → h115.1 q = h17.1 q := fun q q0 q1 => (e116f q (by omega)).trans (r111 q q0 q1)
  have r121 : ∀ q, (o + 26) ≤ q → q < (o + 26) + 24 → h115.1 q = h35.1 q := fun q q0 q1 => (e116f q (by omega)).trans (r112 q q0 q1)
  have r122 : ∀ q, (o + 50) ≤ q → q < (o + 50) + 2 → h115.1 q = h56.1 q := fun q q0 q1 => (e116f q (by omega)).trans (r113 q q0 q1)
  have r123 : ∀ q, (o + 52) ≤ q → q < (o + 52) + 7 → h115.1 q = h99.1 q := fun q q0 q1 => (e116f q (by omega)).trans (r114 q q0 q1)
  refine q_blk (lv2 := [(0, vr o)]) (st2 := [vr o, vr (o + 59), vr (o + 59), vr o]) kX8_init_84 rfl ?_
  refine q_gr eX8_init_86 fl_RX8_16 (Or.inl ⟨_, rfl⟩) k117 rfl ?_
  refine AQ.callIv (av := [vr (o + 2)]) (st := [vr (o + 59), vr o]) (c_X5_init e116c e116t) lk_RX8_43 (by decide) rfl rfl (Nat.le_of_ble_eq_true rfl) eX8_init_89 (fun h126 e125 => ?_)
  obtain ⟨ph126, zh126, fh126⟩ := e125
  have k127 := (fh126 o (by omega)).trans k117
  have k128 := (fh126 (o + 1) (by omega)).trans k118
  have l129 : ∀ q, q < o → h126.1 q = h.1 q := fun q hq => (fh126 q (by omega)).trans (l119 q hq)
  have th126 : h126.2.1 = (o + 62) := by rw [zh126]
  have sh126 : gm_sl h h126 4603 := gm_sl.a (n := 4582) (b := 0) e116s zh126 rfl
  have r130 : ∀ q, (o + 2) ≤ q → q < (o + 2) + 24 → h126.1 q = h17.1 q := fun q q0 q1 => (fh126 q (by omega)).trans (r120 q q0 q1)
  have r131 : ∀ q, (o + 26) ≤ q → q < (o + 26) + 24 → h126.1 q = h35.1 q := fun q q0 q1 => (fh126 q (by omega)).trans (r121 q q0 q1)
  have r132 : ∀ q, (o + 50) ≤ q → q < (o + 50) + 2 → h126.1 q = h56.1 q := fun q q0 q1 => (fh126 q (by omega)).trans (r122 q q0 q1)
  have r133 : ∀ q, (o + 52) ≤ q → q < (o + 52) + 7 → h126.1 q = h99.1 q := fun q q0 q1 => (fh126 q (by omega)).trans (r123 q q0 q1)
  refine q_pr eX8_init_92 fl_RX8_44 (fun q hq => by cases hq; exact Or.inr ⟨rfl, rfl, am_gw 308 (by decide +kernel) (by decide +kernel)⟩) (Or.inl ⟨_, rfl⟩) k127 (Nat.le_of_ble_eq_true rfl) (l2 := [some (o + 1), some (o + 2), some (o + 26), some (o + 50), some (o + 52), some (o + 59), none, none, none]) rfl (fun h134 e135 => ?_)
  have k136 := am_at e135
  have k137 := (am_ne e135 (o + 1) (by omega)).trans k128
  have e135t : h134.2.1 = (o + 62) := (congrArg Prod.fst (am_z e135)).trans th126
  clear th126
  have e135s : gm_sl h h134 4603 := gm_sl.s sh126 (am_z e135)
  have l138 : ∀ q, q < o → h134.1 q = h.1 q := fun q hq => (am_ne e135 q (by omega)).trans (l129 q hq)
  have r139 : ∀ q, (o + 2) ≤ q → q < (o + 2) + 24 → h134.1 q = h17.1 q := fun q q0 q1 => (am_ne e135 q (by omega)).trans (r130 q q0 q1)
  have r140 : ∀ q, (o + 26) ≤ q → q < (o + 26) + 24 → h134.1 q = h35.1 q := fun q q0 q1 => (am_ne e135 q (by omega)).trans (r131 q q0 q1)
  have r141 : ∀ q, (o + 50) ≤ q → q < (o + 50) + 2 → h134.1 q = h56.1 q := fun q q0 q1 => (am_ne e135 q (by omega)).trans (r132 q q0 q1)
  have r142 : ∀ q, (o + 52) ≤ q → q < (o + 52) + 7 → h134.1 q = h99.1 q := fun q q0 q1 => (am_ne e135 q (by omega)).trans (r133 q q0 q1)
  have r143 : ∀ q, (o + 59) ≤ q → q < (o + 59) + 3 → h134.1 q = h126.1 q := fun q q0 q1 => (am_ne e135 q (by omega)).trans ((fun _ _ _ => rfl) q q0 q1)
  refine q_blk (lv2 := [(0, vr o)]) (st2 := [vr o]) kX8_init_95 rfl ?_
  refine q_no (ci := 1) e135t eX8_init_96 rfl (am_gw 284 (by decide +kernel) (by decide +kernel)) (am_gw 285 (by decide +kernel) (by decide +kernel)) in_RX2 (fun h144 e145c e145f e145z => ?_)
  have k146 := (e145f o (by omega)).trans k136
  have k147 := (e145f (o + 1) (by omega)).trans k137
  have l148 : ∀ q, q < o → h144.1 q = h.1 q := fun q hq => (e145f q (by omega)).trans (l138 q hq)
  have e145t : h144.2.1 = (o + 63) := by rw [e145z]
  have e145s : gm_sl h h144 4606 := gm_sl.a (n := 4603) (b := 0) e135s e145z rfl
  clear e135t
  have r149 : ∀ q, (o + 2) ≤ q → q < (o + 2) + 24 → h144.1 q = h17.1 q := fun q q0 q1 => (e145f q (by omega)).trans (r139 q q0 q1)
  have r150 : ∀ q, (o + 26) ≤ q → q < (o + 26) + 24 → h144.1 q = h35.1 q := fun q q0 q1 => (e145f q (by omega)).trans (r140 q q0 q1)
  have r151 : ∀ q, (o + 50) ≤ q → q < (o + 50) + 2 → h144.1 q = h56.1 q := fun q q0 q1 => (e145f q (by omega)).trans (r141 q q0 q1)
  have r152 : ∀ q, (o + 52) ≤ q → q < (o + 52) + 7 → h144.1 q = h99.1 q := fun q q0 q1 => (e145f q (by omega)).trans (r142 q q0 q1)
  have r153 : ∀ q, (o + 59) ≤ q → q < (o + 59) + 3 → h144.1 q = h126.1 q := fun q q0 q1 => (e145f q (by omega)).trans (r143 q q0 q1)
  refine q_blk (lv2 := [(0, vr o)]) (st2 := [vr (o + 62), vr (o + 62), vr o]) kX8_init_99 rfl ?_
  refine AQ.callIv (av := []) (st := [vr (o + 62), vr o]) (c_X2_init e145c e145t) lk_RX8_50 (by decide) rfl rfl (Nat.le_of_ble_eq_true rfl) eX8_init_100 (fun h156 e155 => ?_)
  obtain ⟨ph156, zh156, fh156⟩ := e155
  have k157 := (fh156 o (by omega)).trans k146
  have k158 := (fh156 (o + 1) (by omega)).trans k147
  have l159 : ∀ q, q < o → h156.1 q = h.1 q := fun q hq => (fh156 q (by omega)).trans (l148 q hq)
  have th156 : h156.2.1 = (o + 256) := by rw [zh156]
  have sh156 : gm_sl h h156 6774 := gm_sl.a (n := 4606) (b := 0) e145s zh156 rfl
  have r160 : ∀ q, (o + 2) ≤ q → q < (o + 2) + 24 → h156.1 q = h17.1 q := fun q q0 q1 => (fh156 q (by omega)).trans (r149 q q0 q1)
  have r161 : ∀ q, (o + 26) ≤ q → q < (o + 26) + 24 → h156.1 q = h35.1 q := fun q q0 q1 => (fh156 q (by omega)).trans (r150 q q0 q1)
  have r162 : ∀ q, (o + 50) ≤ q → q < (o + 50) + 2 → h156.1 q = h56.1 q := fun q q0 q1 => (fh156 q (by omega)).trans (r151 q q0 q1)
  have r163 : ∀ q, (o + 52) ≤ q → q < (o + 52) + 7 → h156.1 q = h99.1 q := fun q q0 q1 => (fh156 q (by omega)).trans (r152 q q0 q1)
  have r164 : ∀ q, (o + 59) ≤ q → q < (o + 59) + 3 → h156.1 q = h126.1 q := fun q q0 q1 => (fh156 q (by omega)).trans (r153 q q0 q1)
  refine q_pr eX8_init_103 fl_RX8_51 (fun q hq => by cases hq; exact Or.inr ⟨rfl, rfl, am_gw 309 (by decide +kernel) (by decide +kernel)⟩) (Or.inl ⟨_, rfl⟩) k157 (Nat.le_of_ble_eq_true rfl) (l2 := [some (o + 1), some (o + 2), some (o + 26), some (o + 50), some (o + 52), some (o + 59), some (o + 62), none, none]) rfl (fun h165 e166 => ?_)
  have k167 := am_at e166
  have k168 := (am_ne e166 (o + 1) (by omega)).trans k158
  have e166t : h165.2.1 = (o + 256) := (congrArg Prod.fst (am_z e166)).trans th156
  clear th156
  have e166s : gm_sl h h165 6774 := gm_sl.s sh156 (am_z e166)
  have l169 : ∀ q, q < o → h165.1 q = h.1 q := fun q hq => (am_ne e166 q (by omega)).trans (l159 q hq)
  have r170 : ∀ q, (o + 2) ≤ q → q < (o + 2) + 24 → h165.1 q = h17.1 q := fun q q0 q1 => (am_ne e166 q (by omega)).trans (r160 q q0 q1)
  have r171 : ∀ q, (o + 26) ≤ q → q < (o + 26) + 24 → h165.1 q = h35.1 q := fun q q0 q1 => (am_ne e166 q (by omega)).trans (r161 q q0 q1)
  have r172 : ∀ q, (o + 50) ≤ q → q < (o + 50) + 2 → h165.1 q = h56.1 q := fun q q0 q1 => (am_ne e166 q (by omega)).trans (r162 q q0 q1)
  have r173 : ∀ q, (o + 52) ≤ q → q < (o + 52) + 7 → h165.1 q = h99.1 q := fun q q0 q1 => (am_ne e166 q (by omega)).trans (r163 q q0 q1)
  have r174 : ∀ q, (o + 59) ≤ q → q < (o + 59) + 3 → h165.1 q = h126.1 q := fun q q0 q1 => (am_ne e166 q (by omega)).trans (r164 q q0 q1)
  have r175 : ∀ q, (o + 62) ≤ q → q < (o + 62) + 194 → h165.1 q = h156.1 q := fun q q0 q1 => (am_ne e166 q (by omega)).trans ((fun _ _ _ => rfl) q q0 q1)
  refine q_blk (lv2 := [(0, vr o)]) (st2 := [vi 0, vr o]) kX8_init_106 rfl ?_
  refine q_pi eX8_init_108 fl_RX8_55 (fun q hq => by cases hq; exact Or.inl rfl) (Or.inl rfl) k167 (Nat.le_of_ble_eq_true rfl) (l2 := [0, 0, 0, 0, 0, 0, 0, 0, 0]) rfl (fun h176 e177 => ?_)
  have k178 := am_at e177
  have k179 := (am_ne e177 (o + 1) (by omega)).trans k168
  have e177t : h176.2.1 = (o + 256) := (congrArg Prod.fst (am_z e177)).trans e166t
  clear e166t
  have e177s : gm_sl h h176 6774 := gm_sl.s e166s (am_z e177)
  have l180 : ∀ q, q < o → h176.1 q = h.1 q := fun q hq => (am_ne e177 q (by omega)).trans (l169 q hq)
  have r181 : ∀ q, (o + 2) ≤ q → q < (o + 2) + 24 → h176.1 q = h17.1 q := fun q q0 q1 => (am_ne e177 q (by omega)).trans (r170 q q0 q1)
  have r182 : ∀ q, (o + 26) ≤ q → q < (o + 26) + 24 → h176.1 q = h35.1 q := fun q q0 q1 => (am_ne e177 q (by omega)).trans (r171 q q0 q1)
  have r183 : ∀ q, (o + 50) ≤ q → q < (o + 50) + 2 → h176.1 q = h56.1 q := fun q q0 q1 => (am_ne e177 q (by omega)).trans (r172 q q0 q1)
  have r184 : ∀ q, (o + 52) ≤ q → q < (o + 52) + 7 → h176.1 q = h99.1 q := fun q q0 q1 => (am_ne e177 q (by omega)).trans (r173 q q0 q1)
  have r185 : ∀ q, (o + 59) ≤ q → q < (o + 59) + 3 → h176.1 q = h126.1 q := fun q q0 q1 => (am_ne e177 q (by omega)).trans (r174 q q0 q1)
  have r186 : ∀ q, (o + 62) ≤ q → q < (o + 62) + 194 → h176.1 q = h156.1 q := fun q q0 q1 => (am_ne e177 q (by omega)).trans (r175 q q0 q1)
  refine q_blk (lv2 := [(0, vr o)]) (st2 := [vi (-1), vr o]) kX8_init_111 rfl ?_
  refine q_pi eX8_init_113 fl_RX8_59 (fun q hq => by cases hq; exact Or.inl rfl) (Or.inl rfl) k178 (Nat.le_of_ble_eq_true rfl) (l2 := [0, 0, 0, 0, 0, 0, 0, 0, (-1)]) rfl (fun h187 e188 => ?_)
  have k189 := am_at e188
  have k190 := (am_ne e188 (o + 1) (by omega)).trans k179
  have e188t : h187.2.1 = (o + 256) := (congrArg Prod.fst (am_z e188)).trans e177t
  clear e177t
  have e188s : gm_sl h h187 6774 := gm_sl.s e177s (am_z e188)
  have l191 : ∀ q, q < o → h187.1 q = h.1 q := fun q hq => (am_ne e188 q (by omega)).trans (l180 q hq)
  have r192 : ∀ q, (o + 2) ≤ q → q < (o + 2) + 24 → h187.1 q = h17.1 q := fun q q0 q1 => (am_ne e188 q (by omega)).trans (r181 q q0 q1)
  have r193 : ∀ q, (o + 26) ≤ q → q < (o + 26) + 24 → h187.1 q = h35.1 q := fun q q0 q1 => (am_ne e188 q (by omega)).trans (r182 q q0 q1)
  have r194 : ∀ q, (o + 50) ≤ q → q < (o + 50) + 2 → h187.1 q = h56.1 q := fun q q0 q1 => (am_ne e188 q (by omega)).trans (r183 q q0 q1)
  have r195 : ∀ q, (o + 52) ≤ q → q < (o + 52) + 7 → h187.1 q = h99.1 q := fun q q0 q1 => (am_ne e188 q (by omega)).trans (r184 q q0 q1)
  have r196 : ∀ q, (o + 59) ≤ q → q < (o + 59) + 3 → h187.1 q = h126.1 q := fun q q0 q1 => (am_ne e188 q (by omega)).trans (r185 q q0 q1)
  have r197 : ∀ q, (o + 62) ≤ q → q < (o + 62) + 194 → h187.1 q = h156.1 q := fun q q0 q1 => (am_ne e188 q (by omega)).trans (r186 q q0 q1)
  have e188s9 : h187.2.2 = h.2.2 + gm_slots := e188s
  have P9 : PLN w h187 o := (hP.go (n := 100000) (h1 := h187) ⟨⟨by rw [e188t, ht]; omega, by rw [e188t, ht]; omega, by rw [e188s9]; exact Nat.le_add_right _ _, by rw [e188s9]; exact Nat.add_le_add_left (by decide) _⟩, fun q q0 q1 => l191 q (by omega)⟩ (by omega))
  exact q_rv rfl eX8_init_116 ⟨rfl, ⟨⟨rfl, rfl, rfl, rfl, rfl, rfl, rfl, by rw [e188t]; exact Nat.le_refl _⟩, (by have q := k189; exact q), ⟨k190, fun i => gm_Zr (by decide) (by decide)⟩, ⟨by decide, by decide⟩, ph17.loc r192 (by decide), ⟨gm_emp_vd ⟨by decide, by decide⟩ ⟨by decide, by decide⟩, gm_emp_ve, fun k k0 k1 => absurd k1 (by show ¬ k < 0; omega), P9.1, gm_pln_wf, Or.inl P9.2⟩, (BD.ba ph35).loc r193, (r194 (o + 50) (by omega) (by omega)).trans ph56.1, LJ.loc ph56.2 (r194 (o + 51) (by omega) (by omega)), ⟨am_Z, am_Z, am_Z, 0, 0, 0, 0, 0, 0, 0, -1, am_Z, ⟨(r195 (o + 52) (by omega) (by omega)).trans t0, (r195 (o + 55) (by omega) (by omega)).trans t3, (r195 (o + 56) (by omega) (by omega)).trans t4, (r195 (o + 57) (by omega) (by omega)).trans t5, (r195 (o + 58) (by omega) (by omega)).trans t6, rfl, (r195 (o + 53) (by omega) (by omega)).trans j1, LJ.loc j2 (r195 (o + 54) (by omega) (by omega))⟩, ⟨fun k o q => by simp at q, fun i _ _ => gm_Zr (by decide) (by decide), fun i _ _ => gm_Zr (by decide) (by decide)⟩, by decide, by decide⟩, SCD.loc9 ph126 r196, ph156.loc r197, fun e he => by cases he⟩, Prod.ext e188t e188s9, l191⟩
