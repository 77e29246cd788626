/-! Constructors: boards, the history, the object. -/
def am_shk (a : Nat) (k : Int) (i : Int) : Option Nat := if 0 ≤ i ∧ i < k then some (a + 6 + 3 * i.toNat) else none
theorem am_shk_0 {a : Nat} : am_shk a 0 = am_N := by funext i; exact if_neg (by omega)
theorem am_shk_s {a : Nat} {k : Int} (k0 : 0 ≤ k) {T : Nat} (hT : T = a + 6 + 3 * k.toNat) : am_uR (am_shk a k) k (some T) = am_shk a (k + 1) := by
  funext i
  unfold am_uR am_shk
  by_cases c : i = k
  · subst c; rw [if_pos rfl, if_pos (by omega), hT]
  · rw [if_neg c]
    by_cases c2 : 0 ≤ i ∧ i < k
    · rw [if_pos c2, if_pos (by omega)]
    · rw [if_neg c2, if_neg (by omega)]
theorem SP.loc {h h1 : AH} {a : Nat} {n cl ow : Int} {fx fy : Int → Int} (hS : SP h a n cl ow fx fy) (f : ∀ q, a ≤ q → q < a + 3 → h1.1 q = h.1 q) : SP h1 a n cl ow fx fy := ⟨(f _ (by omega) (by omega)).trans hS.1, (f _ (by omega) (by omega)).trans hS.2.1, (f _ (by omega) (by omega)).trans hS.2.2⟩
/-- a board while its shapes are made -/
def BIK (h hh : AH) (a : Nat) (k : Int) : Prop := (0 ≤ k ∧ k ≤ 6) ∧ hh.1 a = some (0, 10, am_L [0, 0, 0, 0, 0, 0, 0, 0, 0, 0], am_G [some (a + 1), some (a + 2), some (a + 3), some (a + 4), some (a + 5), none, none, none, none, none]) ∧ hh.1 (a + 1) = some (100, 20, am_Z, am_N) ∧ hh.1 (a + 2) = some (100, 20, am_Z, am_N) ∧ hh.1 (a + 3) = some (100, 20, am_Z, am_N) ∧ hh.1 (a + 4) = some (100, 20, am_Z, am_N) ∧ hh.1 (a + 5) = some (104, 6, am_Z, am_shk a k) ∧
  hh.2.1 = a + 6 + 3 * k.toNat ∧ gm_sl h hh (86 + 29 * k.toNat) ∧ (∀ p : Int, 0 ≤ p → p < k → ∃ fx fy, SP hh (a + 6 + 3 * p.toNat) 0 0 0 fx fy) ∧ ∀ q, q < a → hh.1 q = h.1 q
theorem BIK.step {h hh h1 h2 h3 : AH} {a : Nat} {k : Int} (I : BIK h hh a k) (hk : k < 6) {T : Nat} (hT : T = a + 6 + 3 * k.toNat) (f1 : ∀ z, z ≠ T → h1.1 z = hh.1 z) (z1 : h1.2 = (T + 1, hh.2.2 + 5)) (p2 : ∃ fx fy, SP h2 T 0 0 0 fx fy) (z2 : h2.2 = (T + 3, h1.2.2 + 24)) (f2 : ∀ q, q < T → h2.1 q = h1.1 q)
    (e3 : h3 = am_set h2 (a + 5) (104, 6, am_Z, am_uR (am_shk a k) k (some T))) : BIK h h3 a (k + 1) := by
  obtain ⟨⟨k0, k1⟩, c0, c1, c2, c3, c4, c5, cz, cs, cp, cl⟩ := I
  have z3 := am_z e3
  have K : ∀ q, q < T → q ≠ a + 5 → h3.1 q = hh.1 q := fun q q0 q1 => (am_ne e3 q q1).trans ((f2 q q0).trans (f1 q (by omega)))
  refine ⟨⟨by omega, by omega⟩, (K _ (by omega) (by omega)).trans c0, (K _ (by omega) (by omega)).trans c1, (K _ (by omega) (by omega)).trans c2, (K _ (by omega) (by omega)).trans c3, (K _ (by omega) (by omega)).trans c4, (am_at e3).trans (by rw [am_shk_s k0 hT]), ?_, ?_, fun p p0 p1 => ?_, fun q q0 => (K q (by omega) (by omega)).trans (cl q q0)⟩
  · rw [z3, z2]; show T + 3 = _; omega
  · unfold gm_sl at cs ⊢
    rw [z3, z2, z1]
    show hh.2.2 + 5 + 24 = _
    omega
  · by_cases c : p = k
    · subst c
      obtain ⟨fx, fy, q⟩ := p2
      rw [← hT]
      exact ⟨fx, fy, q.loc (fun q q0 q1 => am_ne e3 q (by omega))⟩
    · obtain ⟨fx, fy, q⟩ := cp p p0 (by omega)
      exact ⟨fx, fy, q.loc (fun q q0 q1 => K q (by omega) (by omega))⟩

set_option maxHeartbeats 2000000 in
theorem c_X0_init {w : am_w} {h : AH} {a : Nat} (hc : h.1 a = some (0, 10, am_L (List.replicate 10 0), am_G (List.replicate 10 none))) (ht : h.2.1 = a + 1)  : AE w m_X0_init 4 [vr a] h (am_unit (fun h1 => (BD h1 a (gm_emp 2 2) am_Z (w.2 100)) ∧ h1.2 = (a + 24, h.2.2 + 260) ∧ ∀ q, q < a → h1.1 q = h.1 q)) := by
  refine AE.of wf_X0_init (Nat.le_of_ble_eq_true rfl) (am_ok_v) ?_
  refine q_blk (lv2 := [(0, vr a)]) (st2 := [vr a]) kX0_init_0 rfl ?_
  refine AQ.of (AS.objInit eX0_init_1 (am_gw 84 (by decide +kernel) (by decide +kernel)) (am_gw 77 (by decide +kernel) (by decide +kernel)) (am_gw 78 (by decide +kernel) (by decide +kernel)) (by decide) (Nat.le_of_ble_eq_true rfl)) ?_
  refine q_blk (lv2 := [(0, vr a)]) (st2 := [vi 20, vr a]) kX0_init_4 rfl ?_
  refine q_na (k := 100) 20 rfl ht eX0_init_7 (Or.inl ⟨rfl, rfl⟩) (am_gw 120 (by decide +kernel) (by decide +kernel)) (by decide) (by decide) (fun h1 e2c e2f e2z => ?_)
  have k3 := (e2f a (by omega)).trans hc
  have l4 : ∀ q, q < a → h1.1 q = h.1 q := fun q hq => (e2f q (by omega)).trans ((fun _ _ => rfl) q hq)
  have e2t : h1.2.1 = (a + 2) := by rw [e2z]
  have e2s : gm_sl h h1 20 := gm_sl.a (n := 0) (b := 0) (gm_sl.z rfl) e2z rfl
  refine q_pr eX0_init_9 fl_RX0_9 (fun q hq => by cases hq; exact Or.inr ⟨rfl, rfl, am_gw 123 (by decide +kernel) (by decide +kernel)⟩) (Or.inr ⟨_, rfl⟩) k3 (Nat.le_of_ble_eq_true rfl) (l2 := [some (a + 1), none, none, none, none, none, none, none, none, none]) rfl (fun h5 e6 => ?_)
  have k7 := am_at e6
  have k8 := (am_ne e6 (a + 1) (by omega)).trans e2c
  have e6t : h5.2.1 = (a + 2) := (congrArg Prod.fst (am_z e6)).trans e2t
  clear e2t
  have e6s : gm_sl h h5 20 := gm_sl.s e2s (am_z e6)
  have l9 : ∀ q, q < a → h5.1 q = h.1 q := fun q hq => (am_ne e6 q (by omega)).trans (l4 q hq)
  refine q_blk (lv2 := [(0, vr a)]) (st2 := [vi 20, vr a]) kX0_init_12 rfl ?_
  refine q_na (k := 100) 20 rfl e6t eX0_init_15 (Or.inl ⟨rfl, rfl⟩) (am_gw 120 (by decide +kernel) (by decide +kernel)) (by decide) (by decide) (fun h10 e11c e11f e11z => ?_)
  have k12 := (e11f a (by omega)).trans k7
  have k13 := (e11f (a + 1) (by omega)).trans k8
  have l14 : ∀ q, q < a → h10.1 q = h.1 q := fun q hq => (e11f q (by omega)).trans (l9 q hq)
  have e11t : h10.2.1 = (a + 3) := by rw [e11z]
  have e11s : gm_sl h h10 40 := gm_sl.a (n := 20) (b := 0) e6s e11z rfl
  clear e6t
  refine q_pr eX0_init_17 fl_RX0_15 (fun q hq => by cases hq; exact Or.inr ⟨rfl, rfl, am_gw 124 (by decide +kernel) (by decide +kernel)⟩) (Or.inr ⟨_, rfl⟩) k12 (Nat.le_of_ble_eq_true rfl) (l2 := [some (a + 1), some (a + 2), none, none, none, none, none, none, none, none]) rfl (fun h15 e16 => ?_)
  have k17 := am_at e16
  have k18 := (am_ne e16 (a + 1) (by omega)).trans k13
  have k19 := (am_ne e16 (a + 2) (by omega)).trans e11c
  have e16t : h15.2.1 = (a + 3) := (congrArg Prod.fst (am_z e16)).trans e11t
  clear e11t
  have e16s : gm_sl h h15 40 := gm_sl.s e11s (am_z e16)
  have l20 : ∀ q, q < a → h15.1 q = h.1 q := fun q hq => (am_ne e16 q (by omega)).trans (l14 q hq)
  refine q_blk (lv2 := [(0, vr a)]) (st2 := [vi 20, vr a]) kX0_init_20 rfl ?_
  refine q_na (k := 100) 20 rfl e16t eX0_init_23 (Or.inl ⟨rfl, rfl⟩) (am_gw 120 (by decide +kernel) (by decide +kernel)) (by decide) (by decide) (fun h21 e22c e22f e22z => ?_)
  have k23 := (e22f a (by omega)).trans k17
  have k24 := (e22f (a + 1) (by omega)).trans k18
  have k25 := (e22f (a + 2) (by omega)).trans k19
  have l26 : ∀ q, q < a → h21.1 q = h.1 q := fun q hq => (e22f q (by omega)).trans (l20 q hq)
  have e22t : h21.2.1 = (a + 4) := by rw [e22z]
  have e22s : gm_sl h h21 60 := gm_sl.a (n := 40) (b := 0) e16s e22z rfl
  clear e16t
  refine q_pr eX0_init_25 fl_RX0_18 (fun q hq => by cases hq; exact Or.inr ⟨rfl, rfl, am_gw 125 (by decide +kernel) (by decide +kernel)⟩) (Or.inr ⟨_, rfl⟩) k23 (Nat.le_of_ble_eq_true rfl) (l2 := [some (a + 1), some (a + 2), some (a + 3), none, none, none, none, none, none, none]) rfl (fun h27 e28 => ?_)
  have k29 := am_at e28
  have k30 := (am_ne e28 (a + 1) (by omega)).trans k24
  have k31 := (am_ne e28 (a + 2) (by omega)).trans k25
  have k32 := (am_ne e28 (a + 3) (by omega)).trans e22c
  have e28t : h27.2.1 = (a + 4) := (congrArg Prod.fst (am_z e28)).trans e22t
  clear e22t
  have e28s : gm_sl h h27 60 := gm_sl.s e22s (am_z e28)
  have l33 : ∀ q, q < a → h27.1 q = h.1 q := fun q hq => (am_ne e28 q (by omega)).trans (l26 q hq)
  refine q_blk (lv2 := [(0, vr a)]) (st2 := [vi 20, vr a]) kX0_init_28 rfl ?_
  refine q_na (k := 100) 20 rfl e28t eX0_init_31 (Or.inl ⟨rfl, rfl⟩) (am_gw 120 (by decide +kernel) (by decide +kernel)) (by decide) (by decide) (fun h34 e35c e35f e35z => ?_)
  have k36 := (e35f a (by omega)).trans k29
  have k37 := (e35f (a + 1) (by omega)).trans k30
  have k38 := (e35f (a + 2) (by omega)).trans k31
  have k39 := (e35f (a + 3) (by omega)).trans k32
  have l40 : ∀ q, q < a → h34.1 q = h.1 q := fun q hq => (e35f q (by omega)).trans (l33 q hq)
  have e35t : h34.2.1 = (a + 5) := by rw [e35z]
  have e35s : gm_sl h h34 80 := gm_sl.a (n := 60) (b := 0) e28s e35z rfl
  clear e28t
  refine q_pr eX0_init_33 fl_RX0_21 (fun q hq => by cases hq; exact Or.inr ⟨rfl, rfl, am_gw 126 (by decide +kernel) (by decide +kernel)⟩) (Or.inr ⟨_, rfl⟩) k36 (Nat.le_of_ble_eq_true rfl) (l2 := [some (a + 1), some (a + 2), some (a + 3), some (a + 4), none, none, none, none, none, none]) rfl (fun h41 e42 => ?_)
  have k43 := am_at e42
  have k44 := (am_ne e42 (a + 1) (by omega)).trans k37
  have k45 := (am_ne e42 (a + 2) (by omega)).trans k38
  have k46 := (am_ne e42 (a + 3) (by omega)).trans k39
  have k47 := (am_ne e42 (a + 4) (by omega)).trans e35c
  have e42t : h41.2.1 = (a + 5) := (congrArg Prod.fst (am_z e42)).trans e35t
  clear e35t
  have e42s : gm_sl h h41 80 := gm_sl.s e35s (am_z e42)
  have l48 : ∀ q, q < a → h41.1 q = h.1 q := fun q hq => (am_ne e42 q (by omega)).trans (l40 q hq)
  refine q_blk (lv2 := [(0, vr a)]) (st2 := [vi 6, vr a]) kX0_init_36 rfl ?_
  refine q_nr (k := 104) 6 rfl e42t eX0_init_39 (Or.inr ⟨rfl, rfl⟩) (am_gw 85 (by decide +kernel) (by decide +kernel)) (by decide) (by decide) (fun h49 e50c e50f e50z => ?_)
  have k51 := (e50f a (by omega)).trans k43
  have k52 := (e50f (a + 1) (by omega)).trans k44
  have k53 := (e50f (a + 2) (by omega)).trans k45
  have k54 := (e50f (a + 3) (by omega)).trans k46
  have k55 := (e50f (a + 4) (by omega)).trans k47
  have l56 : ∀ q, q < a → h49.1 q = h.1 q := fun q hq => (e50f q (by omega)).trans (l48 q hq)
  have e50t : h49.2.1 = (a + 6) := by rw [e50z]
  have e50s : gm_sl h h49 86 := gm_sl.a (n := 80) (b := 0) e42s e50z rfl
  clear e42t
  refine q_pr eX0_init_42 fl_RX0_26 (fun q hq => by cases hq; exact Or.inr ⟨rfl, rfl, am_gw 127 (by decide +kernel) (by decide +kernel)⟩) (Or.inr ⟨_, rfl⟩) k51 (Nat.le_of_ble_eq_true rfl) (l2 := [some (a + 1), some (a + 2), some (a + 3), some (a + 4), some (a + 5), none, none, none, none, none]) rfl (fun h57 e58 => ?_)
  have k59 := am_at e58
  have k60 := (am_ne e58 (a + 1) (by omega)).trans k52
  have k61 := (am_ne e58 (a + 2) (by omega)).trans k53
  have k62 := (am_ne e58 (a + 3) (by omega)).trans k54
  have k63 := (am_ne e58 (a + 4) (by omega)).trans k55
  have k64 := (am_ne e58 (a + 5) (by omega)).trans e50c
  have e58t : h57.2.1 = (a + 6) := (congrArg Prod.fst (am_z e58)).trans e50t
  clear e50t
  have e58s : gm_sl h h57 86 := gm_sl.s e50s (am_z e58)
  have l65 : ∀ q, q < a → h57.1 q = h.1 q := fun q hq => (am_ne e58 q (by omega)).trans (l56 q hq)
  refine q_blk (lv2 := [(0, vr a), (1, vi 0)]) (st2 := []) kX0_init_45 rfl ?_
  have hI0 : BIK h h57 a 0 := ⟨⟨by decide, by decide⟩, k59, k60, k61, k62, k63, by rw [am_shk_0]; exact k64, e58t, e58s, fun p p0 p1 => by omega, l65⟩
  refine am_lp2 (I := fun (k : Int) (hh : AH) => BIK h hh a k) (μ := fun k hh => (6 - k).toNat) (G := fun k hh => AQ w m_X0_init 4 47 [(0, vr a), (1, vi k)] [] hh (am_unit (fun h1 => (BD h1 a (gm_emp 2 2) am_Z (w.2 100)) ∧ h1.2 = (a + 24, h.2.2 + 260) ∧ ∀ q, q < a → h1.1 q = h.1 q))) ?_ 0 h57 hI0
  clear hI0
  intro k hh hI ih
  obtain ⟨⟨k0, k1⟩, c0, c1, c2, c3, c4, c5, cz, cs, cp, cl⟩ := id hI
  clear e58t
  refine q_blk (lv2 := [(0, vr a), (1, vi k)]) (st2 := [vi 6, vi k]) kX0_init_47 rfl ?_
  refine AQ.ic_ge (tgt := 72) eX0_init_50 (by decide) ⟨by omega, by omega⟩ ⟨by decide, by decide⟩ (fun br1 => ?_) (fun br1 => ?_)
  · obtain rfl : k = 6 := by omega
    have cz9 : hh.2.1 = a + 24 := cz
    have cs9 : gm_sl h hh 260 := cs
    refine q_blk (lv2 := [(0, vr a), (1, vi 6)]) (st2 := [vi 2, vr a]) kX0_init_72 rfl ?_
    refine q_pi eX0_init_74 fl_RX0_31 (fun q hq => by cases hq; exact Or.inl rfl) (Or.inl rfl) c0 (Nat.le_of_ble_eq_true rfl) (l2 := [0, 0, 0, 0, 0, 2, 0, 0, 0, 0]) rfl (fun h66 e67 => ?_)
    have k68 := am_at e67
    have k69 := (am_ne e67 (a + 1) (by omega)).trans c1
    have k70 := (am_ne e67 (a + 2) (by omega)).trans c2
    have k71 := (am_ne e67 (a + 3) (by omega)).trans c3
    have k72 := (am_ne e67 (a + 4) (by omega)).trans c4
    have k73 := (am_ne e67 (a + 5) (by omega)).trans c5
    have e67t : h66.2.1 = (a + 24) := (congrArg Prod.fst (am_z e67)).trans cz9
    clear cz9
    have e67s : gm_sl h h66 260 := gm_sl.s cs9 (am_z e67)
    have l74 : ∀ q, q < a → h66.1 q = h.1 q := fun q hq => (am_ne e67 q (by omega)).trans (cl q hq)
    refine q_blk (lv2 := [(0, vr a), (1, vi 6)]) (st2 := [vi 2, vr a]) kX0_init_77 rfl ?_
    refine q_pi eX0_init_79 fl_RX0_35 (fun q hq => by cases hq; exact Or.inl rfl) (Or.inl rfl) k68 (Nat.le_of_ble_eq_true rfl) (l2 := [0, 0, 0, 0, 0, 2, 2, 0, 0, 0]) rfl (fun h75 e76 => ?_)
    have k77 := am_at e76
    have k78 := (am_ne e76 (a + 1) (by omega)).trans k69
    have k79 := (am_ne e76 (a + 2) (by omega)).trans k70
    have k80 := (am_ne e76 (a + 3) (by omega)).trans k71
    have k81 := (am_ne e76 (a + 4) (by omega)).trans k72
    have k82 := (am_ne e76 (a + 5) (by omega)).trans k73
    have e76t : h75.2.1 = (a + 24) := (congrArg Prod.fst (am_z e76)).trans e67t
    clear e67t
    have e76s : gm_sl h h75 260 := gm_sl.s e67s (am_z e76)
    have l83 : ∀ q, q < a → h75.1 q = h.1 q := fun q hq => (am_ne e76 q (by omega)).trans (l74 q hq)
    refine q_blk (lv2 := [(0, vr a), (1, vi 6)]) (st2 := [vi 0, vr a]) kX0_init_82 rfl ?_
    refine q_pi eX0_init_84 fl_RX0_38 (fun q hq => by cases hq; exact Or.inl rfl) (Or.inl rfl) k77 (Nat.le_of_ble_eq_true rfl) (l2 := [0, 0, 0, 0, 0, 2, 2, 0, 0, 0]) rfl (fun h84 e85 => ?_)
    have k86 := am_at e85
    have k87 := (am_ne e85 (a + 1) (by omega)).trans k78
    have k88 := (am_ne e85 (a + 2) (by omega)).trans k79
    have k89 := (am_ne e85 (a + 3) (by omega)).trans k80
    have k90 := (am_ne e85 (a + 4) (by omega)).trans k81
    have k91 := (am_ne e85 (a + 5) (by omega)).trans k82
    have e85t : h84.2.1 = (a + 24) := (congrArg Prod.fst (am_z e85)).trans e76t
    clear e76t
    have e85s : gm_sl h h84 260 := gm_sl.s e76s (am_z e85)
    have l92 : ∀ q, q < a → h84.1 q = h.1 q := fun q hq => (am_ne e85 q (by omega)).trans (l83 q hq)
    refine q_blk (lv2 := [(0, vr a), (1, vi 6)]) (st2 := [vi 0, vr a]) kX0_init_87 rfl ?_
    refine q_pi eX0_init_89 fl_RX0_41 (fun q hq => by cases hq; exact Or.inl rfl) (Or.inl rfl) k86 (Nat.le_of_ble_eq_true rfl) (l2 := [0, 0, 0, 0, 0, 2, 2, 0, 0, 0]) rfl (fun h93 e94 => ?_)
    have k95 := am_at e94
    have k96 := (am_ne e94 (a + 1) (by omega)).trans k87
    have k97 := (am_ne e94 (a + 2) (by omega)).trans k88
    have k98 := (am_ne e94 (a + 3) (by omega)).trans k89
    have k99 := (am_ne e94 (a + 4) (by omega)).trans k90
    have k100 := (am_ne e94 (a + 5) (by omega)).trans k91
    have e94t : h93.2.1 = (a + 24) := (congrArg Prod.fst (am_z e94)).trans e85t
    clear e85t
    have e94s : gm_sl h h93 260 := gm_sl.s e85s (am_z e94)
    have l101 : ∀ q, q < a → h93.1 q = h.1 q := fun q hq => (am_ne e94 q (by omega)).trans (l92 q hq)
    refine q_blk (lv2 := [(0, vr a), (1, vi 6)]) (st2 := [vr a]) kX0_init_92 rfl ?_
    refine AQ.of (AS.getPS eX0_init_93 (Or.inr ⟨"CornerClaims", am_nw 121 (by decide +kernel) (by decide +kernel)⟩)) ?_
    refine q_pr eX0_init_96 fl_RX0_47 (fun q hq => by cases hq; exact Or.inl rfl) (Or.inr ⟨_, rfl⟩) k95 (Nat.le_of_ble_eq_true rfl) (l2 := [some (a + 1), some (a + 2), some (a + 3), some (a + 4), some (a + 5), none, none, none, none, some (w.2 100)]) rfl (fun h102 e103 => ?_)
    have k104 := am_at e103
    have k105 := (am_ne e103 (a + 1) (by omega)).trans k96
    have k106 := (am_ne e103 (a + 2) (by omega)).trans k97
    have k107 := (am_ne e103 (a + 3) (by omega)).trans k98
    have k108 := (am_ne e103 (a + 4) (by omega)).trans k99
    have k109 := (am_ne e103 (a + 5) (by omega)).trans k100
    have e103t : h102.2.1 = (a + 24) := (congrArg Prod.fst (am_z e103)).trans e94t
    clear e94t
    have e103s : gm_sl h h102 260 := gm_sl.s e94s (am_z e103)
    have l110 : ∀ q, q < a → h102.1 q = h.1 q := fun q hq => (am_ne e103 q (by omega)).trans (l101 q hq)
    exact q_rv rfl eX0_init_99 ⟨rfl, ⟨⟨am_Z, am_Z, am_Z, ⟨k104, k105, k106, k107, k108, (by have q := k109; rw [show am_Z = am_L [] from (am_L_z 0).symm] at q; exact q)⟩, fun k k0 k1 => absurd k1 (by show ¬ k < 0; omega)⟩, fun p p0 p1 => by
      obtain ⟨fx, fy, q⟩ := cp p p0 p1
      exact ⟨0, 0, 0, fx, fy, q.kept (lo := a) (hi := a + 1) (am_fr.tr (am_fr.tr (am_fr.tr (am_fr.tr (am_fr.st e67 (by omega) (by omega)) (am_fr.st e76 (by omega) (by omega))) (am_fr.st e85 (by omega) (by omega))) (am_fr.st e94 (by omega) (by omega))) (am_fr.st e103 (by omega) (by omega))) (by omega)⟩, fun p p0 p1 => absurd p1 (by show ¬ p < 0; omega)⟩, Prod.ext e103t e103s, l110⟩
  · refine q_blk (lv2 := [(0, vr a), (1, vi k)]) (st2 := [vr a]) kX0_init_53 rfl ?_
    refine q_gr eX0_init_54 fl_RX0_26 (Or.inr ⟨_, rfl⟩) c0 rfl ?_
    refine q_blk (lv2 := [(0, vr a), (1, vi k)]) (st2 := [vi k, vr (a + 5)]) kX0_init_57 rfl ?_
    refine q_no (ci := 6) cz eX0_init_58 rfl (am_gw 85 (by decide +kernel) (by decide +kernel)) (am_gw 87 (by decide +kernel) (by decide +kernel)) in_RX7 (fun h1 e1c e1f e1z => ?_)
    refine q_blk (lv2 := [(0, vr a), (1, vi k)]) (st2 := [vr (a + 6 + 3 * k.toNat), vr (a + 6 + 3 * k.toNat), vi k, vr (a + 5)]) kX0_init_61 rfl ?_
    refine AQ.callIv (av := []) (st := [vr (a + 6 + 3 * k.toNat), vi k, vr (a + 5)]) (c_X7_init e1c (by rw [e1z])) lk_RX0_30 (by decide) rfl rfl (Nat.le_of_ble_eq_true rfl) eX0_init_62 (fun h2 e2 => ?_)
    obtain ⟨p2, z2, f2⟩ := e2
    obtain ⟨fx2, fy2, q2⟩ := id p2
    refine q_as eX0_init_65 (Or.inr (Or.inl ⟨rfl, rfl⟩)) ((f2 (a + 5) (by omega)).trans ((e1f (a + 5) (by omega)).trans c5)) (by omega) (by omega) q2.1 (fun h3 e3 => ?_)
    refine q_blk (lv2 := [(0, vr a), (1, vi (k + 1))]) (st2 := []) kX0_init_66 rfl ?_
    refine q_goto (tgt := 47) eX0_init_69 (by decide) ?_
    exact ih (k + 1) h3 (BIK.step hI (by omega) rfl e1f e1z p2 z2 f2 e3) (by omega)

def am_hbk (a : Nat) (k : Int) (i : Int) : Option Nat := if 0 ≤ i ∧ i < k then some (a + 2 + 24 * i.toNat) else none
theorem am_hbk_0 {a : Nat} : am_hbk a 0 = am_N := by funext i; exact if_neg (by omega)
theorem am_hbk_s {a : Nat} {k : Int} (k0 : 0 ≤ k) {T : Nat} (hT : T = a + 2 + 24 * k.toNat) : am_uR (am_hbk a k) k (some T) = am_hbk a (k + 1) := by
  funext i
  unfold am_uR am_hbk
  by_cases c : i = k
  · subst c; rw [if_pos rfl, if_pos (by omega), hT]
  · rw [if_neg c]
    by_cases c2 : 0 ≤ i ∧ i < k
    · rw [if_pos c2, if_pos (by omega)]
    · rw [if_neg c2, if_neg (by omega)]
theorem BA.loc2 {h h1 : AH} {b : Nat} (hB : BA h b) (f : ∀ q, b ≤ q → q < b + 24 → h1.1 q = h.1 q) : BA h1 b := hB.loc f
/-- the history while its boards are made -/
def HIK (h hh : AH) (a : Nat) (k : Int) : Prop := (0 ≤ k ∧ k ≤ 8) ∧ hh.1 a = some (1, 3, am_L [0, 0, 0], am_G [some (a + 1), none, none]) ∧ hh.1 (a + 1) = some (103, 8, am_Z, am_hbk a k) ∧ hh.2.1 = a + 2 + 24 * k.toNat ∧ gm_sl h hh (8 + 270 * k.toNat) ∧ (∀ p : Int, 0 ≤ p → p < k → BA hh (a + 2 + 24 * p.toNat)) ∧ ∀ q, q < a → hh.1 q = h.1 q
theorem HIK.step {h hh h1 h2 h3 : AH} {a : Nat} {k : Int} (I : HIK h hh a k) (hk : k < 8) {T : Nat} (hT : T = a + 2 + 24 * k.toNat) (f1 : ∀ z, z ≠ T → h1.1 z = hh.1 z) (z1 : h1.2 = (T + 1, hh.2.2 + 10)) (p2 : BA h2 T) (z2 : h2.2 = (T + 24, h1.2.2 + 260)) (f2 : ∀ q, q < T → h2.1 q = h1.1 q)
    (e3 : h3 = am_set h2 (a + 1) (103, 8, am_Z, am_uR (am_hbk a k) k (some T))) : HIK h h3 a (k + 1) := by
  obtain ⟨⟨k0, k1⟩, c0, c1, cz, cs, cp, cl⟩ := I
  have z3 := am_z e3
  have K : ∀ q, q < T → q ≠ a + 1 → h3.1 q = hh.1 q := fun q q0 q1 => (am_ne e3 q q1).trans ((f2 q q0).trans (f1 q (by omega)))
  refine ⟨⟨by omega, by omega⟩, (K _ (by omega) (by omega)).trans c0, (am_at e3).trans (by rw [am_hbk_s k0 hT]), ?_, ?_, fun p p0 p1 => ?_, fun q q0 => (K q (by omega) (by omega)).trans (cl q q0)⟩
  · rw [z3, z2]; show T + 24 = _; omega
  · unfold gm_sl at cs ⊢
    rw [z3, z2, z1]
    show hh.2.2 + 10 + 260 = _
    omega
  · by_cases c : p = k
    · subst c
      rw [← hT]
      exact p2.loc (fun q q0 q1 => am_ne e3 q (by omega))
    · exact (cp p p0 (by omega)).loc (fun q q0 q1 => K q (by omega) (by omega))

set_option maxHeartbeats 2000000 in
theorem c_X2_init {w : am_w} {h : AH} {a : Nat} (hc : h.1 a = some (1, 3, am_L (List.replicate 3 0), am_G (List.replicate 3 none))) (ht : h.2.1 = a + 1)  : AE w m_X2_init 6 [vr a] h (am_unit (fun h1 => (HL h1 a []) ∧ h1.2 = (a + 194, h.2.2 + 2168) ∧ ∀ q, q < a → h1.1 q = h.1 q)) := by
  refine AE.of wf_X2_init (Nat.le_of_ble_eq_true rfl) (am_ok_v) ?_
  refine q_blk (lv2 := [(0, vr a)]) (st2 := [vr a]) kX2_init_0 rfl ?_
  refine AQ.of (AS.objInit eX2_init_1 (am_gw 289 (by decide +kernel) (by decide +kernel)) (am_gw 77 (by decide +kernel) (by decide +kernel)) (am_gw 78 (by decide +kernel) (by decide +kernel)) (by decide) (Nat.le_of_ble_eq_true rfl)) ?_
  refine q_blk (lv2 := [(0, vr a)]) (st2 := [vi 8, vr a]) kX2_init_4 rfl ?_
  refine q_nr (k := 103) 8 rfl ht eX2_init_7 (Or.inl ⟨rfl, rfl⟩) (am_gw 290 (by decide +kernel) (by decide +kernel)) (by decide) (by decide) (fun h1 e2c e2f e2z => ?_)
  have k3 := (e2f a (by omega)).trans hc
  have l4 : ∀ q, q < a → h1.1 q = h.1 q := fun q hq => (e2f q (by omega)).trans ((fun _ _ => rfl) q hq)
  have e2t : h1.2.1 = (a + 2) := by rw [e2z]
  have e2s : gm_sl h h1 8 := gm_sl.a (n := 0) (b := 0) (gm_sl.z rfl) e2z rfl
  refine q_pr eX2_init_10 fl_RX2_11 (fun q hq => by cases hq; exact Or.inr ⟨rfl, rfl, am_gw 293 (by decide +kernel) (by decide +kernel)⟩) (Or.inr ⟨_, rfl⟩) k3 (Nat.le_of_ble_eq_true rfl) (l2 := [some (a + 1), none, none]) rfl (fun h5 e6 => ?_)
  have k7 := am_at e6
  have k8 := (am_ne e6 (a + 1) (by omega)).trans e2c
  have e6t : h5.2.1 = (a + 2) := (congrArg Prod.fst (am_z e6)).trans e2t
  clear e2t
  have e6s : gm_sl h h5 8 := gm_sl.s e2s (am_z e6)
  have l9 : ∀ q, q < a → h5.1 q = h.1 q := fun q hq => (am_ne e6 q (by omega)).trans (l4 q hq)
  refine q_blk (lv2 := [(0, vr a)]) (st2 := [vi 0, vr a]) kX2_init_13 rfl ?_
  refine q_pi eX2_init_15 fl_RX2_17 (fun q hq => by cases hq; exact Or.inl rfl) (Or.inl rfl) k7 (Nat.le_of_ble_eq_true rfl) (l2 := [0, 0, 0]) rfl (fun h10 e11 => ?_)
  have k12 := am_at e11
  have k13 := (am_ne e11 (a + 1) (by omega)).trans k8
  have e11t : h10.2.1 = (a + 2) := (congrArg Prod.fst (am_z e11)).trans e6t
  clear e6t
  have e11s : gm_sl h h10 8 := gm_sl.s e6s (am_z e11)
  have l14 : ∀ q, q < a → h10.1 q = h.1 q := fun q hq => (am_ne e11 q (by omega)).trans (l9 q hq)
  refine q_blk (lv2 := [(0, vr a)]) (st2 := [vi 0, vr a]) kX2_init_18 rfl ?_
  refine q_pi eX2_init_20 fl_RX2_21 (fun q hq => by cases hq; exact Or.inl rfl) (Or.inl rfl) k12 (Nat.le_of_ble_eq_true rfl) (l2 := [0, 0, 0]) rfl (fun h15 e16 => ?_)
  have k17 := am_at e16
  have k18 := (am_ne e16 (a + 1) (by omega)).trans k13
  have e16t : h15.2.1 = (a + 2) := (congrArg Prod.fst (am_z e16)).trans e11t
  clear e11t
  have e16s : gm_sl h h15 8 := gm_sl.s e11s (am_z e16)
  have l19 : ∀ q, q < a → h15.1 q = h.1 q := fun q hq => (am_ne e16 q (by omega)).trans (l14 q hq)
  refine q_blk (lv2 := [(0, vr a), (1, vi 0)]) (st2 := []) kX2_init_23 rfl ?_
  have hI0 : HIK h h15 a 0 := ⟨⟨by decide, by decide⟩, k17, by rw [am_hbk_0]; exact k18, e16t, e16s, fun p p0 p1 => by omega, l19⟩
  refine am_lp2 (I := fun (k : Int) (hh : AH) => HIK h hh a k) (μ := fun k hh => (8 - k).toNat) (G := fun k hh => AQ w m_X2_init 6 25 [(0, vr a), (1, vi k)] [] hh (am_unit (fun h1 => (HL h1 a []) ∧ h1.2 = (a + 194, h.2.2 + 2168) ∧ ∀ q, q < a → h1.1 q = h.1 q))) ?_ 0 h15 hI0
  clear hI0
  intro k hh hI ih
  obtain ⟨⟨k0, k1⟩, c0, c1, cz, cs, cp, cl⟩ := id hI
  clear e16t
  refine q_blk (lv2 := [(0, vr a), (1, vi k)]) (st2 := [vi 8, vi k]) kX2_init_25 rfl ?_
  refine AQ.ic_ge (tgt := 50) eX2_init_28 (by decide) ⟨by omega, by omega⟩ ⟨by decide, by decide⟩ (fun br1 => ?_) (fun br1 => ?_)
  · obtain rfl : k = 8 := by omega
    exact q_rv rfl eX2_init_50 ⟨rfl, ⟨0, ⟨by decide, by decide⟩, c0, (by have q := c1; rw [show am_Z = am_L [] from (am_L_z 0).symm] at q; exact q), by decide, cp, fun k e q => by simp at q⟩, Prod.ext cz cs, cl⟩
  · refine q_blk (lv2 := [(0, vr a), (1, vi k)]) (st2 := [vr a]) kX2_init_31 rfl ?_
    refine q_gr eX2_init_32 fl_RX2_11 (Or.inr ⟨_, rfl⟩) c0 rfl ?_
    refine q_blk (lv2 := [(0, vr a), (1, vi k)]) (st2 := [vi k, vr (a + 1)]) kX2_init_35 rfl ?_
    refine q_no (ci := 0) cz eX2_init_36 rfl (am_gw 290 (by decide +kernel) (by decide +kernel)) (am_gw 80 (by decide +kernel) (by decide +kernel)) in_RX0 (fun h1 e1c e1f e1z => ?_)
    refine q_blk (lv2 := [(0, vr a), (1, vi k)]) (st2 := [vr (a + 2 + 24 * k.toNat), vr (a + 2 + 24 * k.toNat), vi k, vr (a + 1)]) kX2_init_39 rfl ?_
    refine AQ.callIv (av := []) (st := [vr (a + 2 + 24 * k.toNat), vi k, vr (a + 1)]) (c_X0_init e1c (by rw [e1z])) lk_RX2_24 (by decide) rfl rfl (Nat.le_of_ble_eq_true rfl) eX2_init_40 (fun h2 e2 => ?_)
    obtain ⟨p2, z2, f2⟩ := e2
    obtain ⟨⟨sx9, sy9, sv9, q2, -⟩, -, -⟩ := id p2
    refine q_as eX2_init_43 (Or.inl ⟨rfl, rfl⟩) ((f2 (a + 1) (by omega)).trans ((e1f (a + 1) (by omega)).trans c1)) (by omega) (by omega) q2.1 (fun h3 e3 => ?_)
    refine q_blk (lv2 := [(0, vr a), (1, vi (k + 1))]) (st2 := []) kX2_init_44 rfl ?_
    refine q_goto (tgt := 25) eX2_init_47 (by decide) ?_
    exact ih (k + 1) h3 (HIK.step hI (by omega) rfl e1f e1z p2.ba z2 f2 e3) (by omega)
