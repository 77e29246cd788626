/-! The law's objects are made. -/
/-- what a call may change and make -/
def KF (h h1 : AH) (P : Nat → Prop) (c s : Nat) : Prop := (∀ q, q < h.2.1 → ¬ P q → h1.1 q = h.1 q) ∧ (h.2.1 ≤ h1.2.1 ∧ h1.2.1 ≤ h.2.1 + c) ∧ h.2.2 ≤ h1.2.2 ∧ h1.2.2 ≤ h.2.2 + s
theorem KF.rf {h : AH} {P : Nat → Prop} : KF h h P 0 0 := ⟨fun _ _ _ => rfl, ⟨Nat.le_refl _, Nat.le_refl _⟩, Nat.le_refl _, Nat.le_refl _⟩
theorem KF.tr {h h1 h2 : AH} {P P' : Nat → Prop} {c s c' s' : Nat} (a : KF h h1 P c s) (b : KF h1 h2 P' c' s') (hp : ∀ q, q < h.2.1 → P' q → P q) : KF h h2 P (c + c') (s + s') := by
  obtain ⟨a1, ⟨a2, a3⟩, a4, a5⟩ := a
  obtain ⟨b1, ⟨b2, b3⟩, b4, b5⟩ := b
  exact ⟨fun q q0 q1 => (b1 q (by omega) (fun x => q1 (hp q q0 x))).trans (a1 q q0 q1), ⟨by omega, by omega⟩, by omega, by omega⟩
theorem KF.up {h h1 : AH} {P P' : Nat → Prop} {c s c' s' : Nat} (a : KF h h1 P c s) (hp : ∀ q, q < h.2.1 → P q → P' q) (hc : c ≤ c') (hs : s ≤ s') : KF h h1 P' c' s' := by
  obtain ⟨a1, ⟨a2, a3⟩, a4, a5⟩ := a
  exact ⟨fun q q0 q1 => a1 q q0 fun x => q1 (hp q q0 x), ⟨a2, by omega⟩, a4, by omega⟩
/-- no old one -/
def NO (_ : Nat) : Prop := False
theorem am_ok_rA {P : Nat → AH → Prop} {C : FieldType} : ∀ v h', am_ref P (.inl v) h' → am_okr (some (.array C)) v := fun v h' ⟨z, e, _⟩ => by cases e; exact ⟨z, rfl⟩
section CTORS2
theorem q_rA {w : am_w} {y : YR} {d pc : Nat} {lv : List (Nat × AV)} {h : AH} {Q : RV → AH → Prop} {q : Nat} {C : FieldType} (hr : y.2.2.2.1 = some (.array C)) (hd : decode y.2.1 pc = .ok (.areturn, 1)) (hq : Q (.inl (some (vr q))) h) : AQ w y d pc lv [vr q] h Q := AQ.ret (v := some (vr q)) (by rw [hr]; exact hd) (by rw [hr]; exact ⟨q, rfl⟩) hq
variable {w : am_w} {y : YR} {d pc : Nat} {lv : List (Nat × AV)} {st : List AV} {h : AH} {Q : RV → AH → Prop} {a : Nat}
theorem q_nR {k idx n0 : Nat} {n : Int} {C : String} (N : Nat) (hN : n.toNat = N) (ha : h.2.1 = n0) (hd : decode y.2.1 pc = .ok (.anewarray idx, 3)) (hk : (k = 103 ∧ C = "CornerClaims$Board") ∨ (k = 104 ∧ C = "CornerClaims$Shape") ∨ (k = 106 ∧ C = "CornerClaimsLaw$Shape") ∨ (k = 107 ∧ C = "CornerClaimsLaw$Field")) (hw : Cond.classLink y.1.cls idx C ∈ GW) (h0 : 0 ≤ n) (h1 : n ≤ 1000000)
    (kk : ∀ h2 : AH, h2.1 n0 = some (k, n, am_Z, am_N) → (∀ z, z ≠ n0 → h2.1 z = h.1 z) → h2.2 = (n0 + 1, h.2.2 + N) → AQ w y d (pc + 3) lv (vr n0 :: st) h2 Q) : AQ w y d pc lv (vi n :: st) h Q := by
  subst ha
  subst hN
  exact AQ.of (AS.newR hd hk hw h0 h1) (kk _ (am_new_at h _ _) (fun z hz => am_new_ne _ _ hz) rfl)
theorem q_nA {idx n0 : Nat} {n : Int} (N : Nat) (hN : n.toNat = N) (ha : h.2.1 = n0) (hd : decode y.2.1 pc = .ok (.anewarray idx, 3)) (hw : Cond.classLink y.1.cls idx "[I" ∈ GW) (h0 : 0 ≤ n) (h1 : n ≤ 1000000)
    (kk : ∀ h2 : AH, h2.1 n0 = some (105, n, am_Z, am_N) → (∀ z, z ≠ n0 → h2.1 z = h.1 z) → h2.2 = (n0 + 1, h.2.2 + N) → AQ w y d (pc + 3) lv (vr n0 :: st) h2 Q) : AQ w y d pc lv (vi n :: st) h Q := by
  subst ha
  subst hN
  exact AQ.of (AS.newAA hd hw h0 h1) (kk _ (am_new_at h _ _) (fun z hz => am_new_ne _ _ hz) rfl)
theorem q_gn {ci k : Nat} {nn : Int} {f : Int → Int} {g : Int → Option Nat} {r : Option Nat} {idx : Nat} (hd : decode y.2.1 pc = .ok (.getfield idx, 3)) (hf : am_fl y.1.cls idx ci k) (hty : (∃ z, am_fty ci k = .object z) ∨ ∃ z, am_fty ci k = .array z) (hc : h.1 a = some (ci, nn, f, g)) (hg : g k = r) (kk : AQ w y d (pc + 3) lv (vn r :: st) h Q) : AQ w y d pc lv (vr a :: st) h Q := AQ.of (AS.getRN hd hf hty hc) (hg.symm ▸ kk)
theorem q_pn {ci k : Nat} {nn : Int} {f : Int → Int} {l l2 : List (Option Nat)} {r : Option Nat} {idx : Nat} (hd : decode y.2.1 pc = .ok (.putfield idx, 3)) (hf : am_fl y.1.cls idx ci k) (hfw : am_fw y idx ci k) (hty : (∃ z, am_fty ci k = .object z) ∨ ∃ z, am_fty ci k = .array z) (hc : h.1 a = some (ci, nn, f, am_G l)) (hk : k < l.length) (hl : l.set k r = l2) (kk : ∀ h2 : AH, h2 = am_set h a (ci, nn, f, am_G l2) → AQ w y d (pc + 3) lv st h2 Q) : AQ w y d pc lv (vn r :: vr a :: st) h Q := by
  refine AQ.of (AS.putRN hd hf hfw hty hc) ?_
  rw [am_uR_G hk, hl]
  exact kk _ rfl
end CTORS2

set_option maxRecDepth 4000 in
set_option maxHeartbeats 1000000 in
theorem c_X12_init {w : am_w} {h : AH} {a : Nat} (hc : h.1 a = some (11, 3, am_L (List.replicate 3 0), am_G (List.replicate 3 none))) (hl : a < h.2.1)  : AE w m_X12_init 2 [vr a] h (am_unit (fun h1 => (∃ t cf, (h.2.1 ≤ t ∧ t < h1.2.1) ∧ h1.1 a = some (11, 3, am_L [0, 0, 0], am_G [none, none, some t]) ∧ h1.1 t = some (100, 0, cf, am_N)) ∧ KF h h1 (fun q => q = a) 1 0)) := by
  refine AE.of wf_X12_init (Nat.le_of_ble_eq_true rfl) (am_ok_v) ?_
  refine q_blk (lv2 := [(0, vr a)]) (st2 := [vr a]) kX12_init_0 rfl ?_
  refine AQ.of (AS.objInit eX12_init_1 (am_gw 507 (by decide +kernel) (by decide +kernel)) (am_gw 77 (by decide +kernel) (by decide +kernel)) (am_gw 78 (by decide +kernel) (by decide +kernel)) (by decide) (Nat.le_of_ble_eq_true rfl)) ?_
  refine q_blk (lv2 := [(0, vr a)]) (st2 := [vi 0, vr a]) kX12_init_4 rfl ?_
  obtain ⟨t1, e3t⟩ : ∃ q : Nat, h.2.1 = q := ⟨_, rfl⟩
  refine q_na (k := 100) 0 rfl e3t eX12_init_6 (Or.inl ⟨rfl, rfl⟩) (am_gw 120 (by decide +kernel) (by decide +kernel)) (by omega) (by omega) (fun h2 e3c e3f e3z => ?_)
  have k4 := (e3f a (by omega)).trans hc
  have e3u : h2.2.1 = t1 + 1 := by rw [e3z]
  have e3v : h2.2.2 = h.2.2 + 0 := by rw [e3z]
  have F5 : ∀ q, q < h.2.1 → ¬ (fun q => q = a) q → h2.1 q = h.1 q := fun q q0 q1 => (e3f q (by omega)).trans ((fun _ _ _ => rfl) q q0 q1)
  refine q_pr eX12_init_8 fl_RX12_7 (fun q hq => by cases hq; exact Or.inl rfl) (Or.inr ⟨_, rfl⟩) k4 (Nat.le_of_ble_eq_true rfl) (l2 := [none, none, some t1]) rfl (fun h6 e7 => ?_)
  have k8 := am_at e7
  have k9 := (am_ne e7 t1 (by omega)).trans e3c
  have e7u : h6.2.1 = h2.2.1 := congrArg Prod.fst (am_z e7)
  have e7v : h6.2.2 = h2.2.2 := congrArg Prod.snd (am_z e7)
  have F10 : ∀ q, q < h.2.1 → ¬ (fun q => q = a) q → h6.1 q = h.1 q := fun q q0 q1 => (am_ne e7 q (fun c => q1 c)).trans (F5 q q0 q1)
  exact q_rv rfl eX12_init_11 ⟨rfl, ⟨t1, _, ⟨by omega, by omega⟩, k8, k9⟩, ⟨F10, ⟨by omega, by omega⟩, by omega, by omega⟩⟩

set_option maxRecDepth 4000 in
set_option maxHeartbeats 1000000 in
theorem c_X12_copy {w : am_w} {h : AH} {a ca : Nat} {ow cl : Int} (hc : h.1 a = some (11, 3, am_L [ow, cl, 0], am_G [none, none, some ca])) (hl : a < h.2.1) (hcl : cl = 0 ∨ cl = 1)  : AE w m_X12_copy 3 [vr a] h (am_ref (fun q h1 => (h.2.1 ≤ q ∧ q < h1.2.1) ∧ h1.1 q = some (11, 3, am_L [ow, cl, 0], am_G [none, none, some ca]) ∧ KF h h1 NO 2 3)) := by
  refine AE.of wf_X12_copy (Nat.le_of_ble_eq_true rfl) (am_ok_r) ?_
  obtain ⟨t1, e3t⟩ : ∃ q : Nat, h.2.1 = q := ⟨_, rfl⟩
  refine q_no (ci := 11) e3t eX12_copy_0 rfl (am_gw 502 (by decide +kernel) (by decide +kernel)) (am_gw 503 (by decide +kernel) (by decide +kernel)) in_RX12 (fun h2 e3c e3f e3z => ?_)
  have k4 := (e3f a (by omega)).trans hc
  have e3u : h2.2.1 = t1 + 1 := by rw [e3z]
  have e3v : h2.2.2 = h.2.2 + 3 := by rw [e3z]
  have F5 : ∀ q, q < h.2.1 → ¬ NO q → h2.1 q = h.1 q := fun q q0 q1 => (e3f q (by omega)).trans ((fun _ _ _ => rfl) q q0 q1)
  refine q_blk (lv2 := [(0, vr a)]) (st2 := [vr t1, vr t1]) kX12_copy_3 rfl ?_
  refine AQ.callIv (av := []) (st := [vr t1]) (c_X12_init e3c (by omega)) lk_RX12_13 (by decide) rfl rfl (Nat.le_of_ble_eq_true rfl) eX12_copy_4 (fun h8 e7 => ?_)
  obtain ⟨⟨t9, t9f, ⟨t9a, t9b⟩, t9p, t9q⟩, g10f, ⟨g10a, g10b⟩, g10c, g10d⟩ := e7
  have k11 := (g10f a (by omega) (by show ¬ _ = _; omega)).trans k4
  have F12 : ∀ q, q < h.2.1 → ¬ NO q → h8.1 q = h.1 q := fun q q0 q1 => (g10f q (by omega) (by show ¬ _ = _; omega)).trans (F5 q q0 q1)
  refine q_blk (lv2 := [(0, vr a), (1, vr t1)]) (st2 := [vr a, vr t1]) kX12_copy_7 rfl ?_
  refine q_gi eX12_copy_10 fl_RX12_14 (Or.inl rfl) k11 (z := ow) rfl ?_
  refine q_pi eX12_copy_13 fl_RX12_14 (fun q hq => by cases hq; exact Or.inl rfl) (Or.inl rfl) t9p (Nat.le_of_ble_eq_true rfl) (l2 := [ow, 0, 0]) rfl (fun h13 e14 => ?_)
  have k15 := (am_ne e14 a (by omega)).trans k11
  have k16 := am_at e14
  have k17 := (am_ne e14 t9 (by omega)).trans t9q
  have e14u : h13.2.1 = h8.2.1 := congrArg Prod.fst (am_z e14)
  have e14v : h13.2.2 = h8.2.2 := congrArg Prod.snd (am_z e14)
  have F18 : ∀ q, q < h.2.1 → ¬ NO q → h13.1 q = h.1 q := fun q q0 q1 => (am_ne e14 q (by omega)).trans (F12 q q0 q1)
  refine q_blk (lv2 := [(0, vr a), (1, vr t1)]) (st2 := [vr a, vr t1]) kX12_copy_16 rfl ?_
  refine q_gi eX12_copy_18 fl_RX12_18 (Or.inr rfl) k15 (z := cl) rfl ?_
  refine q_pi eX12_copy_21 fl_RX12_18 (fun q hq => by cases hq; exact Or.inl rfl) (Or.inr ⟨rfl, by first | decide | omega⟩) k16 (Nat.le_of_ble_eq_true rfl) (l2 := [ow, cl, 0]) rfl (fun h19 e20 => ?_)
  have k21 := (am_ne e20 a (by omega)).trans k15
  have k22 := am_at e20
  have k23 := (am_ne e20 t9 (by omega)).trans k17
  have e20u : h19.2.1 = h13.2.1 := congrArg Prod.fst (am_z e20)
  have e20v : h19.2.2 = h13.2.2 := congrArg Prod.snd (am_z e20)
  have F24 : ∀ q, q < h.2.1 → ¬ NO q → h19.1 q = h.1 q := fun q q0 q1 => (am_ne e20 q (by omega)).trans (F18 q q0 q1)
  refine q_blk (lv2 := [(0, vr a), (1, vr t1)]) (st2 := [vr a, vr t1]) kX12_copy_24 rfl ?_
  refine q_gr eX12_copy_26 fl_RX12_7 (Or.inr ⟨_, rfl⟩) k21 rfl ?_
  refine q_pr eX12_copy_29 fl_RX12_7 (fun q hq => by cases hq; exact Or.inl rfl) (Or.inr ⟨_, rfl⟩) k22 (Nat.le_of_ble_eq_true rfl) (l2 := [none, none, some ca]) rfl (fun h25 e26 => ?_)
  have k27 := (am_ne e26 a (by omega)).trans k21
  have k28 := am_at e26
  have k29 := (am_ne e26 t9 (by omega)).trans k23
  have e26u : h25.2.1 = h19.2.1 := congrArg Prod.fst (am_z e26)
  have e26v : h25.2.2 = h19.2.2 := congrArg Prod.snd (am_z e26)
  have F30 : ∀ q, q < h.2.1 → ¬ NO q → h25.1 q = h.1 q := fun q q0 q1 => (am_ne e26 q (by omega)).trans (F24 q q0 q1)
  refine q_blk (lv2 := [(0, vr a), (1, vr t1)]) (st2 := [vr t1]) kX12_copy_32 rfl ?_
  exact q_ra rfl eX12_copy_33 ⟨t1, rfl, ⟨by omega, by omega⟩, k28, ⟨F30, ⟨by omega, by omega⟩, by omega, by omega⟩⟩

set_option maxRecDepth 4000 in
set_option maxHeartbeats 1000000 in
theorem c_X9_init {w : am_w} {h : AH} {a : Nat} (hc : h.1 a = some (8, 5, am_L (List.replicate 5 0), am_G (List.replicate 5 none))) (hl : a < h.2.1)  : AE w m_X9_init 2 [vr a] h (am_unit (fun h1 => (∃ t t2 cf cf2, (h.2.1 ≤ t ∧ t < h1.2.1) ∧ (h.2.1 ≤ t2 ∧ t2 < h1.2.1) ∧ h1.1 a = some (8, 5, am_L [2, 2, 0, 0, 0], am_G [none, none, some t, some t2, none]) ∧ h1.1 t = some (105, 0, cf, am_N) ∧ h1.1 t2 = some (106, 0, cf2, am_N)) ∧ KF h h1 (fun q => q = a) 2 0)) := by
  refine AE.of wf_X9_init (Nat.le_of_ble_eq_true rfl) (am_ok_v) ?_
  refine q_blk (lv2 := [(0, vr a)]) (st2 := [vr a]) kX9_init_0 rfl ?_
  refine AQ.of (AS.objInit eX9_init_1 (am_gw 466 (by decide +kernel) (by decide +kernel)) (am_gw 77 (by decide +kernel) (by decide +kernel)) (am_gw 78 (by decide +kernel) (by decide +kernel)) (by decide) (Nat.le_of_ble_eq_true rfl)) ?_
  refine q_blk (lv2 := [(0, vr a)]) (st2 := [vi 2, vr a]) kX9_init_4 rfl ?_
  refine q_pi eX9_init_6 fl_RX9_7 (fun q hq => by cases hq; exact Or.inl rfl) (Or.inl rfl) hc (Nat.le_of_ble_eq_true rfl) (l2 := [2, 0, 0, 0, 0]) rfl (fun h1 e2 => ?_)
  have k3 := am_at e2
  have e2u : h1.2.1 = h.2.1 := congrArg Prod.fst (am_z e2)
  have e2v : h1.2.2 = h.2.2 := congrArg Prod.snd (am_z e2)
  have F4 : ∀ q, q < h.2.1 → ¬ (fun q => q = a) q → h1.1 q = h.1 q := fun q q0 q1 => (am_ne e2 q (fun c => q1 c)).trans ((fun _ _ _ => rfl) q q0 q1)
  refine q_blk (lv2 := [(0, vr a)]) (st2 := [vi 2, vr a]) kX9_init_9 rfl ?_
  refine q_pi eX9_init_11 fl_RX9_13 (fun q hq => by cases hq; exact Or.inl rfl) (Or.inl rfl) k3 (Nat.le_of_ble_eq_true rfl) (l2 := [2, 2, 0, 0, 0]) rfl (fun h5 e6 => ?_)
  have k7 := am_at e6
  have e6u : h5.2.1 = h1.2.1 := congrArg Prod.fst (am_z e6)
  have e6v : h5.2.2 = h1.2.2 := congrArg Prod.snd (am_z e6)
  have F8 : ∀ q, q < h.2.1 → ¬ (fun q => q = a) q → h5.1 q = h.1 q := fun q q0 q1 => (am_ne e6 q (fun c => q1 c)).trans (F4 q q0 q1)
  refine q_blk (lv2 := [(0, vr a)]) (st2 := [vi 0, vr a]) kX9_init_14 rfl ?_
  obtain ⟨t9, e11t⟩ : ∃ q : Nat, h5.2.1 = q := ⟨_, rfl⟩
  refine q_nA 0 rfl e11t eX9_init_16 (am_gw 467 (by decide +kernel) (by decide +kernel)) (by omega) (by omega) (fun h10 e11c e11f e11z => ?_)
  have k12 := (e11f a (by omega)).trans k7
  have e11u : h10.2.1 = t9 + 1 := by rw [e11z]
  have e11v : h10.2.2 = h5.2.2 + 0 := by rw [e11z]
  have F13 : ∀ q, q < h.2.1 → ¬ (fun q => q = a) q → h10.1 q = h.1 q := fun q q0 q1 => (e11f q (by omega)).trans (F8 q q0 q1)
  refine q_pr eX9_init_19 fl_RX9_18 (fun q hq => by cases hq; exact Or.inl rfl) (Or.inr ⟨_, rfl⟩) k12 (Nat.le_of_ble_eq_true rfl) (l2 := [none, none, some t9, none, none]) rfl (fun h14 e15 => ?_)
  have k16 := am_at e15
  have k17 := (am_ne e15 t9 (by omega)).trans e11c
  have e15u : h14.2.1 = h10.2.1 := congrArg Prod.fst (am_z e15)
  have e15v : h14.2.2 = h10.2.2 := congrArg Prod.snd (am_z e15)
  have F18 : ∀ q, q < h.2.1 → ¬ (fun q => q = a) q → h14.1 q = h.1 q := fun q q0 q1 => (am_ne e15 q (fun c => q1 c)).trans (F13 q q0 q1)
  refine q_blk (lv2 := [(0, vr a)]) (st2 := [vi 0, vr a]) kX9_init_22 rfl ?_
  obtain ⟨t19, e21t⟩ : ∃ q : Nat, h14.2.1 = q := ⟨_, rfl⟩
  refine q_nR (k := 106) 0 rfl e21t eX9_init_24 (Or.inr (Or.inr (Or.inl ⟨rfl, rfl⟩))) (am_gw 469 (by decide +kernel) (by decide +kernel)) (by omega) (by omega) (fun h20 e21c e21f e21z => ?_)
  have k22 := (e21f a (by omega)).trans k16
  have k23 := (e21f t9 (by omega)).trans k17
  have e21u : h20.2.1 = t19 + 1 := by rw [e21z]
  have e21v : h20.2.2 = h14.2.2 + 0 := by rw [e21z]
  have F24 : ∀ q, q < h.2.1 → ¬ (fun q => q = a) q → h20.1 q = h.1 q := fun q q0 q1 => (e21f q (by omega)).trans (F18 q q0 q1)
  refine q_pr eX9_init_27 fl_RX9_24 (fun q hq => by cases hq; exact Or.inl rfl) (Or.inr ⟨_, rfl⟩) k22 (Nat.le_of_ble_eq_true rfl) (l2 := [none, none, some t9, some t19, none]) rfl (fun h25 e26 => ?_)
  have k27 := am_at e26
  have k28 := (am_ne e26 t9 (by omega)).trans k23
  have k29 := (am_ne e26 t19 (by omega)).trans e21c
  have e26u : h25.2.1 = h20.2.1 := congrArg Prod.fst (am_z e26)
  have e26v : h25.2.2 = h20.2.2 := congrArg Prod.snd (am_z e26)
  have F30 : ∀ q, q < h.2.1 → ¬ (fun q => q = a) q → h25.1 q = h.1 q := fun q q0 q1 => (am_ne e26 q (fun c => q1 c)).trans (F24 q q0 q1)
  exact q_rv rfl eX9_init_30 ⟨rfl, ⟨t9, t19, _, _, ⟨by omega, by omega⟩, ⟨by omega, by omega⟩, k27, k28, k29⟩, ⟨F30, ⟨by omega, by omega⟩, by omega, by omega⟩⟩

set_option maxRecDepth 4000 in
set_option maxHeartbeats 1000000 in
theorem c_L_put_ {w : am_w} {h : AH} {ca : Nat} {n at' v : Int} {cf : Int → Int} (hc : h.1 ca = some (100, n, cf, am_N)) (hl : ca < h.2.1) (n0 : 0 ≤ n ∧ n ≤ 12) (ha : 0 ≤ at' ∧ at' ≤ n) (n1 : n < 12)  : AE w m_L_put_ 2 [vr ca, vi at', vi v] h (am_ref (fun q h1 => (h.2.1 ≤ q ∧ q < h1.2.1) ∧ (∃ c1, h1.1 q = some (100, (n + 1), c1, am_N) ∧ ∀ j, 0 ≤ j → j < (n + 1) → c1 j = gm_in at' v cf j) ∧ KF h h1 NO 1 12)) := by
  refine AE.of wf_L_put_ (Nat.le_of_ble_eq_true rfl) (am_ok_rA) ?_
  refine q_blk (lv2 := [(0, vr ca), (1, vi at'), (2, vi v)]) (st2 := [vr ca]) kL_put__0 rfl ?_
  refine q_al eL_put__1 hc (by decide) ?_
  refine q_blk (lv2 := [(0, vr ca), (1, vi at'), (2, vi v)]) (st2 := [vi (n + 1)]) kL_put__2 rfl ?_
  obtain ⟨t1, e3t⟩ : ∃ q : Nat, h.2.1 = q := ⟨_, rfl⟩
  refine q_na (k := 100) ((n + 1).toNat) rfl e3t eL_put__4 (Or.inl ⟨rfl, rfl⟩) (am_gw 120 (by decide +kernel) (by decide +kernel)) (by omega) (by omega) (fun h2 e3c e3f e3z => ?_)
  have k4 := (e3f ca (by omega)).trans hc
  have e3u : h2.2.1 = t1 + 1 := by rw [e3z]
  have e3v : h2.2.2 = h.2.2 + ((n + 1).toNat) := by rw [e3z]
  have F5 : ∀ q, q < h.2.1 → ¬ NO q → h2.1 q = h.1 q := fun q q0 q1 => (e3f q (by omega)).trans ((fun _ _ _ => rfl) q q0 q1)
  refine q_blk (lv2 := [(0, vr ca), (1, vi at'), (2, vi v), (3, vr t1), (4, vi 0)]) (st2 := []) kL_put__6 rfl ?_
  refine am_lp3 (I := fun (k : Int) (hh : AH) (gk : Int → Int) => (0 ≤ k ∧ k ≤ (n + 1)) ∧ (∀ j, 0 ≤ j → j < k → gk j = gm_in at' v cf j) ∧ hh.1 t1 = some (100, (n + 1), gk, am_N) ∧ t1 < hh.2.1 ∧ KF h hh NO 1 12) (μ := fun (k : Int) (hh : AH) (gk : Int → Int) => ((n + 1) - k).toNat) (G := fun (k : Int) (hh : AH) (gk : Int → Int) => AQ w m_L_put_ 2 10 [(0, vr ca), (1, vi at'), (2, vi v), (3, vr t1), (4, vi k)] [] hh (am_ref (fun q h1 => (h.2.1 ≤ q ∧ q < h1.2.1) ∧ (∃ c1, h1.1 q = some (100, (n + 1), c1, am_N) ∧ ∀ j, 0 ≤ j → j < (n + 1) → c1 j = gm_in at' v cf j) ∧ KF h h1 NO 1 12))) ?_ 0 h2 am_Z (⟨⟨by omega, by omega⟩, fun j j0 j1 => by omega, e3c, by omega, ⟨F5, ⟨by omega, by omega⟩, by omega, by omega⟩⟩)
  intro k hh gk hI7 ih6
  obtain ⟨⟨k0, k1⟩, hg, kt, tt, kfF, ⟨kfa, kfb⟩, kfc, kfd⟩ := hI7
  have ko := (kfF ca hl id).trans hc
  refine q_blk (lv2 := [(0, vr ca), (1, vi at'), (2, vi v), (3, vr t1), (4, vi k)]) (st2 := [vr t1, vi k]) kL_put__10 rfl ?_
  refine q_al eL_put__13 kt (by decide) ?_
  refine AQ.ic_ge (tgt := 56) eL_put__14 (by decide) (by first | assumption | exact ⟨by omega, by omega⟩) (by first | assumption | exact ⟨by omega, by omega⟩) (fun br8 => ?_) (fun br8 => ?_)
  · skip
    refine q_blk (lv2 := [(0, vr ca), (1, vi at'), (2, vi v), (3, vr t1), (4, vi k)]) (st2 := [vr t1]) kL_put__56 rfl ?_
    exact q_rA rfl eL_put__57 ⟨t1, rfl, ⟨by omega, by omega⟩, ⟨gk, kt, fun j j0 j1 => hg j j0 (by omega)⟩, kfF, ⟨kfa, kfb⟩, kfc, kfd⟩
  · skip
    have jn49 : ∀ (u : Int), u = gm_in at' v cf k → AQ w m_L_put_ 2 49 [(0, vr ca), (1, vi at'), (2, vi v), (3, vr t1), (4, vi k)] [vi u, vi k, vr t1] hh (am_ref (fun q h1 => (h.2.1 ≤ q ∧ q < h1.2.1) ∧ (∃ c1, h1.1 q = some (100, (n + 1), c1, am_N) ∧ ∀ j, 0 ≤ j → j < (n + 1) → c1 j = gm_in at' v cf j) ∧ KF h h1 NO 1 12)) := by
      intro u hj
      refine q_is eL_put__49 kt (by omega) (by omega) (fun h9 e10 => ?_)
      have k11 := (am_ne e10 ca (by omega)).trans ko
      have k12 := am_at e10
      have e10u : h9.2.1 = hh.2.1 := congrArg Prod.fst (am_z e10)
      have e10v : h9.2.2 = hh.2.2 := congrArg Prod.snd (am_z e10)
      have F13 : ∀ q, q < h.2.1 → ¬ NO q → h9.1 q = h.1 q := fun q q0 q1 => (am_ne e10 q (by omega)).trans (kfF q q0 q1)
      refine q_blk (lv2 := [(0, vr ca), (1, vi at'), (2, vi v), (3, vr t1), (4, vi (k + 1))]) (st2 := []) kL_put__50 rfl ?_
      refine q_goto (tgt := 10) eL_put__53 (by decide) ?_
      exact ih6 (k + 1) h9 (am_uI gk k u) (⟨⟨by omega, by omega⟩, fun j j0 j1 => (show j = k ∨ j < k by omega).elim (fun e9 => by subst e9; unfold am_uI; rw [if_pos rfl]; exact hj) (fun e9 => by unfold am_uI; rw [if_neg (by omega)]; exact hg j j0 e9), k12, by omega, ⟨F13, ⟨by omega, by omega⟩, by omega, by omega⟩⟩) (by omega)
    refine q_blk (lv2 := [(0, vr ca), (1, vi at'), (2, vi v), (3, vr t1), (4, vi k)]) (st2 := [vi at', vi k, vi k, vr t1]) kL_put__17 rfl ?_
    refine AQ.ic_ge (tgt := 33) eL_put__23 (by decide) (by first | assumption | exact ⟨by omega, by omega⟩) (by first | assumption | exact ⟨by omega, by omega⟩) (fun br14 => ?_) (fun br14 => ?_)
    · skip
      refine q_blk (lv2 := [(0, vr ca), (1, vi at'), (2, vi v), (3, vr t1), (4, vi k)]) (st2 := [vi at', vi k, vi k, vr t1]) kL_put__33 rfl ?_
      refine AQ.ic_ne (tgt := 43) eL_put__36 (by decide) (by first | assumption | exact ⟨by omega, by omega⟩) (by first | assumption | exact ⟨by omega, by omega⟩) (fun br15 => ?_) (fun br15 => ?_)
      · skip
        refine q_blk (lv2 := [(0, vr ca), (1, vi at'), (2, vi v), (3, vr t1), (4, vi k)]) (st2 := [vi (k - 1), vr ca, vi k, vr t1]) kL_put__43 rfl ?_
        refine q_ia eL_put__48 ko (by decide) (by omega) (by omega) (z := (cf (k - 1))) rfl ?_
        exact jn49 (cf (k - 1)) (by unfold gm_in; first | rw [if_pos (by omega)] | (rw [if_neg (by omega)]; first | rw [if_pos (by omega)] | rw [if_neg (by omega)]))
      · skip
        refine q_blk (lv2 := [(0, vr ca), (1, vi at'), (2, vi v), (3, vr t1), (4, vi k)]) (st2 := [vi v, vi k, vr t1]) kL_put__39 rfl ?_
        refine q_goto (tgt := 49) eL_put__40 (by decide) ?_
        exact jn49 v (by unfold gm_in; first | rw [if_pos (by omega)] | (rw [if_neg (by omega)]; first | rw [if_pos (by omega)] | rw [if_neg (by omega)]))
    · skip
      refine q_blk (lv2 := [(0, vr ca), (1, vi at'), (2, vi v), (3, vr t1), (4, vi k)]) (st2 := [vi k, vr ca, vi k, vr t1]) kL_put__26 rfl ?_
      refine q_ia eL_put__29 ko (by decide) (by omega) (by omega) (z := (cf k)) rfl ?_
      refine q_goto (tgt := 49) eL_put__30 (by decide) ?_
      exact jn49 (cf k) (by unfold gm_in; first | rw [if_pos (by omega)] | (rw [if_neg (by omega)]; first | rw [if_pos (by omega)] | rw [if_neg (by omega)]))

set_option maxRecDepth 4000 in
set_option maxHeartbeats 1000000 in
theorem c_L_drop {w : am_w} {h : AH} {ca : Nat} {n at' v : Int} {cf : Int → Int} (hc : h.1 ca = some (100, n, cf, am_N)) (hl : ca < h.2.1) (n0 : 0 ≤ n ∧ n ≤ 12) (ha : 0 ≤ at' ∧ at' < n)  : AE w m_L_drop 2 [vr ca, vi at'] h (am_ref (fun q h1 => (h.2.1 ≤ q ∧ q < h1.2.1) ∧ (∃ c1, h1.1 q = some (100, (n - 1), c1, am_N) ∧ ∀ j, 0 ≤ j → j < (n - 1) → c1 j = gm_ou at' cf j) ∧ KF h h1 NO 1 12)) := by
  refine AE.of wf_L_drop (Nat.le_of_ble_eq_true rfl) (am_ok_rA) ?_
  refine q_blk (lv2 := [(0, vr ca), (1, vi at')]) (st2 := [vr ca]) kL_drop_0 rfl ?_
  refine q_al eL_drop_1 hc (by decide) ?_
  refine q_blk (lv2 := [(0, vr ca), (1, vi at')]) (st2 := [vi (n - 1)]) kL_drop_2 rfl ?_
  obtain ⟨t1, e3t⟩ : ∃ q : Nat, h.2.1 = q := ⟨_, rfl⟩
  refine q_na (k := 100) ((n - 1).toNat) rfl e3t eL_drop_4 (Or.inl ⟨rfl, rfl⟩) (am_gw 120 (by decide +kernel) (by decide +kernel)) (by omega) (by omega) (fun h2 e3c e3f e3z => ?_)
  have k4 := (e3f ca (by omega)).trans hc
  have e3u : h2.2.1 = t1 + 1 := by rw [e3z]
  have e3v : h2.2.2 = h.2.2 + ((n - 1).toNat) := by rw [e3z]
  have F5 : ∀ q, q < h.2.1 → ¬ NO q → h2.1 q = h.1 q := fun q q0 q1 => (e3f q (by omega)).trans ((fun _ _ _ => rfl) q q0 q1)
  refine q_blk (lv2 := [(0, vr ca), (1, vi at'), (2, vr t1), (3, vi 0)]) (st2 := []) kL_drop_6 rfl ?_
  refine am_lp3 (I := fun (k : Int) (hh : AH) (gk : Int → Int) => (0 ≤ k ∧ k ≤ (n - 1)) ∧ (∀ j, 0 ≤ j → j < k → gk j = gm_ou at' cf j) ∧ hh.1 t1 = some (100, (n - 1), gk, am_N) ∧ t1 < hh.2.1 ∧ KF h hh NO 1 12) (μ := fun (k : Int) (hh : AH) (gk : Int → Int) => ((n - 1) - k).toNat) (G := fun (k : Int) (hh : AH) (gk : Int → Int) => AQ w m_L_drop 2 9 [(0, vr ca), (1, vi at'), (2, vr t1), (3, vi k)] [] hh (am_ref (fun q h1 => (h.2.1 ≤ q ∧ q < h1.2.1) ∧ (∃ c1, h1.1 q = some (100, (n - 1), c1, am_N) ∧ ∀ j, 0 ≤ j → j < (n - 1) → c1 j = gm_ou at' cf j) ∧ KF h h1 NO 1 12))) ?_ 0 h2 am_Z (⟨⟨by omega, by omega⟩, fun j j0 j1 => by omega, e3c, by omega, ⟨F5, ⟨by omega, by omega⟩, by omega, by omega⟩⟩)
  intro k hh gk hI7 ih6
  obtain ⟨⟨k0, k1⟩, hg, kt, tt, kfF, ⟨kfa, kfb⟩, kfc, kfd⟩ := hI7
  have ko := (kfF ca hl id).trans hc
  refine q_blk (lv2 := [(0, vr ca), (1, vi at'), (2, vr t1), (3, vi k)]) (st2 := [vr t1, vi k]) kL_drop_9 rfl ?_
  refine q_al eL_drop_11 kt (by decide) ?_
  refine AQ.ic_ge (tgt := 38) eL_drop_12 (by decide) (by first | assumption | exact ⟨by omega, by omega⟩) (by first | assumption | exact ⟨by omega, by omega⟩) (fun br8 => ?_) (fun br8 => ?_)
  · skip
    refine q_blk (lv2 := [(0, vr ca), (1, vi at'), (2, vr t1), (3, vi k)]) (st2 := [vr t1]) kL_drop_38 rfl ?_
    exact q_rA rfl eL_drop_39 ⟨t1, rfl, ⟨by omega, by omega⟩, ⟨gk, kt, fun j j0 j1 => hg j j0 (by omega)⟩, kfF, ⟨kfa, kfb⟩, kfc, kfd⟩
  · skip
    have jn30 : ∀ (u : Int), (u = k ∧ k < at') ∨ (u = k + 1 ∧ at' ≤ k) → AQ w m_L_drop 2 30 [(0, vr ca), (1, vi at'), (2, vr t1), (3, vi k)] [vi u, vr ca, vi k, vr t1] hh (am_ref (fun q h1 => (h.2.1 ≤ q ∧ q < h1.2.1) ∧ (∃ c1, h1.1 q = some (100, (n - 1), c1, am_N) ∧ ∀ j, 0 ≤ j → j < (n - 1) → c1 j = gm_ou at' cf j) ∧ KF h h1 NO 1 12)) := by
      intro u hj
      refine q_ia eL_drop_30 ko (by decide) (by omega) (by omega) (z := (cf u)) rfl ?_
      refine q_is eL_drop_31 kt (by omega) (by omega) (fun h9 e10 => ?_)
      have k11 := (am_ne e10 ca (by omega)).trans ko
      have k12 := am_at e10
      have e10u : h9.2.1 = hh.2.1 := congrArg Prod.fst (am_z e10)
      have e10v : h9.2.2 = hh.2.2 := congrArg Prod.snd (am_z e10)
      have F13 : ∀ q, q < h.2.1 → ¬ NO q → h9.1 q = h.1 q := fun q q0 q1 => (am_ne e10 q (by omega)).trans (kfF q q0 q1)
      refine q_blk (lv2 := [(0, vr ca), (1, vi at'), (2, vr t1), (3, vi (k + 1))]) (st2 := []) kL_drop_32 rfl ?_
      refine q_goto (tgt := 9) eL_drop_35 (by decide) ?_
      exact ih6 (k + 1) h9 (am_uI gk k (cf u)) (⟨⟨by omega, by omega⟩, fun j j0 j1 => (show j = k ∨ j < k by omega).elim (fun e9 => by subst e9; unfold am_uI gm_ou; rw [if_pos rfl]; exact hj.elim (fun w => by rw [if_pos w.2, w.1]) (fun w => by rw [if_neg (by omega), w.1])) (fun e9 => by unfold am_uI; rw [if_neg (by omega)]; exact hg j j0 e9), k12, by omega, ⟨F13, ⟨by omega, by omega⟩, by omega, by omega⟩⟩) (by omega)
    refine q_blk (lv2 := [(0, vr ca), (1, vi at'), (2, vr t1), (3, vi k)]) (st2 := [vi at', vi k, vr ca, vi k, vr t1]) kL_drop_15 rfl ?_
    refine AQ.ic_ge (tgt := 27) eL_drop_20 (by decide) (by first | assumption | exact ⟨by omega, by omega⟩) (by first | assumption | exact ⟨by omega, by omega⟩) (fun br14 => ?_) (fun br14 => ?_)
    · skip
      refine q_blk (lv2 := [(0, vr ca), (1, vi at'), (2, vr t1), (3, vi k)]) (st2 := [vi (k + 1), vr ca, vi k, vr t1]) kL_drop_27 rfl ?_
      exact jn30 (k + 1) (by omega)
    · skip
      refine q_blk (lv2 := [(0, vr ca), (1, vi at'), (2, vr t1), (3, vi k)]) (st2 := [vi k, vr ca, vi k, vr t1]) kL_drop_23 rfl ?_
      refine q_goto (tgt := 30) eL_drop_24 (by decide) ?_
      exact jn30 k (by omega)
