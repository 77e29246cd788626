/-! The class and the law's Field agree. -/
theorem gx_an {h h1 : AH} {A : Int ⊕ Nat → Prop} {z v : Int} (hA : ∀ r, A r → r = .inl v) (e : (A (.inl z) ∧ h = h1) ∨ ∃ k, (A (.inr k) ∧ h1 = gm_thr h) ∧ z = gx_thr k) : z = v ∧ h = h1 := by
  rcases e with ⟨a, b⟩ | ⟨k, ⟨a, -⟩, -⟩
  · exact ⟨Sum.inl.inj (hA _ a), b⟩
  · exact absurd (hA _ a) (fun q => by cases q)
theorem gm_thr_kf {h : AH} : KF h (gm_thr h) NO 1 6 := ⟨fun _ _ _ => rfl, ⟨Nat.le_succ _, Nat.le_refl _⟩, Nat.le_add_right _ _, Nat.le_refl _⟩
theorem gx_at {h h1 : AH} {A : Int ⊕ Nat → Prop} {z : Int} {k0 : Nat} (hA : ∀ r, A r → r = .inr k0) (e : (A (.inl z) ∧ h = h1) ∨ ∃ k, (A (.inr k) ∧ h1 = gm_thr h) ∧ z = gx_thr k) : z = gx_thr k0 ∧ KF h h1 NO 1 6 := by
  rcases e with ⟨a, -⟩ | ⟨k, ⟨a, b⟩, e⟩
  · exact absurd (hA _ a) (fun q => by cases q)
  · have := Sum.inr.inj (hA _ a)
    subst this b
    exact ⟨e, gm_thr_kf⟩
theorem gx_kc {A : Int ⊕ Nat → Prop} {h h1 : AH} {k : Nat} (p : ∀ r, A r → (∃ v, r = .inl v) ∨ ∃ j, r = .inr j ∧ (j = 0 ∨ j = 1 ∨ j = 2 ∨ j = 3)) (a : A (.inr k) ∧ h1 = gm_thr h) : k = 0 ∨ k = 1 ∨ k = 2 ∨ k = 3 := by
  rcases p _ a.1 with ⟨v, e⟩ | ⟨j, e, r⟩
  · cases e
  · cases e; exact r

set_option maxRecDepth 4000 in
set_option maxHeartbeats 8000000 in
theorem c_L_agrees {w : am_w} {h : AH} {o bu : Nat} {D cm : Int → Int} {sc : Nat} {L : GL} {tx : Int → Int} {bl le : Int} {Hs : List GE} (hL : LC w h o bu D cm sc L tx bl le Hs) {B : Nat → Prop} {f sa pa : Nat} {gs gp : Int → Option Nat} {T : Option Nat} (hF : FLD h B f sa pa gs gp T D) (hX : FX D) (hU : UQ D cm) (hcr : ∀ k, 0 ≤ k → k < D 2 → -1 ≤ cm k ∧ cm k < 6) (hb : ∀ q, B q → q < h.2.1) {Bn : Nat → Prop} (hT : TRM h Bn T L) (hbn : ∀ q, Bn q → q < h.2.1) (hbo : ∀ q, B q → ¬ (o ≤ q ∧ q < o + 256)) (hbno : ∀ q, Bn q → ¬ (o ≤ q ∧ q < o + 256))  : AE w m_L_agrees 76 [vr o, vr f] h (am_int (fun z h1 => z = 1 ∧ LC w h1 o bu D cm sc L tx bl le Hs ∧ KF h h1 (fun q => o ≤ q ∧ q < o + 256) 40 300)) := by
  refine AE.of wf_L_agrees (Nat.le_of_ble_eq_true rfl) (am_ok_z (fun z h1 q => Or.inr q.1)) ?_
  obtain ⟨C9, hP9, ⟨b0, b1⟩, -⟩ := id hL
  have e8 := C9.1.2.2.2.2.2.2.2
  have hD := hX.1
  obtain ⟨⟨bf, bs, bp⟩, C0, ⟨fz1, C1⟩, ⟨fz2, C2⟩, hst, hsh, hij⟩ := id hF
  have d0 := hD.1
  have d1 := hD.2.1
  have d2 := hD.2.2.1
  have d3 := hD.2.2.2.1
  have hf := hb _ bf
  have hsa := hb _ bs
  have hpa := hb _ bp
  have nfr0 := gm_sm_le (f := gm_nf cm) (B := 1) (m := (D 2).toNat) (fun k _ _ => by unfold gm_nf; split <;> omega)
  refine q_blk (lv2 := [(0, vr o), (1, vr f)]) (st2 := [vi 0, vr o]) kL_agrees_0 rfl ?_
  refine AQ.callWi (av := [vr o, vi 0]) (st := []) (c_L_count (c_X8_count hL.1 ⟨by omega, by omega⟩) hL.1.ob (fun k h1 q => by rcases q.1 with ⟨_, e⟩ | ⟨_, e⟩ | ⟨_, e⟩ | ⟨_, e⟩ | ⟨_, e⟩ | ⟨_, e⟩ | ⟨_, e⟩ <;> cases e; rfl)) lkw_L_count (by decide) rfl rfl (Nat.le_of_ble_eq_true rfl) eL_agrees_2 (fun z1 h3 e2 => ?_)
  obtain ⟨e2v, rfl⟩ := gx_an (v := (D 0)) (by rintro r (⟨q, e⟩ | ⟨q, e⟩ | ⟨q, e⟩ | ⟨q, e⟩ | ⟨q, e⟩ | ⟨q, e⟩ | ⟨q, e⟩) <;> first | exact e | omega) e2
  subst e2v
  refine q_blk (lv2 := [(0, vr o), (1, vr f)]) (st2 := [vr f, vi (D 0)]) kL_agrees_5 rfl ?_
  refine q_gi eL_agrees_6 fl_RL_137 (Or.inl rfl) C0 (z := (D 0)) rfl ?_
  refine AQ.of (AS.ic_ne_f eL_agrees_9 (by first | assumption | exact ⟨by omega, by omega⟩ | exact ⟨by decide, by decide⟩) (by first | assumption | exact ⟨by omega, by omega⟩ | exact ⟨by decide, by decide⟩) (by omega) (by decide)) ?_
  refine q_blk (lv2 := [(0, vr o), (1, vr f)]) (st2 := [vi 1, vr o]) kL_agrees_12 rfl ?_
  refine AQ.callWi (av := [vr o, vi 1]) (st := []) (c_L_count (c_X8_count hL.1 ⟨by omega, by omega⟩) hL.1.ob (fun k h1 q => by rcases q.1 with ⟨_, e⟩ | ⟨_, e⟩ | ⟨_, e⟩ | ⟨_, e⟩ | ⟨_, e⟩ | ⟨_, e⟩ | ⟨_, e⟩ <;> cases e; rfl)) lkw_L_count (by decide) rfl rfl (Nat.le_of_ble_eq_true rfl) eL_agrees_14 (fun z4 h6 e5 => ?_)
  obtain ⟨e5v, rfl⟩ := gx_an (v := (D 1)) (by rintro r (⟨q, e⟩ | ⟨q, e⟩ | ⟨q, e⟩ | ⟨q, e⟩ | ⟨q, e⟩ | ⟨q, e⟩ | ⟨q, e⟩) <;> first | exact e | omega) e5
  subst e5v
  refine q_blk (lv2 := [(0, vr o), (1, vr f)]) (st2 := [vr f, vi (D 1)]) kL_agrees_17 rfl ?_
  refine q_gi eL_agrees_18 fl_RL_141 (Or.inl rfl) C0 (z := (D 1)) rfl ?_
  refine AQ.of (AS.ic_ne_f eL_agrees_21 (by first | assumption | exact ⟨by omega, by omega⟩ | exact ⟨by decide, by decide⟩) (by first | assumption | exact ⟨by omega, by omega⟩ | exact ⟨by decide, by decide⟩) (by omega) (by decide)) ?_
  refine q_blk (lv2 := [(0, vr o), (1, vr f)]) (st2 := [vi 2, vr o]) kL_agrees_24 rfl ?_
  refine AQ.callWi (av := [vr o, vi 2]) (st := []) (c_L_count (c_X8_count hL.1 ⟨by omega, by omega⟩) hL.1.ob (fun k h1 q => by rcases q.1 with ⟨_, e⟩ | ⟨_, e⟩ | ⟨_, e⟩ | ⟨_, e⟩ | ⟨_, e⟩ | ⟨_, e⟩ | ⟨_, e⟩ <;> cases e; rfl)) lkw_L_count (by decide) rfl rfl (Nat.le_of_ble_eq_true rfl) eL_agrees_26 (fun z7 h9 e8 => ?_)
  obtain ⟨e8v, rfl⟩ := gx_an (v := (D 2)) (by rintro r (⟨q, e⟩ | ⟨q, e⟩ | ⟨q, e⟩ | ⟨q, e⟩ | ⟨q, e⟩ | ⟨q, e⟩ | ⟨q, e⟩) <;> first | exact e | omega) e8
  subst e8v
  refine q_blk (lv2 := [(0, vr o), (1, vr f)]) (st2 := [vr f, vi (D 2)]) kL_agrees_29 rfl ?_
  refine q_gr eL_agrees_30 fl_RL_156 (Or.inr ⟨_, rfl⟩) C0 rfl ?_
  refine q_al eL_agrees_33 C1 (by decide) ?_
  refine AQ.of (AS.ic_ne_f eL_agrees_34 (by first | assumption | exact ⟨by omega, by omega⟩ | exact ⟨by decide, by decide⟩) (by first | assumption | exact ⟨by omega, by omega⟩ | exact ⟨by decide, by decide⟩) (by omega) (by decide)) ?_
  refine q_blk (lv2 := [(0, vr o), (1, vr f)]) (st2 := [vi 3, vr o]) kL_agrees_37 rfl ?_
  refine AQ.callWi (av := [vr o, vi 3]) (st := []) (c_L_count (c_X8_count hL.1 ⟨by omega, by omega⟩) hL.1.ob (fun k h1 q => by rcases q.1 with ⟨_, e⟩ | ⟨_, e⟩ | ⟨_, e⟩ | ⟨_, e⟩ | ⟨_, e⟩ | ⟨_, e⟩ | ⟨_, e⟩ <;> cases e; rfl)) lkw_L_count (by decide) rfl rfl (Nat.le_of_ble_eq_true rfl) eL_agrees_39 (fun z10 h12 e11 => ?_)
  obtain ⟨e11v, rfl⟩ := gx_an (v := (D 3)) (by rintro r (⟨q, e⟩ | ⟨q, e⟩ | ⟨q, e⟩ | ⟨q, e⟩ | ⟨q, e⟩ | ⟨q, e⟩ | ⟨q, e⟩) <;> first | exact e | omega) e11
  subst e11v
  refine q_blk (lv2 := [(0, vr o), (1, vr f)]) (st2 := [vr f, vi (D 3)]) kL_agrees_42 rfl ?_
  refine q_gr eL_agrees_43 fl_RL_169 (Or.inr ⟨_, rfl⟩) C0 rfl ?_
  refine q_al eL_agrees_46 C2 (by decide) ?_
  refine AQ.of (AS.ic_ne_f eL_agrees_47 (by first | assumption | exact ⟨by omega, by omega⟩ | exact ⟨by decide, by decide⟩) (by first | assumption | exact ⟨by omega, by omega⟩ | exact ⟨by decide, by decide⟩) (by omega) (by decide)) ?_
  refine q_blk (lv2 := [(0, vr o), (1, vr f)]) (st2 := [vi 5, vr o]) kL_agrees_50 rfl ?_
  refine AQ.callWi (av := [vr o, vi 5]) (st := []) (c_L_count (c_X8_count hL.1 ⟨by omega, by omega⟩) hL.1.ob (fun k h1 q => by rcases q.1 with ⟨_, e⟩ | ⟨_, e⟩ | ⟨_, e⟩ | ⟨_, e⟩ | ⟨_, e⟩ | ⟨_, e⟩ | ⟨_, e⟩ <;> cases e; rfl)) lkw_L_count (by decide) rfl rfl (Nat.le_of_ble_eq_true rfl) eL_agrees_52 (fun z13 h15 e14 => ?_)
  obtain ⟨e14v, rfl⟩ := gx_an (v := (gm_sm (gm_nf cm) (D 2).toNat)) (by rintro r (⟨q, e⟩ | ⟨q, e⟩ | ⟨q, e⟩ | ⟨q, e⟩ | ⟨q, e⟩ | ⟨q, e⟩ | ⟨q, e⟩) <;> first | exact e | omega) e14
  subst e14v
  refine q_blk (lv2 := [(0, vr o), (1, vr f)]) (st2 := [vi (-1), vr f, vi (gm_sm (gm_nf cm) (D 2).toNat)]) kL_agrees_55 rfl ?_
  refine q_Vi (av := [vi (-1)]) (st := [vi (gm_sm (gm_nf cm) (D 2).toNat)]) (c_X9_claimedN hF hD hU hcr) lk_RL_224 (by decide) rfl rfl hF.ob ⟨_, rfl, rfl⟩ (Nat.le_of_ble_eq_true rfl) eL_agrees_57 (fun z16 e17 => ?_)
  subst e17
  refine AQ.of (AS.ic_ne_f eL_agrees_60 (by first | assumption | exact ⟨by omega, by omega⟩ | exact ⟨by decide, by decide⟩) (by first | assumption | exact ⟨by omega, by omega⟩ | exact ⟨by decide, by decide⟩) (by omega) (by decide)) ?_
  refine q_blk (lv2 := [(0, vr o), (1, vr f)]) (st2 := [vr o]) kL_agrees_63 rfl ?_
  refine AQ.callVl (av := []) (st := []) (c_X8_checksum hL.1) lk_RL_227 (by decide) rfl rfl hL.1.ob ⟨_, rfl, rfl⟩ (Nat.le_of_ble_eq_true rfl) eL_agrees_64 (fun z18 h20 e19 => ?_)
  obtain ⟨z18e, z18c, z18g⟩ := e19
  have z18n := hL.go z18c z18g ⟨hL.2.2.2.1, hL.2.2.2.2⟩
  obtain ⟨g21f, ⟨g21a, g21b⟩, g21c, g21d⟩ := z18g.kf
  have k22 := (g21f f (by omega) (hbo f bf)).trans C0
  have k23 := (g21f sa (by omega) (hbo sa bs)).trans C1
  have k24 := (g21f pa (by omega) (hbo pa bp)).trans C2
  have F25 : ∀ q, q < h.2.1 → ¬ (fun q => o ≤ q ∧ q < o + 256) q → h20.1 q = h.1 q := fun q q0 q1 => (g21f q (by omega) q1).trans ((fun _ _ _ => rfl) q q0 q1)
  subst z18e
  refine q_blk (lv2 := [(0, vr o), (1, vr f)]) (st2 := [vr f, vl (gm_k3 (gm_pt D cm L) 4 (gm_k3 cm (D 2).toNat (gm_k1 D (D 3).toNat)))]) kL_agrees_67 rfl ?_
  refine AQ.callVl (av := []) (st := [vl (gm_k3 (gm_pt D cm L) 4 (gm_k3 cm (D 2).toNat (gm_k1 D (D 3).toNat)))]) (c_X9_sum (hF.loc (h1 := h20) (B1 := B) (fun q b => F25 q (hb q b) (hbo q b)) (fun q b => b)) hX hU hcr (fun q b => by have := hb q b; omega) (hT.mv (h1 := h20) (B1 := Bn) (fun q b => F25 q (hbn q b) (hbno q b)) (fun q b => b)) (fun q b => by have := hbn q b; omega)) lk_RL_231 (by decide) rfl rfl (hF.loc (h1 := h20) (B1 := B) (fun q b => F25 q (hb q b) (hbo q b)) (fun q b => b)).ob ⟨_, rfl, rfl⟩ (Nat.le_of_ble_eq_true rfl) eL_agrees_68 (fun z26 h28 e27 => ?_)
  obtain ⟨z26e, g29f, ⟨g29a, g29b⟩, g29c, g29d⟩ := e27
  have k30 := (g29f f (by omega) (fun x => x)).trans k22
  have k31 := (g29f sa (by omega) (fun x => x)).trans k23
  have k32 := (g29f pa (by omega) (fun x => x)).trans k24
  have F33 : ∀ q, q < h.2.1 → ¬ (fun q => o ≤ q ∧ q < o + 256) q → h28.1 q = h.1 q := fun q q0 q1 => (g29f q (by omega) (fun x => x)).trans (F25 q q0 q1)
  have z26k : KF h20 h28 NO 24 120 := ⟨g29f, ⟨g29a, g29b⟩, g29c, g29d⟩
  have C34 := z18n.kf z26k (fun q z => z.elim)
  subst z26e
  refine AQ.of (AS.lcmpE eL_agrees_71) ?_
  refine AQ.of (AS.if_ne_f eL_agrees_72 ⟨by decide, by decide⟩ (by decide) (by decide)) ?_
  refine q_blk (lv2 := [(0, vr o), (1, vr f)]) (st2 := [vi 1]) kL_agrees_75 rfl ?_
  refine q_goto (tgt := 80) eL_agrees_76 (by decide) ?_
  refine q_blk (lv2 := [(0, vr o), (1, vr f), (2, vi 1), (3, vi 0)]) (st2 := []) kL_agrees_80 rfl ?_
  refine am_lp2 (I := fun (p : Int) (hh : AH) => (0 ≤ p ∧ p ≤ D 3) ∧ LC w hh o bu D cm sc L tx bl le Hs ∧ KF h hh (fun q => o ≤ q ∧ q < o + 256) (24 + p.toNat) (120 + 6 * p.toNat)) (μ := fun (p : Int) (hh : AH) => (D 3 - p).toNat) (G := fun (p : Int) (hh : AH) => AQ w m_L_agrees 76 83 [(0, vr o), (1, vr f), (2, vi 1), (3, vi p)] [] hh (am_int (fun z h1 => z = 1 ∧ LC w h1 o bu D cm sc L tx bl le Hs ∧ KF h h1 (fun q => o ≤ q ∧ q < o + 256) 40 300))) ?_ 0 h28 (⟨⟨by omega, by omega⟩, C34, ⟨F33, ⟨by omega, by omega⟩, by omega, by omega⟩⟩)
  intro p hh hI36 ih35
  obtain ⟨⟨p0, p1⟩, hL9, kfF, ⟨kfa, kfb⟩, kfc, kfd⟩ := hI36
  have hF := hF.loc (h1 := hh) (B1 := B) (fun q b => kfF q (hb q b) (hbo q b)) (fun q b => b)
  have hT := hT.mv (h1 := hh) (B1 := Bn) (fun q b => kfF q (hbn q b) (hbno q b)) (fun q b => b)
  have hb2 : ∀ q, B q → q < hh.2.1 := fun q b => by have := hb q b; omega
  have hbn2 : ∀ q, Bn q → q < hh.2.1 := fun q b => by have := hbn q b; omega
  obtain ⟨⟨bf, bs, bp⟩, C0, ⟨fz1, C1⟩, ⟨fz2, C2⟩, hst, hsh, hij⟩ := id hF
  refine q_blk (lv2 := [(0, vr o), (1, vr f), (2, vi 1), (3, vi p)]) (st2 := [vr f, vi p]) kL_agrees_83 rfl ?_
  refine q_gr eL_agrees_85 fl_RL_169 (Or.inr ⟨_, rfl⟩) C0 rfl ?_
  refine q_al eL_agrees_88 C2 (by decide) ?_
  refine AQ.ic_ge (tgt := 231) eL_agrees_89 (by decide) (by first | assumption | exact ⟨by omega, by omega⟩ | exact ⟨by decide, by decide⟩) (by first | assumption | exact ⟨by omega, by omega⟩ | exact ⟨by decide, by decide⟩) (fun br37 => ?_) (fun br37 => ?_)
  · skip
    refine q_blk (lv2 := [(0, vr o), (1, vr f), (2, vi 1), (3, vi 0)]) (st2 := []) kL_agrees_231 rfl ?_
    refine am_lp1 (I := fun (j : Int) => (0 ≤ j ∧ j ≤ D 2)) (μ := fun (j : Int) => (D 2 - j).toNat) (G := fun (j : Int) => AQ w m_L_agrees 76 233 [(0, vr o), (1, vr f), (2, vi 1), (3, vi j)] [] hh (am_int (fun z h1 => z = 1 ∧ LC w h1 o bu D cm sc L tx bl le Hs ∧ KF h h1 (fun q => o ≤ q ∧ q < o + 256) 40 300))) ?_ 0 (⟨by omega, by omega⟩)
    intro j hI39 ih38
    obtain ⟨j0, j1⟩ := hI39
    refine q_blk (lv2 := [(0, vr o), (1, vr f), (2, vi 1), (3, vi j)]) (st2 := [vr f, vi j]) kL_agrees_233 rfl ?_
    refine q_gr eL_agrees_235 fl_RL_156 (Or.inr ⟨_, rfl⟩) C0 rfl ?_
    refine q_al eL_agrees_238 C1 (by decide) ?_
    refine AQ.ic_ge (tgt := 306) eL_agrees_239 (by decide) (by first | assumption | exact ⟨by omega, by omega⟩ | exact ⟨by decide, by decide⟩) (by first | assumption | exact ⟨by omega, by omega⟩ | exact ⟨by decide, by decide⟩) (fun br40 => ?_) (fun br40 => ?_)
    · skip
      refine q_blk (lv2 := [(0, vr o), (1, vr f), (2, vi 1), (3, vi j)]) (st2 := [vi 1]) kL_agrees_306 rfl ?_
      refine AQ.of (AS.if_eq_f eL_agrees_307 ⟨by decide, by decide⟩ (by decide) (by decide)) ?_
      refine q_blk (lv2 := [(0, vr o), (1, vr f), (2, vi 1), (3, vi j)]) (st2 := [vr f, vr o]) kL_agrees_310 rfl ?_
      refine q_gr eL_agrees_312 fl_RL_156 (Or.inr ⟨_, rfl⟩) C0 rfl ?_
      refine q_al eL_agrees_315 C1 (by decide) ?_
      refine q_blk (lv2 := [(0, vr o), (1, vr f), (2, vi 1), (3, vi j)]) (st2 := [vi 0, vi (D 2), vr o]) kL_agrees_316 rfl ?_
      refine AQ.callWi (av := [vr o, vi (D 2), vi 0]) (st := []) (c_L_stone (c_X8_stone hL9.1 ⟨by omega, by omega⟩ ⟨by omega, by omega⟩) hL9.1.ob (fun k h1 q => by rcases q.1 with ⟨_, e⟩ | ⟨_, (⟨_, e⟩ | ⟨_, e⟩ | ⟨_, e⟩ | ⟨_, e⟩ | ⟨_, e⟩)⟩ <;> cases e <;> first | exact Or.inl rfl | exact Or.inr rfl)) lkw_L_stone (by decide) rfl rfl (Nat.le_of_ble_eq_true rfl) eL_agrees_317 (fun z41 h43 e42 => ?_)
      have e42t := gx_at (k0 := 1) (by rintro r (⟨q, e⟩ | ⟨q, (⟨q2, e⟩ | ⟨q2, e⟩ | ⟨q2, e⟩ | ⟨q2, e⟩ | ⟨q2, e⟩)⟩) <;> first | exact e | omega) e42
      obtain ⟨z41e, g44f, ⟨g44a, g44b⟩, g44c, g44d⟩ := e42t
      have k45 := (g44f f (by omega) (fun x => x)).trans C0
      have k46 := (g44f sa (by omega) (fun x => x)).trans C1
      have k47 := (g44f pa (by omega) (fun x => x)).trans C2
      have F48 : ∀ q, q < h.2.1 → ¬ (fun q => o ≤ q ∧ q < o + 256) q → h43.1 q = h.1 q := fun q q0 q1 => (g44f q (by omega) (fun x => x)).trans (kfF q q0 q1)
      have z41k : KF hh h43 NO 1 6 := ⟨g44f, ⟨g44a, g44b⟩, g44c, g44d⟩
      have C49 := hL9.kf z41k (fun q z => z.elim)
      obtain rfl : z41 = (-2000000100) := z41e
      refine AQ.of (AS.ldc (z := (-2000000100)) eL_agrees_320 (am_gw 1052 (by decide +kernel) (by decide +kernel))) ?_
      refine AQ.of (AS.ic_ne_f eL_agrees_322 ⟨by decide, by decide⟩ ⟨by decide, by decide⟩ (by omega) (by decide)) ?_
      refine q_blk (lv2 := [(0, vr o), (1, vr f), (2, vi 1), (3, vi j)]) (st2 := [vr f, vr o]) kL_agrees_325 rfl ?_
      refine q_gr eL_agrees_327 fl_RL_169 (Or.inr ⟨_, rfl⟩) k45 rfl ?_
      refine q_al eL_agrees_330 k47 (by decide) ?_
      refine q_blk (lv2 := [(0, vr o), (1, vr f), (2, vi 1), (3, vi j)]) (st2 := [vi 0, vi (D 3), vr o]) kL_agrees_331 rfl ?_
      refine AQ.callWi (av := [vr o, vi (D 3), vi 0]) (st := []) (c_L_polygon (c_X8_polygon C49.1 ⟨by omega, by omega⟩ ⟨by omega, by omega⟩) C49.1.ob (fun k h1 q => by rcases q.1 with ⟨_, e⟩ | ⟨_, (⟨_, e⟩ | ⟨_, e⟩ | ⟨_, e⟩ | ⟨_, e⟩)⟩ <;> cases e <;> first | exact Or.inl rfl | exact Or.inr rfl)) lkw_L_polygon (by decide) rfl rfl (Nat.le_of_ble_eq_true rfl) eL_agrees_332 (fun z50 h52 e51 => ?_)
      have e51t := gx_at (k0 := 2) (by rintro r (⟨q, e⟩ | ⟨q, (⟨q2, e⟩ | ⟨q2, e⟩ | ⟨q2, e⟩ | ⟨q2, e⟩)⟩) <;> first | exact e | omega) e51
      obtain ⟨z50e, g53f, ⟨g53a, g53b⟩, g53c, g53d⟩ := e51t
      have k54 := (g53f f (by omega) (fun x => x)).trans k45
      have k55 := (g53f sa (by omega) (fun x => x)).trans k46
      have k56 := (g53f pa (by omega) (fun x => x)).trans k47
      have F57 : ∀ q, q < h.2.1 → ¬ (fun q => o ≤ q ∧ q < o + 256) q → h52.1 q = h.1 q := fun q q0 q1 => (g53f q (by omega) (fun x => x)).trans (F48 q q0 q1)
      have z50k : KF h43 h52 NO 1 6 := ⟨g53f, ⟨g53a, g53b⟩, g53c, g53d⟩
      have C58 := C49.kf z50k (fun q z => z.elim)
      obtain rfl : z50 = (-2000000097) := z50e
      refine AQ.of (AS.ldc (z := (-2000000097)) eL_agrees_335 (am_gw 1087 (by decide +kernel) (by decide +kernel))) ?_
      refine AQ.of (AS.ic_ne_f eL_agrees_337 ⟨by decide, by decide⟩ ⟨by decide, by decide⟩ (by omega) (by decide)) ?_
      refine q_blk (lv2 := [(0, vr o), (1, vr f), (2, vi 1), (3, vi j)]) (st2 := [vi 6, vr o]) kL_agrees_340 rfl ?_
      refine AQ.callWi (av := [vr o, vi 6]) (st := []) (c_L_count (c_X8_count C58.1 ⟨by omega, by omega⟩) C58.1.ob (fun k h1 q => by rcases q.1 with ⟨_, e⟩ | ⟨_, e⟩ | ⟨_, e⟩ | ⟨_, e⟩ | ⟨_, e⟩ | ⟨_, e⟩ | ⟨_, e⟩ <;> cases e; rfl)) lkw_L_count (by decide) rfl rfl (Nat.le_of_ble_eq_true rfl) eL_agrees_343 (fun z59 h61 e60 => ?_)
      have e60t := gx_at (k0 := 0) (by rintro r (⟨q, e⟩ | ⟨q, e⟩ | ⟨q, e⟩ | ⟨q, e⟩ | ⟨q, e⟩ | ⟨q, e⟩ | ⟨q, e⟩) <;> first | exact e | omega) e60
      obtain ⟨z59e, g62f, ⟨g62a, g62b⟩, g62c, g62d⟩ := e60t
      have k63 := (g62f f (by omega) (fun x => x)).trans k54
      have k64 := (g62f sa (by omega) (fun x => x)).trans k55
      have k65 := (g62f pa (by omega) (fun x => x)).trans k56
      have F66 : ∀ q, q < h.2.1 → ¬ (fun q => o ≤ q ∧ q < o + 256) q → h61.1 q = h.1 q := fun q q0 q1 => (g62f q (by omega) (fun x => x)).trans (F57 q q0 q1)
      have z59k : KF h52 h61 NO 1 6 := ⟨g62f, ⟨g62a, g62b⟩, g62c, g62d⟩
      have C67 := C58.kf z59k (fun q z => z.elim)
      obtain rfl : z59 = (-2000000098) := z59e
      refine AQ.of (AS.ldc (z := (-2000000098)) eL_agrees_346 (am_gw 1022 (by decide +kernel) (by decide +kernel))) ?_
      refine AQ.of (AS.ic_ne_f eL_agrees_348 ⟨by decide, by decide⟩ ⟨by decide, by decide⟩ (by omega) (by decide)) ?_
      refine q_blk (lv2 := [(0, vr o), (1, vr f), (2, vi 1), (3, vi j)]) (st2 := [vi 1]) kL_agrees_351 rfl ?_
      refine q_goto (tgt := 356) eL_agrees_352 (by decide) ?_
      exact q_rz rfl eL_agrees_356 (by decide) ⟨1, rfl, rfl, C67, ⟨F66, ⟨by omega, by omega⟩, by omega, by omega⟩⟩
    · skip
      refine q_blk (lv2 := [(0, vr o), (1, vr f), (2, vi 1), (3, vi j)]) (st2 := [vi 1]) kL_agrees_242 rfl ?_
      refine AQ.of (AS.if_eq_f eL_agrees_243 ⟨by decide, by decide⟩ (by decide) (by decide)) ?_
      have cj := hcr j j0 (by omega)
      refine q_blk (lv2 := [(0, vr o), (1, vr f), (2, vi 1), (3, vi j)]) (st2 := [vi 0, vi j, vr o]) kL_agrees_246 rfl ?_
      refine AQ.callWi (av := [vr o, vi j, vi 0]) (st := []) (c_L_stone (c_X8_stone hL9.1 ⟨by omega, by omega⟩ ⟨by omega, by omega⟩) hL9.1.ob (fun k h1 q => by rcases q.1 with ⟨_, e⟩ | ⟨_, (⟨_, e⟩ | ⟨_, e⟩ | ⟨_, e⟩ | ⟨_, e⟩ | ⟨_, e⟩)⟩ <;> cases e <;> first | exact Or.inl rfl | exact Or.inr rfl)) lkw_L_stone (by decide) rfl rfl (Nat.le_of_ble_eq_true rfl) eL_agrees_249 (fun z68 h70 e69 => ?_)
      obtain ⟨e69v, rfl⟩ := gx_an (v := (sX D j)) (by rintro r (⟨q, e⟩ | ⟨q, (⟨q2, e⟩ | ⟨q2, e⟩ | ⟨q2, e⟩ | ⟨q2, e⟩ | ⟨q2, e⟩)⟩) <;> first | exact e | omega) e69
      subst e69v
      refine q_blk (lv2 := [(0, vr o), (1, vr f), (2, vi 1), (3, vi j)]) (st2 := [vr f, vi (sX D j)]) kL_agrees_252 rfl ?_
      refine q_gr eL_agrees_253 fl_RL_156 (Or.inr ⟨_, rfl⟩) C0 rfl ?_
      refine q_blk (lv2 := [(0, vr o), (1, vr f), (2, vi 1), (3, vi j)]) (st2 := [vi j, vr sa, vi (sX D j)]) kL_agrees_256 rfl ?_
      obtain ⟨q71, f71, g71, w71, c71, x71, y71, v71⟩ := hst j (by omega) (by omega)
      have b71 := hD.2.2.2.2.1 j (by omega) (by omega)
      refine q_aa eL_agrees_257 C1 (by decide) (by omega) (by omega) g71 ?_
      refine q_blk (lv2 := [(0, vr o), (1, vr f), (2, vi 1), (3, vi j)]) (st2 := [vi 0, vr q71, vi (sX D j)]) kL_agrees_258 rfl ?_
      refine q_ia eL_agrees_259 c71 (by decide) (by omega) (by omega) (z := (sX D j)) x71 ?_
      refine AQ.of (AS.ic_ne_f eL_agrees_260 (by first | assumption | exact ⟨by omega, by omega⟩ | exact ⟨by decide, by decide⟩) (by first | assumption | exact ⟨by omega, by omega⟩ | exact ⟨by decide, by decide⟩) (by omega) (by decide)) ?_
      refine q_blk (lv2 := [(0, vr o), (1, vr f), (2, vi 1), (3, vi j)]) (st2 := [vi 2, vi j, vr o]) kL_agrees_263 rfl ?_
      refine AQ.callWi (av := [vr o, vi j, vi 2]) (st := []) (c_L_stone (c_X8_stone hL9.1 ⟨by omega, by omega⟩ ⟨by omega, by omega⟩) hL9.1.ob (fun k h1 q => by rcases q.1 with ⟨_, e⟩ | ⟨_, (⟨_, e⟩ | ⟨_, e⟩ | ⟨_, e⟩ | ⟨_, e⟩ | ⟨_, e⟩)⟩ <;> cases e <;> first | exact Or.inl rfl | exact Or.inr rfl)) lkw_L_stone (by decide) rfl rfl (Nat.le_of_ble_eq_true rfl) eL_agrees_266 (fun z72 h74 e73 => ?_)
      obtain ⟨e73v, rfl⟩ := gx_an (v := (sV D j)) (by rintro r (⟨q, e⟩ | ⟨q, (⟨q2, e⟩ | ⟨q2, e⟩ | ⟨q2, e⟩ | ⟨q2, e⟩ | ⟨q2, e⟩)⟩) <;> first | exact e | omega) e73
      subst e73v
      refine q_blk (lv2 := [(0, vr o), (1, vr f), (2, vi 1), (3, vi j)]) (st2 := [vr f, vi (sV D j)]) kL_agrees_269 rfl ?_
      refine q_gr eL_agrees_270 fl_RL_156 (Or.inr ⟨_, rfl⟩) C0 rfl ?_
      refine q_blk (lv2 := [(0, vr o), (1, vr f), (2, vi 1), (3, vi j)]) (st2 := [vi j, vr sa, vi (sV D j)]) kL_agrees_273 rfl ?_
      refine q_aa eL_agrees_274 C1 (by decide) (by omega) (by omega) g71 ?_
      refine q_blk (lv2 := [(0, vr o), (1, vr f), (2, vi 1), (3, vi j)]) (st2 := [vi 2, vr q71, vi (sV D j)]) kL_agrees_275 rfl ?_
      refine q_ia eL_agrees_276 c71 (by decide) (by omega) (by omega) (z := (sV D j)) v71 ?_
      refine AQ.of (AS.ic_ne_f eL_agrees_277 (by first | assumption | exact ⟨by omega, by omega⟩ | exact ⟨by decide, by decide⟩) (by first | assumption | exact ⟨by omega, by omega⟩ | exact ⟨by decide, by decide⟩) (by omega) (by decide)) ?_
      refine q_blk (lv2 := [(0, vr o), (1, vr f), (2, vi 1), (3, vi j)]) (st2 := [vi 3, vi j, vr o]) kL_agrees_280 rfl ?_
      refine AQ.callWi (av := [vr o, vi j, vi 3]) (st := []) (c_L_stone (c_X8_stone hL9.1 ⟨by omega, by omega⟩ ⟨by omega, by omega⟩) hL9.1.ob (fun k h1 q => by rcases q.1 with ⟨_, e⟩ | ⟨_, (⟨_, e⟩ | ⟨_, e⟩ | ⟨_, e⟩ | ⟨_, e⟩ | ⟨_, e⟩)⟩ <;> cases e <;> first | exact Or.inl rfl | exact Or.inr rfl)) lkw_L_stone (by decide) rfl rfl (Nat.le_of_ble_eq_true rfl) eL_agrees_283 (fun z75 h77 e76 => ?_)
      obtain ⟨e76v, rfl⟩ := gx_an (v := (cm j)) (by rintro r (⟨q, e⟩ | ⟨q, (⟨q2, e⟩ | ⟨q2, e⟩ | ⟨q2, e⟩ | ⟨q2, e⟩ | ⟨q2, e⟩)⟩) <;> first | exact e | omega) e76
      subst e76v
      refine q_blk (lv2 := [(0, vr o), (1, vr f), (2, vi 1), (3, vi j)]) (st2 := [vi j, vr f, vi (cm j)]) kL_agrees_286 rfl ?_
      refine q_Vi (av := [vi j]) (st := [vi (cm j)]) (c_X9_claimer hF hD hU (k := j) (by omega) (by omega)) lk_RL_241 (by decide) rfl rfl hF.ob ⟨_, rfl, rfl⟩ (Nat.le_of_ble_eq_true rfl) eL_agrees_288 (fun z78 e79 => ?_)
      subst e79
      refine AQ.of (AS.ic_ne_f eL_agrees_291 (by first | assumption | exact ⟨by omega, by omega⟩ | exact ⟨by decide, by decide⟩) (by first | assumption | exact ⟨by omega, by omega⟩ | exact ⟨by decide, by decide⟩) (by omega) (by decide)) ?_
      refine q_blk (lv2 := [(0, vr o), (1, vr f), (2, vi 1), (3, vi j)]) (st2 := [vi 1]) kL_agrees_294 rfl ?_
      refine q_goto (tgt := 299) eL_agrees_295 (by decide) ?_
      refine q_blk (lv2 := [(0, vr o), (1, vr f), (2, vi 1), (3, vi (j + 1))]) (st2 := []) kL_agrees_299 rfl ?_
      refine q_goto (tgt := 233) eL_agrees_303 (by decide) ?_
      exact ih38 (j + 1) (⟨by omega, by omega⟩) (by omega)
  · skip
    refine q_blk (lv2 := [(0, vr o), (1, vr f), (2, vi 1), (3, vi p)]) (st2 := [vi 1]) kL_agrees_92 rfl ?_
    refine AQ.of (AS.if_eq_f eL_agrees_93 ⟨by decide, by decide⟩ (by decide) (by decide)) ?_
    refine q_blk (lv2 := [(0, vr o), (1, vr f), (2, vi 1), (3, vi p)]) (st2 := [vr f]) kL_agrees_96 rfl ?_
    refine q_gr eL_agrees_97 fl_RL_169 (Or.inr ⟨_, rfl⟩) C0 rfl ?_
    refine q_blk (lv2 := [(0, vr o), (1, vr f), (2, vi 1), (3, vi p)]) (st2 := [vi p, vr pa]) kL_agrees_100 rfl ?_
    obtain ⟨q80, g80, l80⟩ := hsh p (by omega) (by omega)
    obtain ⟨ca80, cf80, ⟨w80, u80⟩, c80, d80, e80⟩ := id l80
    obtain ⟨⟨o80, o80'⟩, ⟨n80, n80'⟩, cc80, xy80⟩ := hD.2.2.2.2.2 p (by omega) (by omega)
    have vc80 := hD.vc (p := p) (by omega) (by omega)
    have ar80 := gm_ar_r vc80 (by omega) n80'
    have bq80 := hb _ w80
    have bc80 := hb _ u80
    have nq80 := hbo _ w80
    have nc80 := hbo _ u80
    refine q_aa eL_agrees_101 C2 (by decide) (by omega) (by omega) g80 ?_
    refine q_blk (lv2 := [(0, vr o), (1, vr f), (2, vi 1), (3, vi p), (4, vr q80)]) (st2 := [vi 0, vi p, vr o]) kL_agrees_102 rfl ?_
    refine AQ.callWi (av := [vr o, vi p, vi 0]) (st := []) (c_L_polygon (c_X8_polygon hL9.1 ⟨by omega, by omega⟩ ⟨by omega, by omega⟩) hL9.1.ob (fun k h1 q => by rcases q.1 with ⟨_, e⟩ | ⟨_, (⟨_, e⟩ | ⟨_, e⟩ | ⟨_, e⟩ | ⟨_, e⟩)⟩ <;> cases e <;> first | exact Or.inl rfl | exact Or.inr rfl)) lkw_L_polygon (by decide) rfl rfl (Nat.le_of_ble_eq_true rfl) eL_agrees_107 (fun z81 h83 e82 => ?_)
    obtain ⟨e82v, rfl⟩ := gx_an (v := (pO D p)) (by rintro r (⟨q, e⟩ | ⟨q, (⟨q2, e⟩ | ⟨q2, e⟩ | ⟨q2, e⟩ | ⟨q2, e⟩)⟩) <;> first | exact e | omega) e82
    subst e82v
    refine q_blk (lv2 := [(0, vr o), (1, vr f), (2, vi 1), (3, vi p), (4, vr q80)]) (st2 := [vr q80, vi (pO D p)]) kL_agrees_110 rfl ?_
    refine q_gi eL_agrees_112 fl_RL_195 (Or.inl rfl) c80 (z := (pO D p)) rfl ?_
    refine AQ.of (AS.ic_ne_f eL_agrees_115 (by first | assumption | exact ⟨by omega, by omega⟩ | exact ⟨by decide, by decide⟩) (by first | assumption | exact ⟨by omega, by omega⟩ | exact ⟨by decide, by decide⟩) (by omega) (by decide)) ?_
    refine q_blk (lv2 := [(0, vr o), (1, vr f), (2, vi 1), (3, vi p), (4, vr q80)]) (st2 := [vi 1, vi p, vr o]) kL_agrees_118 rfl ?_
    refine AQ.callWi (av := [vr o, vi p, vi 1]) (st := []) (c_L_polygon (c_X8_polygon hL9.1 ⟨by omega, by omega⟩ ⟨by omega, by omega⟩) hL9.1.ob (fun k h1 q => by rcases q.1 with ⟨_, e⟩ | ⟨_, (⟨_, e⟩ | ⟨_, e⟩ | ⟨_, e⟩ | ⟨_, e⟩)⟩ <;> cases e <;> first | exact Or.inl rfl | exact Or.inr rfl)) lkw_L_polygon (by decide) rfl rfl (Nat.le_of_ble_eq_true rfl) eL_agrees_121 (fun z84 h86 e85 => ?_)
    obtain ⟨e85v, rfl⟩ := gx_an (v := (pN D p)) (by rintro r (⟨q, e⟩ | ⟨q, (⟨q2, e⟩ | ⟨q2, e⟩ | ⟨q2, e⟩ | ⟨q2, e⟩)⟩) <;> first | exact e | omega) e85
    subst e85v
    refine q_blk (lv2 := [(0, vr o), (1, vr f), (2, vi 1), (3, vi p), (4, vr q80)]) (st2 := [vr q80, vi (pN D p)]) kL_agrees_124 rfl ?_
    refine q_gr eL_agrees_126 fl_RL_178 (Or.inr ⟨_, rfl⟩) c80 rfl ?_
    refine q_al eL_agrees_129 d80 (by decide) ?_
    refine AQ.of (AS.ic_ne_f eL_agrees_130 (by first | assumption | exact ⟨by omega, by omega⟩ | exact ⟨by decide, by decide⟩) (by first | assumption | exact ⟨by omega, by omega⟩ | exact ⟨by decide, by decide⟩) (by omega) (by decide)) ?_
    refine q_blk (lv2 := [(0, vr o), (1, vr f), (2, vi 1), (3, vi p), (4, vr q80)]) (st2 := [vi 2, vi p, vr o]) kL_agrees_133 rfl ?_
    refine AQ.callWi (av := [vr o, vi p, vi 2]) (st := []) (c_L_polygon (c_X8_polygon hL9.1 ⟨by omega, by omega⟩ ⟨by omega, by omega⟩) hL9.1.ob (fun k h1 q => by rcases q.1 with ⟨_, e⟩ | ⟨_, (⟨_, e⟩ | ⟨_, e⟩ | ⟨_, e⟩ | ⟨_, e⟩)⟩ <;> cases e <;> first | exact Or.inl rfl | exact Or.inr rfl)) lkw_L_polygon (by decide) rfl rfl (Nat.le_of_ble_eq_true rfl) eL_agrees_136 (fun z87 h89 e88 => ?_)
    obtain ⟨e88v, rfl⟩ := gx_an (v := (pC D p)) (by rintro r (⟨q, e⟩ | ⟨q, (⟨q2, e⟩ | ⟨q2, e⟩ | ⟨q2, e⟩ | ⟨q2, e⟩)⟩) <;> first | exact e | omega) e88
    subst e88v
    have jn152 : ∀ (u : Int), u = pC D p → AQ w m_L_agrees 76 152 [(0, vr o), (1, vr f), (2, vi 1), (3, vi p), (4, vr q80)] [vi u, vi (pC D p)] hh (am_int (fun z h1 => z = 1 ∧ LC w h1 o bu D cm sc L tx bl le Hs ∧ KF h h1 (fun q => o ≤ q ∧ q < o + 256) 40 300)) := by
      intro u hj
      refine AQ.of (AS.ic_ne_f eL_agrees_152 (by first | assumption | exact ⟨by omega, by omega⟩ | exact ⟨by decide, by decide⟩) (by first | assumption | exact ⟨by omega, by omega⟩ | exact ⟨by decide, by decide⟩) (by omega) (by decide)) ?_
      refine q_blk (lv2 := [(0, vr o), (1, vr f), (2, vi 1), (3, vi p), (4, vr q80)]) (st2 := [vr q80, vi p, vr o]) kL_agrees_155 rfl ?_
      refine q_gr eL_agrees_159 fl_RL_178 (Or.inr ⟨_, rfl⟩) c80 rfl ?_
      refine q_al eL_agrees_162 d80 (by decide) ?_
      refine AQ.callWi (av := [vr o, vi p, vi (pN D p)]) (st := []) (c_L_cornerAt (c_X8_cornerAt hL9.1 ⟨by omega, by omega⟩ ⟨by omega, by omega⟩) hL9.1.ob (fun k h1 q => by rcases q.1 with ⟨_, e⟩ | ⟨_, (⟨_, e⟩ | ⟨_, e⟩)⟩ <;> cases e <;> first | exact Or.inl rfl | exact Or.inr rfl)) lkw_L_cornerAt (by decide) rfl rfl (Nat.le_of_ble_eq_true rfl) eL_agrees_163 (fun z90 h92 e91 => ?_)
      have e91t := gx_at (k0 := 1) (by rintro r (⟨q, e⟩ | ⟨q, (⟨q2, e⟩ | ⟨q2, e⟩)⟩) <;> first | exact e | omega) e91
      obtain ⟨z90e, g93f, ⟨g93a, g93b⟩, g93c, g93d⟩ := e91t
      have k94 := (g93f f (by omega) (fun x => x)).trans C0
      have k95 := (g93f sa (by omega) (fun x => x)).trans C1
      have k96 := (g93f pa (by omega) (fun x => x)).trans C2
      have k97 := (g93f q80 (by omega) (fun x => x)).trans c80
      have k98 := (g93f ca80 (by omega) (fun x => x)).trans d80
      have F99 : ∀ q, q < h.2.1 → ¬ (fun q => o ≤ q ∧ q < o + 256) q → h92.1 q = h.1 q := fun q q0 q1 => (g93f q (by omega) (fun x => x)).trans (kfF q q0 q1)
      have z90k : KF hh h92 NO 1 6 := ⟨g93f, ⟨g93a, g93b⟩, g93c, g93d⟩
      have C100 := hL9.kf z90k (fun q z => z.elim)
      obtain rfl : z90 = (-2000000100) := z90e
      refine AQ.of (AS.ldc (z := (-2000000100)) eL_agrees_166 (am_gw 1052 (by decide +kernel) (by decide +kernel))) ?_
      refine AQ.of (AS.ic_ne_f eL_agrees_168 ⟨by decide, by decide⟩ ⟨by decide, by decide⟩ (by omega) (by decide)) ?_
      refine q_blk (lv2 := [(0, vr o), (1, vr f), (2, vi 1), (3, vi p), (4, vr q80)]) (st2 := [vi 1]) kL_agrees_171 rfl ?_
      refine q_goto (tgt := 176) eL_agrees_172 (by decide) ?_
      refine q_blk (lv2 := [(0, vr o), (1, vr f), (2, vi 1), (3, vi p), (4, vr q80), (5, vi 0)]) (st2 := []) kL_agrees_176 rfl ?_
      refine am_lp1 (I := fun (k : Int) => (0 ≤ k ∧ k ≤ pN D p)) (μ := fun (k : Int) => (pN D p - k).toNat) (G := fun (k : Int) => AQ w m_L_agrees 76 180 [(0, vr o), (1, vr f), (2, vi 1), (3, vi p), (4, vr q80), (5, vi k)] [] h92 (am_int (fun z h1 => z = 1 ∧ LC w h1 o bu D cm sc L tx bl le Hs ∧ KF h h1 (fun q => o ≤ q ∧ q < o + 256) 40 300))) ?_ 0 (⟨by omega, by omega⟩)
      intro k hI102 ih101
      obtain ⟨k0, k1⟩ := hI102
      refine q_blk (lv2 := [(0, vr o), (1, vr f), (2, vi 1), (3, vi p), (4, vr q80), (5, vi k)]) (st2 := [vr q80, vi k]) kL_agrees_180 rfl ?_
      refine q_gr eL_agrees_184 fl_RL_178 (Or.inr ⟨_, rfl⟩) k97 rfl ?_
      refine q_al eL_agrees_187 k98 (by decide) ?_
      refine AQ.ic_ge (tgt := 225) eL_agrees_188 (by decide) (by first | assumption | exact ⟨by omega, by omega⟩ | exact ⟨by decide, by decide⟩) (by first | assumption | exact ⟨by omega, by omega⟩ | exact ⟨by decide, by decide⟩) (fun br103 => ?_) (fun br103 => ?_)
      · skip
        refine q_blk (lv2 := [(0, vr o), (1, vr f), (2, vi 1), (3, vi (p + 1)), (4, vr q80), (5, vi k)]) (st2 := []) kL_agrees_225 rfl ?_
        refine q_goto (tgt := 83) eL_agrees_228 (by decide) ?_
        refine q_sub (lv2 := [(0, vr o), (1, vr f), (2, vi 1), (3, vi (p + 1))]) [0, 1, 2, 3] rfl ?_
        exact ih35 (p + 1) h92 (⟨⟨by omega, by omega⟩, C100, ⟨F99, ⟨by omega, by omega⟩, by omega, by omega⟩⟩) (by omega)
      · skip
        refine q_blk (lv2 := [(0, vr o), (1, vr f), (2, vi 1), (3, vi p), (4, vr q80), (5, vi k)]) (st2 := [vi 1]) kL_agrees_191 rfl ?_
        refine AQ.of (AS.if_eq_f eL_agrees_192 ⟨by decide, by decide⟩ (by decide) (by decide)) ?_
        have xk := xy80 k (by omega) (by omega)
        refine q_blk (lv2 := [(0, vr o), (1, vr f), (2, vi 1), (3, vi p), (4, vr q80), (5, vi k)]) (st2 := [vi k, vi p, vr o]) kL_agrees_195 rfl ?_
        refine AQ.callWi (av := [vr o, vi p, vi k]) (st := []) (c_L_cornerAt (c_X8_cornerAt C100.1 ⟨by omega, by omega⟩ ⟨by omega, by omega⟩) C100.1.ob (fun k h1 q => by rcases q.1 with ⟨_, e⟩ | ⟨_, (⟨_, e⟩ | ⟨_, e⟩)⟩ <;> cases e <;> first | exact Or.inl rfl | exact Or.inr rfl)) lkw_L_cornerAt (by decide) rfl rfl (Nat.le_of_ble_eq_true rfl) eL_agrees_199 (fun z104 h106 e105 => ?_)
        obtain ⟨e105v, rfl⟩ := gx_an (v := (100 * pX D p k + pY D p k)) (by rintro r (⟨q, e⟩ | ⟨q, (⟨q2, e⟩ | ⟨q2, e⟩)⟩) <;> first | exact e | omega) e105
        subst e105v
        refine q_blk (lv2 := [(0, vr o), (1, vr f), (2, vi 1), (3, vi p), (4, vr q80), (5, vi k)]) (st2 := [vr q80, vi (100 * pX D p k + pY D p k)]) kL_agrees_202 rfl ?_
        refine q_gr eL_agrees_204 fl_RL_178 (Or.inr ⟨_, rfl⟩) k97 rfl ?_
        refine q_blk (lv2 := [(0, vr o), (1, vr f), (2, vi 1), (3, vi p), (4, vr q80), (5, vi k)]) (st2 := [vi k, vr ca80, vi (100 * pX D p k + pY D p k)]) kL_agrees_207 rfl ?_
        refine q_ia eL_agrees_209 k98 (by decide) (by omega) (by omega) (z := (100 * pX D p k + pY D p k)) (e80 _ (by omega) (by omega)) ?_
        refine AQ.of (AS.ic_ne_f eL_agrees_210 (by first | assumption | exact ⟨by omega, by omega⟩ | exact ⟨by decide, by decide⟩) (by first | assumption | exact ⟨by omega, by omega⟩ | exact ⟨by decide, by decide⟩) (by omega) (by decide)) ?_
        refine q_blk (lv2 := [(0, vr o), (1, vr f), (2, vi 1), (3, vi p), (4, vr q80), (5, vi k)]) (st2 := [vi 1]) kL_agrees_213 rfl ?_
        refine q_goto (tgt := 218) eL_agrees_214 (by decide) ?_
        refine q_blk (lv2 := [(0, vr o), (1, vr f), (2, vi 1), (3, vi p), (4, vr q80), (5, vi (k + 1))]) (st2 := []) kL_agrees_218 rfl ?_
        refine q_goto (tgt := 180) eL_agrees_222 (by decide) ?_
        exact ih101 (k + 1) (⟨by omega, by omega⟩) (by omega)
    refine q_blk (lv2 := [(0, vr o), (1, vr f), (2, vi 1), (3, vi p), (4, vr q80)]) (st2 := [vr q80, vi (pC D p)]) kL_agrees_139 rfl ?_
    refine q_gi eL_agrees_141 fl_RL_190 (Or.inr rfl) c80 (z := (pC D p)) rfl ?_
    refine AQ.if_eq (tgt := 151) eL_agrees_144 (by decide) (by first | assumption | exact ⟨by omega, by omega⟩ | exact ⟨by decide, by decide⟩) (fun br107 => ?_) (fun br107 => ?_)
    · skip
      refine q_blk (lv2 := [(0, vr o), (1, vr f), (2, vi 1), (3, vi p), (4, vr q80)]) (st2 := [vi 0, vi (pC D p)]) kL_agrees_151 rfl ?_
      exact jn152 0 (by omega)
    · skip
      refine q_blk (lv2 := [(0, vr o), (1, vr f), (2, vi 1), (3, vi p), (4, vr q80)]) (st2 := [vi 1, vi (pC D p)]) kL_agrees_147 rfl ?_
      refine q_goto (tgt := 152) eL_agrees_148 (by decide) ?_
      exact jn152 1 (by omega)
