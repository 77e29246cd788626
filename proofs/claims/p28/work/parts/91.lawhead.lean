/-! The law's head. -/
theorem CCS.loc0 {h h1 : AH} {o u b a j t s r : Nat} {D cm : Int → Int} {sc : Nat} {L : GL} {tx : Int → Int} {bl le : Int} (k : CCS h o u b a j t s r D cm sc L tx bl le []) (f : ∀ q, o ≤ q → q < o + 256 → h1.1 q = h.1 q) (fs : h1.1 sc = h.1 sc) (so : sc < o) (l : h.2.1 ≤ h1.2.1) : CCS h1 o u b a j t s r D cm sc L tx bl le [] := by
  obtain ⟨⟨k1, k2, k3, k4, k5, k6, k7, k8⟩, c0, ⟨c1, x1⟩, c2, c3, ⟨v1, v2, v3, ⟨ci, fc, gc, w0, w1, w2⟩, v5, v6⟩, c5, c6, c7, ⟨kd, st, vl, tc, he, nu, px, cl, hs, er, ea, cd, ⟨t0, t1, t2, t3, t4, t5, t6, t7⟩, q1⟩, c9, c10, c11⟩ := k
  exact ⟨⟨k1, k2, k3, k4, k5, k6, k7, Nat.le_trans k8 l⟩, (f _ (by omega) (by omega)).trans c0, ⟨(f _ (by omega) (by omega)).trans c1, x1⟩, c2, c3.loc (fun q a b => f q (by omega) (by omega)) v1.2.2.2.1.2, ⟨v1, v2, v3, ⟨ci, fc, gc, w0, fs.trans w1, w2⟩, v5, Or.inl so⟩, c5.loc (fun q a b => f q (by omega) (by omega)), (f _ (by omega) (by omega)).trans c6, c7.loc (f _ (by omega) (by omega)), ⟨kd, st, vl, tc, he, nu, px, cl, hs, er, ea, cd, ⟨(f _ (by omega) (by omega)).trans t0, (f _ (by omega) (by omega)).trans t1, (f _ (by omega) (by omega)).trans t2, (f _ (by omega) (by omega)).trans t3, (f _ (by omega) (by omega)).trans t4, t5, (f _ (by omega) (by omega)).trans t6, t7.loc (f _ (by omega) (by omega))⟩, q1⟩, SCD.loc9 c9 (fun q a b => f q (by omega) (by omega)), c10.loc (fun q a b => f q (by omega) (by omega)), fun e he => by cases he⟩
/-- what the law needs of the machine at each round -/
def W0 (w : am_w) (h : AH) : Prop := (CD h (w.2 100) gm_pln ∧ w.2 100 < h.2.1) ∧ ∃ bs, bs ≤ h.2.1 ∧ SCR w h bs ∧ ∀ h1 : AH, h.2.1 < h1.2.1 → (∀ q, q < bs → h1.1 q = h.1 q) → TXX w h1 bs
theorem LC.w0 {w : am_w} {h : AH} {o bu : Nat} {D cm : Int → Int} {sc : Nat} {L : GL} {tx : Int → Int} {bl le : Int} {Hs : List GE} (k : LC w h o bu D cm sc L tx bl le Hs) : W0 w h := by
  obtain ⟨C, ⟨⟨p, p1⟩, bs, W, b⟩, ⟨u1, u2⟩, -⟩ := k
  exact ⟨⟨p, by omega⟩, bs, by omega, W.2, fun h1 t F => W.mv (Nat.le_of_lt t) F⟩
theorem gx_oc0 {x y : Int} : ¬ gm_oc (gm_emp 2 2) x y := by
  rintro ((⟨k, k0, k1, -⟩ | ⟨p, p0, p1, -⟩) | ⟨p, p0, p1, -⟩)
  · have k1 : k < 0 := k1; omega
  · have p1 : p < 0 := p1; omega
  · have p1 : p < 0 := p1; omega
theorem gx_rc3 {q : Int} (h : gm_rC (gm_stP (gm_emp 2 2) 0 1 1) 0 1 1 q) : q = 3 := by
  have hc : pC (gm_stP (gm_emp 2 2) 0 1 1) 0 = 0 := by decide
  have hn : pN (gm_stP (gm_emp 2 2) 0 1 1) 0 = 1 := by decide
  have tk : gm_tk (gm_stP (gm_emp 2 2) 0 1 1) 1 1 := Or.inr ⟨0, by decide, by decide, 0, by decide, by decide, by decide, by decide⟩
  rcases h with ⟨a, -⟩ | ⟨-, ⟨a, -⟩ | ⟨-, ⟨-, e⟩ | ⟨a, -⟩⟩⟩
  · omega
  · omega
  · exact e
  · exact absurd tk a
theorem gx_rl6 {q : Int} (h : gm_rL (gm_stP (gm_emp 2 2) 0 1 1) 0 q) : q = 6 := by
  have hc : pC (gm_stP (gm_emp 2 2) 0 1 1) 0 = 0 := by decide
  have hn : pN (gm_stP (gm_emp 2 2) 0 1 1) 0 = 1 := by decide
  rcases h with ⟨a, -⟩ | ⟨-, ⟨-, e⟩ | ⟨a, -⟩⟩
  · omega
  · exact e
  · omega

set_option maxRecDepth 4000 in
set_option maxHeartbeats 4000000 in
theorem sg_V1 {nm : String} {TT : List (Nat × Nat × Nat × Nat)} {w : am_w} {d b0 : Nat} {i9 dn n : Int} {Q : RV → AH → Prop} {h : AH} {len : Int} {g9 : Int → Int} {G9 : Int → Option Nat} (hd : 90 ≤ d) (hW : W0 w h) (cb : h.1 b0 = some (110, len, g9, G9)) (bl : b0 < h.2.1) (hi : 0 ≤ i9 ∧ i9 < len) (hl : len ≤ 260) (hg : ∀ k, am_r (g9 k)) (kk : ∀ (o bu r : Nat) (h1 : AH), LC w h1 o bu (gm_emp 2 2) am_Z (w.2 100) gm_pln am_Z 0 (-1) [] → TB h1 bu 0 (fun _ => 0) → RND h1 r → (o + 256 ≤ r ∧ r < h1.2.1 ∧ r ≠ bu) → (h1.2.1 ≤ h.2.1 + 258 ∧ h1.2.2 ≤ h.2.2 + 9000) → AQ w (mL nm TT) d 43 [(0, vr b0), (1, vi 1), (2, vi i9), (3, vr o), (4, vr bu)] [vr r] h1 Q)  : AQ w (mL nm TT) d 19 [(0, vr b0), (1, vi 1), (2, vi i9)] [] h Q := by
  obtain ⟨⟨⟨ci9, pf9, pg9, pc0, pc1, pc2⟩, p9b⟩, bs, hbs, -, hTX⟩ := id hW
  obtain ⟨t1, e3t⟩ : ∃ q : Nat, h.2.1 = q := ⟨_, rfl⟩
  refine q_no (ci := 7) e3t eL_law_19 rfl (show Cond.classLink RL 14 RX8 ∈ GW from am_gw 71 (by decide +kernel) (by decide +kernel)) (am_gw 72 (by decide +kernel) (by decide +kernel)) in_RX8 (fun h2 e3c e3f e3z => ?_)
  have k4 := (e3f b0 (by omega)).trans cb
  have e3u : h2.2.1 = t1 + 1 := by rw [e3z]
  have e3v : h2.2.2 = h.2.2 + 9 := by rw [e3z]
  have F5 : ∀ q, q < h.2.1 → ¬ NO q → h2.1 q = h.1 q := fun q q0 q1 => (e3f q (by omega)).trans ((fun _ _ _ => rfl) q q0 q1)
  refine q_blk (lv2 := [(0, vr b0), (1, vi 1), (2, vi i9)]) (st2 := [vr t1, vr t1]) kL_law_22 rfl ?_
  refine AQ.callIv (av := []) (st := [vr t1]) (c_X8_init e3c (by omega) ⟨⟨ci9, pf9, pg9, pc0, (F5 _ p9b id).trans pc1, pc2⟩, by omega⟩) lk_RL_244 (by omega) rfl rfl (Nat.le_of_ble_eq_true rfl) eL_law_23 (fun h8 e7 => ?_)
  obtain ⟨C9, z9, f9⟩ := e7
  have t9 : h8.2.1 = t1 + 256 := by rw [z9]
  have s9 : h8.2.2 = h2.2.2 + gm_slots := by rw [z9]
  have k9 := (f9 b0 (by omega)).trans k4
  have F10 : ∀ q, q < h.2.1 → ¬ NO q → h8.1 q = h.1 q := fun q q0 q1 => (f9 q (by omega)).trans (F5 q q0 q1)
  refine q_blk (lv2 := [(0, vr b0), (1, vi 1), (2, vi i9), (3, vr t1)]) (st2 := [vi 8]) kL_law_26 rfl ?_
  obtain ⟨t11, e13t⟩ : ∃ q : Nat, h8.2.1 = q := ⟨_, rfl⟩
  refine q_na (k := 100) 8 rfl e13t eL_law_29 (Or.inl ⟨rfl, rfl⟩) (am_gw 120 (by decide +kernel) (by decide +kernel)) (by omega) (by omega) (fun h12 e13c e13f e13z => ?_)
  have k14 := (e13f b0 (by omega)).trans k9
  have e13u : h12.2.1 = t11 + 1 := by rw [e13z]
  have e13v : h12.2.2 = h8.2.2 + 8 := by rw [e13z]
  have F15 : ∀ q, q < h.2.1 → ¬ NO q → h12.1 q = h.1 q := fun q q0 q1 => (e13f q (by omega)).trans (F10 q q0 q1)
  refine q_blk (lv2 := [(0, vr b0), (1, vi 1), (2, vi i9), (3, vr t1), (4, vr t11)]) (st2 := []) kL_law_31 rfl ?_
  obtain ⟨t16, e18t⟩ : ∃ q : Nat, h12.2.1 = q := ⟨_, rfl⟩
  refine q_no (ci := 10) e18t eL_law_33 rfl (show Cond.classLink RL 133 RX11 ∈ GW from am_gw 616 (by decide +kernel) (by decide +kernel)) (am_gw 617 (by decide +kernel) (by decide +kernel)) in_RX11 (fun h17 e18c e18f e18z => ?_)
  have k19 := (e18f b0 (by omega)).trans k14
  have k20 := (e18f t11 (by omega)).trans e13c
  have e18u : h17.2.1 = t16 + 1 := by rw [e18z]
  have e18v : h17.2.2 = h12.2.2 + 1 := by rw [e18z]
  have F21 : ∀ q, q < h.2.1 → ¬ NO q → h17.1 q = h.1 q := fun q q0 q1 => (e18f q (by omega)).trans (F15 q q0 q1)
  refine q_blk (lv2 := [(0, vr b0), (1, vi 1), (2, vi i9), (3, vr t1), (4, vr t11)]) (st2 := [vi i9, vr b0, vr t16, vr t16]) kL_law_36 rfl ?_
  refine q_ia eL_law_39 k19 (by decide) (by omega) (by omega) (z := (g9 i9)) rfl ?_
  refine AQ.callIv (av := [vi (g9 i9)]) (st := [vr t16]) (c_X11_init e18c (by omega) (sd := (g9 i9))) lk_RL_245 (by omega) rfl rfl (Nat.le_of_ble_eq_true rfl) eL_law_40 (fun h24 e23 => ?_)
  obtain ⟨R9, K9⟩ := e23
  obtain ⟨f8, ⟨a8, b8⟩, c8, d8⟩ := id K9
  have k25 := (f8 b0 (by omega) (by show ¬ _ = _; omega)).trans k19
  have k26 := (f8 t11 (by omega) (by show ¬ _ = _; omega)).trans k20
  have F27 : ∀ q, q < h.2.1 → ¬ NO q → h24.1 q = h.1 q := fun q q0 q1 => (f8 q (by omega) (by show ¬ _ = _; omega)).trans (F21 q q0 q1)
  have C3 : CCS h12 t1 (t1 + 1) (t1 + 2) (t1 + 26) (t1 + 50) (t1 + 52) (t1 + 59) (t1 + 62) (gm_emp 2 2) am_Z (w.2 100) gm_pln am_Z 0 (-1) [] := C9.loc0 (fun q _ b => e13f q (by omega)) (e13f _ (by omega)) (by omega) (by omega)
  have p3 : ∀ q, q < h.2.1 → h12.1 q = h.1 q := fun q q0 => F15 q q0 id
  have L3 : LC w h12 t1 t11 (gm_emp 2 2) am_Z (w.2 100) gm_pln am_Z 0 (-1) [] := ⟨C3, ⟨⟨⟨ci9, pf9, pg9, pc0, (p3 _ p9b).trans pc1, pc2⟩, by omega⟩, bs, hTX h12 (by omega) (fun q hq => p3 q (by omega)), by omega⟩, ⟨by omega, by omega⟩, by omega, fun e he => by cases he⟩
  have L4 := L3.kf (h1 := h17) (P := NO) (c := 1) (s := 1) ⟨fun q q0 _ => e18f q (by omega), ⟨by omega, by omega⟩, by omega, by omega⟩ (fun q z => z.elim)
  have L5 := L4.kf K9 (fun q z => by
    have z : q = t16 := z
    subst z
    exact ⟨by omega, Or.inr fun ci n ff fg e => by rw [e18c] at e; cases e; decide⟩)
  exact kk t1 t11 t16 h24 L5 ⟨am_Z, k26, rfl, fun i _ _ => rfl⟩ R9 ⟨by omega, by omega, by omega⟩ ⟨by omega, by unfold gm_slots at s9; omega⟩

set_option maxRecDepth 4000 in
set_option maxHeartbeats 4000000 in
theorem sg_V2 {nm : String} {TT : List (Nat × Nat × Nat × Nat)} {w : am_w} {d b0 : Nat} {i9 dn n : Int} {Q : RV → AH → Prop} {h : AH} {o bu r : Nat} (hd : 90 ≤ d) (hL : LC w h o bu (gm_emp 2 2) am_Z (w.2 100) gm_pln am_Z 0 (-1) []) (hB : TB h bu 0 (fun _ => 0)) (hR : RND h r) (hr : o + 256 ≤ r ∧ r < h.2.1 ∧ r ≠ bu) (kk : ∀ (cm : Int → Int) (h1 : AH), LC w h1 o bu (gm_emp 2 2) cm (w.2 100) gm_pln am_Z 0 (-1) [] → TB h1 bu 0 (fun _ => 0) → RND h1 r → (o + 256 ≤ r ∧ r < h1.2.1 ∧ r ≠ bu) → (h1.2.1 ≤ h.2.1 + 60 ∧ h1.2.2 ≤ h.2.2 + 400) → AQ w (mL nm TT) d 178 [(0, vr b0), (1, vi 1), (2, vi i9), (3, vr o), (4, vr bu), (5, vr r)] [vi 1] h1 Q)  : AQ w (mL nm TT) d 43 [(0, vr b0), (1, vi 1), (2, vi i9), (3, vr o), (4, vr bu)] [vr r] h Q := by
  have hu := hL.2.2.1
  have X9 : FX (gm_emp 2 2) := FX.emp ⟨by decide, by decide⟩ ⟨by decide, by decide⟩
  refine q_blk (lv2 := [(0, vr b0), (1, vi 1), (2, vi i9), (3, vr o), (4, vr bu), (5, vr r)]) (st2 := [vr o]) kL_law_43 rfl ?_
  obtain ⟨t1, e3t⟩ : ∃ q : Nat, h.2.1 = q := ⟨_, rfl⟩
  refine q_no (ci := 8) e3t eL_law_46 rfl (show Cond.classLink RL 129 RX9 ∈ GW from am_gw 461 (by decide +kernel) (by decide +kernel)) (am_gw 462 (by decide +kernel) (by decide +kernel)) in_RX9 (fun h2 e3c e3f e3z => ?_)
  have e3u : h2.2.1 = t1 + 1 := by rw [e3z]
  have e3v : h2.2.2 = h.2.2 + 5 := by rw [e3z]
  have F4 : ∀ q, q < h.2.1 → ¬ (fun q => o ≤ q ∧ q < o + 256) q → h2.1 q = h.1 q := fun q q0 q1 => (e3f q (by omega)).trans ((fun _ _ _ => rfl) q q0 q1)
  refine q_blk (lv2 := [(0, vr b0), (1, vi 1), (2, vi i9), (3, vr o), (4, vr bu), (5, vr r)]) (st2 := [vr t1, vr t1, vr o]) kL_law_49 rfl ?_
  refine AQ.callIv (av := []) (st := [vr t1, vr o]) (c_X9_init e3c (by omega)) lk_RL_131 (by omega) rfl rfl (Nat.le_of_ble_eq_true rfl) eL_law_50 (fun h7 e6 => ?_)
  obtain ⟨⟨t9, t9x, t9f, t9g, ⟨t9a, t9b⟩, ⟨t9c, t9d⟩, t9p, t9q, t9r⟩, f8, ⟨a8, b8⟩, c8, d8⟩ := e6
  have F8 : ∀ q, q < h.2.1 → ¬ (fun q => o ≤ q ∧ q < o + 256) q → h7.1 q = h.1 q := fun q q0 q1 => (f8 q (by omega) (by show ¬ _ = _; omega)).trans (F4 q q0 q1)
  have K1 : KF h h7 NO 3 5 := ⟨fun q q0 _ => (f8 q (by omega) (by show ¬ _ = _; omega)).trans (e3f q (by omega)), ⟨by omega, by omega⟩, by omega, by omega⟩
  have L1 := hL.kf K1 (fun q z => z.elim)
  have F9 : FLD h7 (fun q => FR h h7 q) t1 t9 t9x am_N am_N none (gm_emp 2 2) := FLD.new t9p t9q t9r ⟨by omega, by omega⟩ ⟨by omega, by omega⟩ ⟨by omega, by omega⟩
  refine AQ.callSi (av := [vr o, vr t1]) (st := []) (c_L_agrees L1 F9 X9 (FX.uq X9 L1.1.2.2.2.2.2.1.2.2.1) (fun k k0 k1 => (L1.1.2.2.2.2.2.1.2.2.1 k k0 k1).2) (fun q b => b.2) (Bn := NO) (Or.inl ⟨rfl, rfl⟩) (fun q b => b.elim) (fun q b z => by have := b.1; omega) (fun q b => b.elim)) lk_RL_247 (by omega) rfl rfl (Nat.le_of_ble_eq_true rfl) eL_law_53 (fun z9 h11 e10 => ?_)
  obtain ⟨g12e, g12l, g12f, ⟨g12a, g12b⟩, g12y, g12z⟩ := e10
  subst g12e
  have F13 : ∀ q, q < h.2.1 → ¬ (fun q => o ≤ q ∧ q < o + 256) q → h11.1 q = h.1 q := fun q q0 q1 => (g12f q (by omega) q1).trans (F8 q q0 q1)
  refine AQ.of (AS.if_eq_f eL_law_56 ⟨by decide, by decide⟩ (by decide) (by decide)) ?_
  refine q_blk (lv2 := [(0, vr b0), (1, vi 1), (2, vi i9), (3, vr o), (4, vr bu), (5, vr r)]) (st2 := [vr o]) kL_law_59 rfl ?_
  refine q_Vi (av := []) (st := []) (c_X8_errorOffset g12l.1) lk_RL_251 (by omega) rfl rfl g12l.1.ob ⟨_, rfl, rfl⟩ (Nat.le_of_ble_eq_true rfl) eL_law_60 (fun z14 e15 => ?_)
  subst e15
  refine q_blk (lv2 := [(0, vr b0), (1, vi 1), (2, vi i9), (3, vr o), (4, vr bu), (5, vr r)]) (st2 := [vi (-1), vi (-1)]) kL_law_63 rfl ?_
  refine AQ.of (AS.ic_ne_f eL_law_64 ⟨by decide, by decide⟩ ⟨by decide, by decide⟩ (by decide) (by decide)) ?_
  refine q_blk (lv2 := [(0, vr b0), (1, vi 1), (2, vi i9), (3, vr o), (4, vr bu), (5, vr r)]) (st2 := [vr o]) kL_law_67 rfl ?_
  refine AQ.callVi (av := []) (st := []) (c_X8_undo g12l.1) lk_RL_254 (by omega) rfl rfl g12l.1.ob ⟨_, rfl, rfl⟩ (Nat.le_of_ble_eq_true rfl) eL_law_68 (fun z16 h18 e17 => ?_)
  obtain ⟨g19h, g19g⟩ := e17
  obtain ⟨-, g19e, g19C⟩ := g19h.resolve_right (fun ⟨_, _, q, _⟩ => by cases q)
  have g19L := g12l.go g19C g19g ⟨(by first | exact g12l.2.2.2.1 | exact g12l.2.2.2.2 _ (List.mem_cons_self ..)), (by first | exact g12l.2.2.2.2 | exact fun e he => g12l.2.2.2.2 e (List.mem_cons_of_mem _ he))⟩
  obtain ⟨⟨g191, g192, g193, g194⟩, g195⟩ := id g19g
  have F20 : ∀ q, q < h.2.1 → ¬ (fun q => o ≤ q ∧ q < o + 256) q → h18.1 q = h.1 q := fun q q0 q1 => (g195 q (by omega) q1).trans (F13 q q0 q1)
  obtain rfl : z16 = (-1) := g19e
  refine q_blk (lv2 := [(0, vr b0), (1, vi 1), (2, vi i9), (3, vr o), (4, vr bu), (5, vr r)]) (st2 := [vi (-1), vi (-1)]) kL_law_71 rfl ?_
  refine AQ.of (AS.ic_ne_f eL_law_72 ⟨by decide, by decide⟩ ⟨by decide, by decide⟩ (by decide) (by decide)) ?_
  refine q_blk (lv2 := [(0, vr b0), (1, vi 1), (2, vi i9), (3, vr o), (4, vr bu), (5, vr r)]) (st2 := [vi 0, vi 0, vi 4, vr o]) kL_law_75 rfl ?_
  refine AQ.callWi (av := [vr o, vi 4, vi 0, vi 0]) (st := []) (c_L_begin (c_X8_begin g19L.1 ⟨by decide, by decide⟩ ⟨by decide, by decide⟩ ⟨by decide, by decide⟩) g19L.1.ob (fun k h1 q => by rcases q.1 with ⟨_, e⟩ | ⟨_, (⟨_, e⟩ | ⟨_, (⟨_, e⟩ | ⟨_, e⟩)⟩)⟩ <;> first | (cases e; first | exact Or.inl rfl | exact Or.inr rfl) | exact e.elim)) lkw_L_begin (by omega) rfl rfl (Nat.le_of_ble_eq_true rfl) eL_law_79 (fun z21 h23 e22 => ?_)
  obtain ⟨z21e, z21h⟩ := gx_th (k0 := 0) (fun q => by have := q.1.1; omega) (fun k q => by rcases q with ⟨_, e⟩ | ⟨a, _⟩ <;> first | (cases e; rfl) | omega) e22
  have z21k : KF h18 h23 NO 1 6 := by rw [z21h]; exact gm_thr_kf
  have z21L := g19L.kf z21k (fun q z => z.elim)
  obtain ⟨z21f, ⟨z21a, z21b⟩, z21c, z21d⟩ := id z21k
  obtain rfl : z21 = (-2000000098) := z21e
  have F24 : ∀ q, q < h.2.1 → ¬ (fun q => o ≤ q ∧ q < o + 256) q → h23.1 q = h.1 q := fun q q0 q1 => (z21f q (by omega) id).trans (F20 q q0 q1)
  refine AQ.of (AS.ldc (z := (-2000000098)) eL_law_82 (show Cond.constant RL 42 (Int32.ofInt (-2000000098)) ∈ GW from am_gw 1022 (by decide +kernel) (by decide +kernel))) ?_
  refine AQ.of (AS.ic_ne_f eL_law_84 ⟨by decide, by decide⟩ ⟨by decide, by decide⟩ (by decide) (by decide)) ?_
  refine q_blk (lv2 := [(0, vr b0), (1, vi 1), (2, vi i9), (3, vr o), (4, vr bu), (5, vr r)]) (st2 := [vi 0, vi 3, vi 0, vr o]) kL_law_87 rfl ?_
  refine AQ.callWi (av := [vr o, vi 0, vi 3, vi 0]) (st := []) (c_L_begin (c_X8_begin z21L.1 ⟨by decide, by decide⟩ ⟨by decide, by decide⟩ ⟨by decide, by decide⟩) z21L.1.ob (fun k h1 q => by rcases q.1 with ⟨_, e⟩ | ⟨_, (⟨_, e⟩ | ⟨_, (⟨_, e⟩ | ⟨_, e⟩)⟩)⟩ <;> first | (cases e; first | exact Or.inl rfl | exact Or.inr rfl) | exact e.elim)) lkw_L_begin (by omega) rfl rfl (Nat.le_of_ble_eq_true rfl) eL_law_91 (fun z25 h27 e26 => ?_)
  obtain ⟨z25e, z25h⟩ := gx_th (k0 := 0) (fun q => by have q2 : (3 : Int) ≤ 2 := q.1.2.1.1.2; omega) (fun k q => by rcases q with ⟨_, e⟩ | ⟨_, (⟨_, e⟩ | ⟨a, _⟩)⟩ <;> first | (cases e; rfl) | (exfalso; have q2 : (3 : Int) ≤ 2 := a.1.2; omega)) e26
  have z25k : KF h23 h27 NO 1 6 := by rw [z25h]; exact gm_thr_kf
  have z25L := z21L.kf z25k (fun q z => z.elim)
  obtain ⟨z25f, ⟨z25a, z25b⟩, z25c, z25d⟩ := id z25k
  obtain rfl : z25 = (-2000000098) := z25e
  have F28 : ∀ q, q < h.2.1 → ¬ (fun q => o ≤ q ∧ q < o + 256) q → h27.1 q = h.1 q := fun q q0 q1 => (z25f q (by omega) id).trans (F24 q q0 q1)
  refine AQ.of (AS.ldc (z := (-2000000098)) eL_law_94 (show Cond.constant RL 42 (Int32.ofInt (-2000000098)) ∈ GW from am_gw 1022 (by decide +kernel) (by decide +kernel))) ?_
  refine AQ.of (AS.ic_ne_f eL_law_96 ⟨by decide, by decide⟩ ⟨by decide, by decide⟩ (by decide) (by decide)) ?_
  refine q_blk (lv2 := [(0, vr b0), (1, vi 1), (2, vi i9), (3, vr o), (4, vr bu), (5, vr r)]) (st2 := [vi 1, vi 1, vi 0, vr o]) kL_law_99 rfl ?_
  refine AQ.callWi (av := [vr o, vi 0, vi 1, vi 1]) (st := []) (c_L_begin (c_X8_begin z25L.1 ⟨by decide, by decide⟩ ⟨by decide, by decide⟩ ⟨by decide, by decide⟩) z25L.1.ob (fun k h1 q => by rcases q.1 with ⟨_, e⟩ | ⟨_, (⟨_, e⟩ | ⟨_, (⟨_, e⟩ | ⟨_, e⟩)⟩)⟩ <;> first | (cases e; first | exact Or.inl rfl | exact Or.inr rfl) | exact e.elim)) lkw_L_begin (by omega) rfl rfl (Nat.le_of_ble_eq_true rfl) eL_law_103 (fun z29 h31 e30 => ?_)
  obtain ⟨-, D9, cm9, z29g, z29C, z29k⟩ := gx_ok (fun k q => by rcases q with ⟨a, e⟩ | ⟨_, (⟨a, e⟩ | ⟨_, (⟨a, e⟩ | ⟨a, e⟩)⟩)⟩ <;> first | exact e.elim | exact a ⟨by decide, by decide⟩ | exact a ⟨⟨by decide, by decide⟩, ⟨by decide, by decide⟩⟩ | exact absurd a (by decide)) e30
  obtain ⟨-, z29e, rfl⟩ := z29g.resolve_left (fun z => gx_oc0 z.1)
  have z29L := z25L.go z29C z29k ⟨z25L.2.2.2.1, fun e he => (List.mem_cons.mp he).elim (fun z => by rw [z]; exact z25L.2.2.2.1) (fun z => z25L.2.2.2.2 e (List.mem_of_mem_take z))⟩
  obtain ⟨⟨z291, z292, z293, z294⟩, z295⟩ := id z29k
  obtain rfl : z29 = 0 := z29e
  have F32 : ∀ q, q < h.2.1 → ¬ (fun q => o ≤ q ∧ q < o + 256) q → h31.1 q = h.1 q := fun q q0 q1 => (z295 q (by omega) q1).trans (F28 q q0 q1)
  refine AQ.of (AS.if_ne_f eL_law_106 ⟨by decide, by decide⟩ (by decide) (by decide)) ?_
  refine q_blk (lv2 := [(0, vr b0), (1, vi 1), (2, vi i9), (3, vr o), (4, vr bu), (5, vr r)]) (st2 := [vi 1, vi 1, vi 0, vr o]) kL_law_109 rfl ?_
  refine AQ.callWi (av := [vr o, vi 0, vi 1, vi 1]) (st := []) (c_L_corner (c_X8_corner z29L.1 ⟨by decide, by decide⟩ ⟨by decide, by decide⟩ ⟨by decide, by decide⟩) z29L.1.ob (fun k h1 q => by rcases q.1 with ⟨_, e⟩ | ⟨_, (⟨_, e⟩ | ⟨_, e⟩)⟩ <;> first | (cases e; first | exact Or.inl rfl | exact Or.inr rfl) | exact e.elim)) lkw_L_corner (by omega) rfl rfl (Nat.le_of_ble_eq_true rfl) eL_law_113 (fun z33 h35 e34 => ?_)
  obtain ⟨-, D9, cm9, z33g, z33C, z33k⟩ := gx_ok (fun k q => by rcases q with ⟨a, e⟩ | ⟨_, (⟨a, e⟩ | ⟨a, e⟩)⟩ <;> first | exact e.elim | exact a ⟨by decide, by decide⟩ | exact a ⟨⟨by decide, by decide⟩, ⟨by decide, by decide⟩⟩) e34
  obtain ⟨q9, q9r, q9c⟩ := z33g
  obtain rfl := gx_rc3 q9r
  obtain ⟨-, z33e, rfl⟩ := q9c.resolve_right (fun z => absurd z.1 (by decide))
  have z33L := z29L.go z33C z33k ⟨z29L.2.2.2.1, fun e he => (List.mem_cons.mp he).elim (fun z => by rw [z]; exact z29L.2.2.2.1) (fun z => z29L.2.2.2.2 e (List.mem_of_mem_take z))⟩
  obtain ⟨⟨z331, z332, z333, z334⟩, z335⟩ := id z33k
  obtain rfl : z33 = (-3) := z33e
  have F36 : ∀ q, q < h.2.1 → ¬ (fun q => o ≤ q ∧ q < o + 256) q → h35.1 q = h.1 q := fun q q0 q1 => (z335 q (by omega) q1).trans (F32 q q0 q1)
  refine q_blk (lv2 := [(0, vr b0), (1, vi 1), (2, vi i9), (3, vr o), (4, vr bu), (5, vr r)]) (st2 := [vi (-3), vi (-3)]) kL_law_116 rfl ?_
  refine AQ.of (AS.ic_ne_f eL_law_118 ⟨by decide, by decide⟩ ⟨by decide, by decide⟩ (by decide) (by decide)) ?_
  refine q_blk (lv2 := [(0, vr b0), (1, vi 1), (2, vi i9), (3, vr o), (4, vr bu), (5, vr r)]) (st2 := [vi 0, vr o]) kL_law_121 rfl ?_
  refine AQ.callWi (av := [vr o, vi 0]) (st := []) (c_L_close (c_X8_close z33L.1 ⟨by decide, by decide⟩) z33L.1.ob (fun k h1 q => by rcases q.1 with ⟨_, e⟩ | ⟨_, e⟩ <;> first | (cases e; rfl) | exact e.elim)) lkw_L_close (by omega) rfl rfl (Nat.le_of_ble_eq_true rfl) eL_law_123 (fun z37 h39 e38 => ?_)
  obtain ⟨-, D9, cm9, z37g, z37C, z37k⟩ := gx_ok (fun k q => by rcases q with ⟨a, e⟩ | ⟨a, e⟩ <;> first | exact e.elim | exact a ⟨by decide, by decide⟩) e38
  obtain ⟨q9, q9r, q9c⟩ := z37g
  obtain rfl := gx_rl6 q9r
  obtain ⟨-, z37e, rfl⟩ := q9c.resolve_right (fun z => absurd z.1 (by decide))
  have z37L := z33L.go z37C z37k ⟨z33L.2.2.2.1, fun e he => (List.mem_cons.mp he).elim (fun z => by rw [z]; exact z33L.2.2.2.1) (fun z => z33L.2.2.2.2 e (List.mem_of_mem_take z))⟩
  obtain ⟨⟨z371, z372, z373, z374⟩, z375⟩ := id z37k
  obtain rfl : z37 = (-6) := z37e
  have F40 : ∀ q, q < h.2.1 → ¬ (fun q => o ≤ q ∧ q < o + 256) q → h39.1 q = h.1 q := fun q q0 q1 => (z375 q (by omega) q1).trans (F36 q q0 q1)
  refine q_blk (lv2 := [(0, vr b0), (1, vi 1), (2, vi i9), (3, vr o), (4, vr bu), (5, vr r)]) (st2 := [vi (-6), vi (-6)]) kL_law_126 rfl ?_
  refine AQ.of (AS.ic_ne_f eL_law_128 ⟨by decide, by decide⟩ ⟨by decide, by decide⟩ (by decide) (by decide)) ?_
  refine q_blk (lv2 := [(0, vr b0), (1, vi 1), (2, vi i9), (3, vr o), (4, vr bu), (5, vr r)]) (st2 := [vr o]) kL_law_131 rfl ?_
  refine AQ.callVi (av := []) (st := []) (c_X8_undo z37L.1) lk_RL_254 (by omega) rfl rfl z37L.1.ob ⟨_, rfl, rfl⟩ (Nat.le_of_ble_eq_true rfl) eL_law_132 (fun z41 h43 e42 => ?_)
  obtain ⟨g44h, g44g⟩ := e42
  obtain ⟨e8, r8, q8, g44e, cm8, g44C⟩ := g44h.resolve_left (fun z => by cases z.1)
  cases q8
  have g44L := z37L.go g44C g44g ⟨(by first | exact z37L.2.2.2.1 | exact z37L.2.2.2.2 _ (List.mem_cons_self ..)), (by first | exact z37L.2.2.2.2 | exact fun e he => z37L.2.2.2.2 e (List.mem_cons_of_mem _ he))⟩
  obtain ⟨⟨g441, g442, g443, g444⟩, g445⟩ := id g44g
  have F45 : ∀ q, q < h.2.1 → ¬ (fun q => o ≤ q ∧ q < o + 256) q → h43.1 q = h.1 q := fun q q0 q1 => (g445 q (by omega) q1).trans (F40 q q0 q1)
  obtain rfl : z41 = 2 := g44e
  refine q_blk (lv2 := [(0, vr b0), (1, vi 1), (2, vi i9), (3, vr o), (4, vr bu), (5, vr r)]) (st2 := [vi 2, vi 2]) kL_law_135 rfl ?_
  refine AQ.of (AS.ic_ne_f eL_law_136 ⟨by decide, by decide⟩ ⟨by decide, by decide⟩ (by decide) (by decide)) ?_
  refine q_blk (lv2 := [(0, vr b0), (1, vi 1), (2, vi i9), (3, vr o), (4, vr bu), (5, vr r)]) (st2 := [vr o]) kL_law_139 rfl ?_
  refine AQ.callVi (av := []) (st := []) (c_X8_undo g44L.1) lk_RL_254 (by omega) rfl rfl g44L.1.ob ⟨_, rfl, rfl⟩ (Nat.le_of_ble_eq_true rfl) eL_law_140 (fun z46 h48 e47 => ?_)
  obtain ⟨g49h, g49g⟩ := e47
  obtain ⟨e8, r8, q8, g49e, cm8, g49C⟩ := g49h.resolve_left (fun z => by cases z.1)
  cases q8
  have g49L := g44L.go g49C g49g ⟨(by first | exact g44L.2.2.2.1 | exact g44L.2.2.2.2 _ (List.mem_cons_self ..)), (by first | exact g44L.2.2.2.2 | exact fun e he => g44L.2.2.2.2 e (List.mem_cons_of_mem _ he))⟩
  obtain ⟨⟨g491, g492, g493, g494⟩, g495⟩ := id g49g
  have F50 : ∀ q, q < h.2.1 → ¬ (fun q => o ≤ q ∧ q < o + 256) q → h48.1 q = h.1 q := fun q q0 q1 => (g495 q (by omega) q1).trans (F45 q q0 q1)
  obtain rfl : z46 = 1 := g49e
  refine q_blk (lv2 := [(0, vr b0), (1, vi 1), (2, vi i9), (3, vr o), (4, vr bu), (5, vr r)]) (st2 := [vi 1, vi 1]) kL_law_143 rfl ?_
  refine AQ.of (AS.ic_ne_f eL_law_144 ⟨by decide, by decide⟩ ⟨by decide, by decide⟩ (by decide) (by decide)) ?_
  refine q_blk (lv2 := [(0, vr b0), (1, vi 1), (2, vi i9), (3, vr o), (4, vr bu), (5, vr r)]) (st2 := [vr o]) kL_law_147 rfl ?_
  refine AQ.callVi (av := []) (st := []) (c_X8_undo g49L.1) lk_RL_254 (by omega) rfl rfl g49L.1.ob ⟨_, rfl, rfl⟩ (Nat.le_of_ble_eq_true rfl) eL_law_148 (fun z51 h53 e52 => ?_)
  obtain ⟨g54h, g54g⟩ := e52
  obtain ⟨e8, r8, q8, g54e, cm8, g54C⟩ := g54h.resolve_left (fun z => by cases z.1)
  cases q8
  have g54L := g49L.go g54C g54g ⟨(by first | exact g49L.2.2.2.1 | exact g49L.2.2.2.2 _ (List.mem_cons_self ..)), (by first | exact g49L.2.2.2.2 | exact fun e he => g49L.2.2.2.2 e (List.mem_cons_of_mem _ he))⟩
  obtain ⟨⟨g541, g542, g543, g544⟩, g545⟩ := id g54g
  have F55 : ∀ q, q < h.2.1 → ¬ (fun q => o ≤ q ∧ q < o + 256) q → h53.1 q = h.1 q := fun q q0 q1 => (g545 q (by omega) q1).trans (F50 q q0 q1)
  obtain rfl : z51 = 0 := g54e
  refine AQ.of (AS.if_ne_f eL_law_151 ⟨by decide, by decide⟩ (by decide) (by decide)) ?_
  refine q_blk (lv2 := [(0, vr b0), (1, vi 1), (2, vi i9), (3, vr o), (4, vr bu), (5, vr r)]) (st2 := [vi 0, vi 0, vi 0, vr o]) kL_law_154 rfl ?_
  refine AQ.callWi (av := [vr o, vi 0, vi 0, vi 0]) (st := []) (c_L_corner (c_X8_corner g54L.1 ⟨by decide, by decide⟩ ⟨by decide, by decide⟩ ⟨by decide, by decide⟩) g54L.1.ob (fun k h1 q => by rcases q.1 with ⟨_, e⟩ | ⟨_, (⟨_, e⟩ | ⟨_, e⟩)⟩ <;> first | (cases e; first | exact Or.inl rfl | exact Or.inr rfl) | exact e.elim)) lkw_L_corner (by omega) rfl rfl (Nat.le_of_ble_eq_true rfl) eL_law_158 (fun z56 h58 e57 => ?_)
  obtain ⟨z56e, z56h⟩ := gx_th (k0 := 2) (fun q => by have q2 : (0 : Int) < 0 := q.1.1.2; omega) (fun k q => by rcases q with ⟨_, e⟩ | ⟨a, _⟩ <;> first | (cases e; rfl) | (exfalso; have q2 : (0 : Int) < 0 := a.2; omega)) e57
  have z56k : KF h53 h58 NO 1 6 := by rw [z56h]; exact gm_thr_kf
  have z56L := g54L.kf z56k (fun q z => z.elim)
  obtain ⟨z56f, ⟨z56a, z56b⟩, z56c, z56d⟩ := id z56k
  obtain rfl : z56 = (-2000000097) := z56e
  have F59 : ∀ q, q < h.2.1 → ¬ (fun q => o ≤ q ∧ q < o + 256) q → h58.1 q = h.1 q := fun q q0 q1 => (z56f q (by omega) id).trans (F55 q q0 q1)
  refine AQ.of (AS.ldc (z := (-2000000097)) eL_law_161 (show Cond.constant RL 58 (Int32.ofInt (-2000000097)) ∈ GW from am_gw 1087 (by decide +kernel) (by decide +kernel))) ?_
  refine AQ.of (AS.ic_ne_f eL_law_163 ⟨by decide, by decide⟩ ⟨by decide, by decide⟩ (by decide) (by decide)) ?_
  refine q_blk (lv2 := [(0, vr b0), (1, vi 1), (2, vi i9), (3, vr o), (4, vr bu), (5, vr r)]) (st2 := [vr o]) kL_law_166 rfl ?_
  refine AQ.callVi (av := []) (st := []) (c_X8_leader z56L.1) lk_RL_264 (by omega) rfl rfl z56L.1.ob ⟨_, rfl, rfl⟩ (Nat.le_of_ble_eq_true rfl) eL_law_167 (fun z60 h62 e61 => ?_)
  obtain ⟨g63e, g63C, g63g⟩ := e61
  have g63L := z56L.go g63C g63g ⟨z56L.2.2.2.1, z56L.2.2.2.2⟩
  obtain ⟨⟨g631, g632, g633, g634⟩, g635⟩ := id g63g
  have F64 : ∀ q, q < h.2.1 → ¬ (fun q => o ≤ q ∧ q < o + 256) q → h62.1 q = h.1 q := fun q q0 q1 => (g635 q (by omega) q1).trans (F59 q q0 q1)
  obtain rfl : z60 = 0 := g63e
  refine AQ.of (AS.if_ne_f eL_law_170 ⟨by decide, by decide⟩ (by decide) (by decide)) ?_
  refine q_blk (lv2 := [(0, vr b0), (1, vi 1), (2, vi i9), (3, vr o), (4, vr bu), (5, vr r)]) (st2 := [vi 1]) kL_law_173 rfl ?_
  refine q_goto (tgt := 178) eL_law_174 (by decide) ?_
  exact kk _ h62 g63L (hB.mv (F64 bu hL.2.2.1.2 (fun z => by omega))) (hR.mv (F64 r hr.2.1 (fun z => by omega))) ⟨hr.1, by omega, hr.2.2⟩ ⟨by omega, by omega⟩

set_option maxRecDepth 4000 in
set_option maxHeartbeats 4000000 in
theorem sg_V3 {nm : String} {TT : List (Nat × Nat × Nat × Nat)} {w : am_w} {d b0 : Nat} {i9 dn n : Int} {Q : RV → AH → Prop} {h : AH} {o bu r : Nat} {cm : Int → Int} (hd : 90 ≤ d) (hL : LC w h o bu (gm_emp 2 2) cm (w.2 100) gm_pln am_Z 0 (-1) []) (hB : TB h bu 0 (fun _ => 0)) (hR : RND h r) (hr : o + 256 ≤ r ∧ r < h.2.1 ∧ r ≠ bu) (kk : ∀ {sa : Nat} {gs : Int → Option Nat} {T : Option Nat} {L : GL} {tx : Int → Int} (bf f : Nat) (h1 : AH), LHD w o bu r bf f sa gs T L h1 tx 0 (-1) 0 → (h1.2.1 ≤ h.2.1 + 643 ∧ h1.2.2 ≤ h.2.2 + 301909) → AQ w (mL nm TT) d 228 [(0, vr b0), (1, vi 1), (2, vi i9), (3, vr o), (4, vr bu), (5, vr r), (6, vr f), (7, vr bf), (8, vi 0), (9, vi 0)] [] h1 Q)  : AQ w (mL nm TT) d 178 [(0, vr b0), (1, vi 1), (2, vi i9), (3, vr o), (4, vr bu), (5, vr r)] [vi 1] h Q := by
  refine q_blk (lv2 := [(0, vr b0), (1, vi 1), (2, vi i9), (3, vr o), (4, vr bu), (5, vr r)]) (st2 := [vr r, vr bu, vr o]) kL_law_178 rfl ?_
  refine AQ.callSr (av := [vr o, vr bu, vr r]) (st := []) (c_L_randomField hL hB (fun _ => rfl) hR hr) lk_RL_267 (by omega) rfl rfl (Nat.le_of_ble_eq_true rfl) eL_law_184 (fun z1 h3 e2 => ?_)
  obtain ⟨⟨T, sa, pa, gs, gp, D, Lo, cm2, sc2, tx2, L1, R1, F1, X1, tr1⟩, b1, b2⟩ := e2
  refine q_blk (lv2 := [(0, vr b0), (1, vi 1), (2, vi i9), (3, vr o), (4, vr bu), (5, vr r), (6, vr z1)]) (st2 := [vr z1]) kL_law_187 rfl ?_
  refine AQ.of (AS.nn_t (tgt := 196) eL_law_191 (by decide)) ?_
  refine q_blk (lv2 := [(0, vr b0), (1, vi 1), (2, vi i9), (3, vr o), (4, vr bu), (5, vr r), (6, vr z1)]) (st2 := [vi 1]) kL_law_196 rfl ?_
  refine AQ.of (AS.if_eq_f eL_law_197 ⟨by decide, by decide⟩ (by decide) (by decide)) ?_
  refine q_blk (lv2 := [(0, vr b0), (1, vi 1), (2, vi i9), (3, vr o), (4, vr bu), (5, vr r), (6, vr z1)]) (st2 := [vr z1, vr o]) kL_law_200 rfl ?_
  refine AQ.callSi (av := [vr o, vr z1]) (st := []) (c_L_agrees L1 F1 X1 (FX.uq X1 L1.1.2.2.2.2.2.1.2.2.1) (fun k k0 k1 => (L1.1.2.2.2.2.2.1.2.2.1 k k0 k1).2) (fun q b => b.1.2) tr1 (fun q b => b.1.1.2) (fun q b z => by have := b.1.1; omega) (fun q b z => by have := b.1.1.1; omega)) lk_RL_247 (by omega) rfl rfl (Nat.le_of_ble_eq_true rfl) eL_law_203 (fun z4 h6 e5 => ?_)
  obtain ⟨g2e, L2, K2⟩ := e5
  subst g2e
  obtain ⟨-, ⟨k2a, k2b⟩, k2c, k2d⟩ := id K2
  have nin : ∀ q, LB o bu r r h3 q → h6.1 q = h3.1 q := fun q b => K2.1 q b.1.2 (fun z => by have := b.1; omega)
  have F2 := F1.loc (h1 := h6) (B1 := LB o bu r r h6) nin (fun q b => b.up K2.2.1.1)
  have R2 := R1.1.mv (K2.1 r R1.2.2.1 (fun z => by have := R1.2.1; omega))
  have tr2 := tr1.mv (h1 := h6) (B1 := fun z => LB o bu r r h6 z ∧ ¬ MS z1 gp (D 3) z) (fun q b => nin q b.1) (fun q b => ⟨b.1.up K2.2.1.1, b.2⟩)
  refine AQ.of (AS.if_eq_f eL_law_206 ⟨by decide, by decide⟩ (by decide) (by decide)) ?_
  refine q_blk (lv2 := [(0, vr b0), (1, vi 1), (2, vi i9), (3, vr o), (4, vr bu), (5, vr r), (6, vr z1)]) (st2 := [vi 1]) kL_law_209 rfl ?_
  refine q_goto (tgt := 214) eL_law_210 (by decide) ?_
  refine q_blk (lv2 := [(0, vr b0), (1, vi 1), (2, vi i9), (3, vr o), (4, vr bu), (5, vr r), (6, vr z1)]) (st2 := [vi 9]) kL_law_214 rfl ?_
  obtain ⟨t7, e9t⟩ : ∃ q : Nat, h6.2.1 = q := ⟨_, rfl⟩
  refine q_nR (k := 107) 9 rfl e9t eL_law_217 (Or.inr (Or.inr (Or.inr ⟨rfl, rfl⟩))) (show Cond.classLink RL 129 "CornerClaimsLaw$Field" ∈ GW from am_gw 461 (by decide +kernel) (by decide +kernel)) (by omega) (by omega) (fun h8 e9c e9f e9z => ?_)
  have e9u : h8.2.1 = t7 + 1 := by rw [e9z]
  have e9v : h8.2.2 = h6.2.2 + 9 := by rw [e9z]
  refine q_blk (lv2 := [(0, vr b0), (1, vi 1), (2, vi i9), (3, vr o), (4, vr bu), (5, vr r), (6, vr z1), (7, vr t7), (8, vi 0), (9, vi 0)]) (st2 := []) kL_law_220 rfl ?_
  have u2 := L2.2.2.1
  have K3 : KF h6 h8 NO 1 9 := ⟨fun q q0 _ => e9f q (by omega), ⟨by omega, by omega⟩, by omega, by omega⟩
  have L3 := L2.kf K3 (fun q z => z.elim)
  have lb : ∀ q, LB o bu r r h6 q → LB o bu r t7 h8 q := fun q b => ⟨⟨b.1.1, by have := b.1.2; omega⟩, b.2.1, b.2.2.1, by have := b.1.2; omega⟩
  have F3 := F2.loc (h1 := h8) (B1 := LB o bu r t7 h8) (fun q b => K3.1 q b.1.2 id) lb
  have tr3 : TRM h8 (LBM o bu r t7 z1 gp (D 3) h8) T (gm_cod Lo) := tr2.mv (fun q b => K3.1 q b.1.1.2 id) (fun q b => ⟨lb q b.1, b.2⟩)
  have R3 := R2.mv (K3.1 r (by have := R1.2.2.1; omega) id)
  have I3 : INV w o bu r t7 z1 sa pa gs gp T (gm_cod Lo) h8 D cm2 sc2 tx2 0 (-1) _ [] := ⟨L3, F3, X1, ⟨⟨R3, ⟨R1.2.1, by have := R1.2.2.1; omega, R1.2.2.2⟩, ⟨by omega, by omega, by omega⟩⟩, ⟨am_Z, am_N, e9c, fun j _ _ => Or.inl rfl, fun j e he => by simp at he⟩, tr3⟩⟩
  exact kk t7 z1 h8 ⟨D, cm2, _, [], _, pa, gp, sc2, I3, (List.nil_append _).symm, by decide, rfl⟩ ⟨by omega, by omega⟩
