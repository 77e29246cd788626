/-! The law's text: letters in words of four, five words at once to the class. -/
/-- the class's object, as the law holds it -/
def LC (w : am_w) (h : AH) (o bu : Nat) (D cm : Int → Int) (sc : Nat) (L : GL) (tx : Int → Int) (bl le : Int) (Hs : List GE) : Prop := CCS h o (o + 1) (o + 2) (o + 26) (o + 50) (o + 52) (o + 59) (o + 62) D cm sc L tx bl le Hs ∧ PLN w h o ∧ (o + 256 ≤ bu ∧ bu < h.2.1) ∧ sc ≠ bu ∧ ∀ e ∈ Hs, e.2.2.1 ≠ bu
section LCS
variable {w : am_w} {h h1 : AH} {o bu : Nat} {D cm : Int → Int} {sc : Nat} {L : GL} {tx : Int → Int} {bl le : Int} {Hs : List GE}
theorem SCW.kf {P : Nat → Prop} {c s : Nat} (k : SCW h o sc L) (f : KF h h1 P c s) (hP : ∀ q, P q → o + 256 ≤ q ∧ (q = bu ∨ ∀ ci n ff fg, h.1 q = some (ci, n, ff, fg) → ci ≠ 100 ∧ ci ≠ 110)) (oz : o ≤ h.2.1) (ns : sc ≠ bu) : SCW h1 o sc L := by
  obtain ⟨⟨ci, ff, g9, c0, c1, c2⟩, w9, p⟩ := k
  have n : ¬ P sc := fun z => by
    rcases (hP sc z).2 with e | e
    · exact ns e
    · have := e _ _ _ _ c1; omega
  have l := f.2.1.1
  exact ⟨⟨ci, ff, g9, c0, (f.1 sc (by omega) n).trans c1, c2⟩, w9, by omega⟩
theorem CCS.locG {u b a j t s r : Nat} (k : CCS h o u b a j t s r D cm sc L tx bl le Hs) (f : ∀ q, o ≤ q → q < o + 256 → h1.1 q = h.1 q) (hs : SCW h1 o sc L) (hH : ∀ e ∈ Hs, SCW h1 o e.2.2.1 e.2.2.2) (l : h.2.1 ≤ h1.2.1) : CCS h1 o u b a j t s r D cm sc L tx bl le Hs := by
  obtain ⟨⟨k1, k2, k3, k4, k5, k6, k7, k8⟩, c0, ⟨c1, x1⟩, c2, c3, ⟨v1, v2, v3, v4⟩, c5, c6, c7, ⟨kd, st, vl, tc, he, nu, px, cl, hs9, er, ea, cd, ⟨t0, t1, t2, t3, t4, t5, t6, t7⟩, q1⟩, c9, c10, c11⟩ := k
  exact ⟨⟨k1, k2, k3, k4, k5, k6, k7, Nat.le_trans k8 l⟩, (f _ (by omega) (by omega)).trans c0, ⟨(f _ (by omega) (by omega)).trans c1, x1⟩, c2, c3.loc (fun q a b => f q (by omega) (by omega)) v1.2.2.2.1.2, ⟨v1, v2, v3, hs⟩, c5.loc (fun q a b => f q (by omega) (by omega)), (f _ (by omega) (by omega)).trans c6, c7.loc (f _ (by omega) (by omega)), ⟨kd, st, vl, tc, he, nu, px, cl, hs9, er, ea, cd, ⟨(f _ (by omega) (by omega)).trans t0, (f _ (by omega) (by omega)).trans t1, (f _ (by omega) (by omega)).trans t2, (f _ (by omega) (by omega)).trans t3, (f _ (by omega) (by omega)).trans t4, t5, (f _ (by omega) (by omega)).trans t6, t7.loc (f _ (by omega) (by omega))⟩, q1⟩, SCD.loc9 c9 (fun q a b => f q (by omega) (by omega)), c10.loc (fun q a b => f q (by omega) (by omega)), fun e he => ⟨(c11 e he).1, (c11 e he).2.1, (c11 e he).2.2.1, hH e he⟩⟩
theorem LC.kf {P : Nat → Prop} {c s : Nat} (k : LC w h o bu D cm sc L tx bl le Hs) (f : KF h h1 P c s) (hP : ∀ q, P q → o + 256 ≤ q ∧ (q = bu ∨ ∀ ci n ff fg, h.1 q = some (ci, n, ff, fg) → ci ≠ 100 ∧ ci ≠ 110)) : LC w h1 o bu D cm sc L tx bl le Hs := by
  obtain ⟨C, ⟨⟨pi, pf, pg, p0, p1, p2⟩, p3⟩, hbu, ns, nh⟩ := k
  have l := f.2.1.1
  have e8 := C.1.2.2.2.2.2.2.2
  have loc : ∀ q, q < o + 256 → h1.1 q = h.1 q := fun q q1 => f.1 q (by omega) fun z => by have := (hP q z).1; omega
  exact ⟨C.locG (fun q _ b => loc q b) (SCW.kf C.2.2.2.2.2.1.2.2.2 f hP (by omega) ns) (fun e he => SCW.kf (C.2.2.2.2.2.2.2.2.2.2.2.2 e he).2.2.2 f hP (by omega) (nh e he)) l, ⟨⟨pi, pf, pg, p0, (loc _ (by omega)).trans p1, p2⟩, p3⟩, ⟨hbu.1, by omega⟩, ns, nh⟩
theorem KF.one {a : Nat} {x : AC} (e : h1 = am_set h a x) : KF h h1 (fun q => q = a) 0 0 := by
  have z := am_z e
  exact ⟨fun q _ n => am_ne e q n, ⟨by rw [z]; exact Nat.le_refl _, by rw [z]; exact Nat.le_refl _⟩, by rw [z]; exact Nat.le_refl _, by rw [z]; exact Nat.le_refl _⟩
/-- the buffer itself is written -/
theorem LC.wb (k : LC w h o bu D cm sc L tx bl le Hs) {x : AC} (e : h1 = am_set h bu x) : LC w h1 o bu D cm sc L tx bl le Hs := k.kf (KF.one e) fun q z => ⟨by have := k.2.2.1.1; have : q = bu := z; omega, Or.inl z⟩
/-- the class's object after a call of its own -/
theorem LC.go {D' cm' : Int → Int} {sc' n : Nat} {L' : GL} {tx' : Int → Int} {bl' le' : Int} {Hs' : List GE} (k : LC w h o bu D cm sc L tx bl le Hs) (C : CCS h1 o (o + 1) (o + 2) (o + 26) (o + 50) (o + 52) (o + 59) (o + 62) D' cm' sc' L' tx' bl' le' Hs') (g : am_go n h h1 o) (hn : sc' ≠ bu ∧ ∀ e ∈ Hs', e.2.2.1 ≠ bu) : LC w h1 o bu D' cm' sc' L' tx' bl' le' Hs' := by
  obtain ⟨C0, hP, hbu, -⟩ := k
  have e8 := C0.1.2.2.2.2.2.2.2
  exact ⟨C, hP.go g (by omega), ⟨hbu.1, by have := g.1.1; omega⟩, hn⟩
theorem am_go.kf {n : Nat} (g : am_go n h h1 o) : KF h h1 (fun q => o ≤ q ∧ q < o + 256) n (800 * n) := ⟨fun q a b => g.2 q a b, ⟨g.1.1, g.1.2.1⟩, g.1.2.2.1, g.1.2.2.2⟩
/-- the law's buffer: so many letters, these words -/
def TB (h : AH) (bu : Nat) (ln : Int) (W : Int → Int) : Prop := ∃ fb, h.1 bu = some (100, 8, fb, am_N) ∧ fb 0 = ln ∧ ∀ i, 0 ≤ i → i < 5 → fb (1 + i) = W i
theorem TB.mv {ln : Int} {W : Int → Int} (k : TB h bu ln W) (e : h1.1 bu = h.1 bu) : TB h1 bu ln W := by
  obtain ⟨fb, c, r⟩ := k
  exact ⟨fb, e.trans c, r⟩
end LCS

set_option maxRecDepth 4000 in
set_option maxHeartbeats 1000000 in
theorem c_L_flush {w : am_w} {h : AH} {o bu : Nat} {D cm : Int → Int} {sc : Nat} {L : GL} {tx : Int → Int} {bl le : Int} {Hs : List GE} (hL : LC w h o bu D cm sc L tx bl le Hs) {ln : Int} {W : Int → Int} (hB : TB h bu ln W) (rw9 : ∀ i, 0 ≤ i → i < 5 → am_r (W i)) (hbl : bl + 20 ≤ 800)  : AE w m_L_flush 6 [vr o, vr bu] h (am_unit (fun h1 => (LC w h1 o bu D cm sc L (gm_pw (gm_pw (gm_pw (gm_pw (gm_pw tx bl (W 0)) (bl + 4) (W 1)) (bl + 8) (W 2)) (bl + 12) (W 3)) (bl + 16) (W 4)) (bl + 20) le Hs ∧ TB h1 bu ln (fun _ => 0)) ∧ KF h h1 (fun q => (o ≤ q ∧ q < o + 256) ∨ q = bu) 0 0)) := by
  refine AE.of wf_L_flush (Nat.le_of_ble_eq_true rfl) (am_ok_v) ?_
  obtain ⟨C0, hP, ⟨b0, b1⟩, ns9, nh9⟩ := id hL
  have e8 := C0.1.2.2.2.2.2.2.2
  obtain ⟨fb, d0, e0, ew⟩ := hB
  refine q_blk (lv2 := [(0, vr o), (1, vr bu)]) (st2 := [vi 1, vr bu, vr o]) kL_flush_0 rfl ?_
  refine q_ia eL_flush_3 d0 (by decide) (by omega) (by omega) (z := (W 0)) (ew 0 (by decide) (by decide)) ?_
  refine q_blk (lv2 := [(0, vr o), (1, vr bu)]) (st2 := [vi 2, vr bu, vi (W 0), vr o]) kL_flush_4 rfl ?_
  refine q_ia eL_flush_6 d0 (by decide) (by omega) (by omega) (z := (W 1)) (ew 1 (by decide) (by decide)) ?_
  refine q_blk (lv2 := [(0, vr o), (1, vr bu)]) (st2 := [vi 3, vr bu, vi (W 1), vi (W 0), vr o]) kL_flush_7 rfl ?_
  refine q_ia eL_flush_9 d0 (by decide) (by omega) (by omega) (z := (W 2)) (ew 2 (by decide) (by decide)) ?_
  refine q_blk (lv2 := [(0, vr o), (1, vr bu)]) (st2 := [vi 4, vr bu, vi (W 2), vi (W 1), vi (W 0), vr o]) kL_flush_10 rfl ?_
  refine q_ia eL_flush_12 d0 (by decide) (by omega) (by omega) (z := (W 3)) (ew 3 (by decide) (by decide)) ?_
  refine q_blk (lv2 := [(0, vr o), (1, vr bu)]) (st2 := [vi 5, vr bu, vi (W 3), vi (W 2), vi (W 1), vi (W 0), vr o]) kL_flush_13 rfl ?_
  refine q_ia eL_flush_15 d0 (by decide) (by omega) (by omega) (z := (W 4)) (ew 4 (by decide) (by decide)) ?_
  refine AQ.callVi (av := [vi (W 0), vi (W 1), vi (W 2), vi (W 3), vi (W 4)]) (st := []) (c_X8_append C0 (w0 := W 0) (w1 := W 1) (w2 := W 2) (w3 := W 3) (w4 := W 4) (rw9 0 (by decide) (by decide)) (rw9 1 (by decide) (by decide)) (rw9 2 (by decide) (by decide)) (rw9 3 (by decide) (by decide)) (rw9 4 (by decide) (by decide))) lk_RL_13 (by decide) rfl rfl C0.ob ⟨_, rfl, rfl⟩ (Nat.le_of_ble_eq_true rfl) eL_flush_16 (fun z1 h3 e2 => ?_)
  obtain ⟨z1q, z1g⟩ := e2
  obtain ⟨-, -, z1c⟩ := z1q.resolve_left (fun z => by have := z.1; omega)
  have C4 := hL.go z1c z1g ⟨ns9, nh9⟩
  obtain ⟨⟨z11, z12, z13, z14⟩, z15⟩ := z1g
  have k5 := (z15 bu (by omega) (by omega)).trans d0
  have F6 : ∀ q, q < h.2.1 → ¬ (fun q => (o ≤ q ∧ q < o + 256) ∨ q = bu) q → h3.1 q = h.1 q := fun q q0 q1 => (z15 q (by omega) (fun c => q1 (Or.inl c))).trans ((fun _ _ _ => rfl) q q0 q1)
  refine q_blk (lv2 := [(0, vr o), (1, vr bu), (2, vi 1)]) (st2 := []) kL_flush_19 rfl ?_
  refine q_blk (lv2 := [(0, vr o), (1, vr bu), (2, vi 1)]) (st2 := [vi 6, vi 1]) kL_flush_22 rfl ?_
  refine AQ.of (AS.ic_ge_f eL_flush_25 ⟨by decide, by decide⟩ ⟨by decide, by decide⟩ (by decide) (by decide)) ?_
  refine q_blk (lv2 := [(0, vr o), (1, vr bu), (2, vi 1)]) (st2 := [vi 0, vi 1, vr bu]) kL_flush_28 rfl ?_
  refine q_is eL_flush_31 k5 (by omega) (by omega) (fun h7 e8 => ?_)
  have k9 := am_at e8
  have e8u : h7.2.1 = h3.2.1 := congrArg Prod.fst (am_z e8)
  have e8v : h7.2.2 = h3.2.2 := congrArg Prod.snd (am_z e8)
  have F10 : ∀ q, q < h.2.1 → ¬ (fun q => (o ≤ q ∧ q < o + 256) ∨ q = bu) q → h7.1 q = h.1 q := fun q q0 q1 => (am_ne e8 q (fun c => q1 (Or.inr c))).trans (F6 q q0 q1)
  have C11 := C4.wb e8
  refine q_blk (lv2 := [(0, vr o), (1, vr bu), (2, vi (1 + 1))]) (st2 := []) kL_flush_32 rfl ?_
  refine q_goto (tgt := 22) eL_flush_35 (by decide) ?_
  refine q_blk (lv2 := [(0, vr o), (1, vr bu), (2, vi (1 + 1))]) (st2 := [vi 6, vi (1 + 1)]) kL_flush_22 rfl ?_
  refine AQ.of (AS.ic_ge_f eL_flush_25 (by first | assumption | exact ⟨by omega, by omega⟩ | exact ⟨by decide, by decide⟩) ⟨by decide, by decide⟩ (by decide) (by decide)) ?_
  refine q_blk (lv2 := [(0, vr o), (1, vr bu), (2, vi (1 + 1))]) (st2 := [vi 0, vi (1 + 1), vr bu]) kL_flush_28 rfl ?_
  refine q_is eL_flush_31 k9 (by omega) (by omega) (fun h12 e13 => ?_)
  have k14 := am_at e13
  have e13u : h12.2.1 = h7.2.1 := congrArg Prod.fst (am_z e13)
  have e13v : h12.2.2 = h7.2.2 := congrArg Prod.snd (am_z e13)
  have F15 : ∀ q, q < h.2.1 → ¬ (fun q => (o ≤ q ∧ q < o + 256) ∨ q = bu) q → h12.1 q = h.1 q := fun q q0 q1 => (am_ne e13 q (fun c => q1 (Or.inr c))).trans (F10 q q0 q1)
  have C16 := C11.wb e13
  refine q_blk (lv2 := [(0, vr o), (1, vr bu), (2, vi ((1 + 1) + 1))]) (st2 := []) kL_flush_32 rfl ?_
  refine q_goto (tgt := 22) eL_flush_35 (by decide) ?_
  refine q_blk (lv2 := [(0, vr o), (1, vr bu), (2, vi ((1 + 1) + 1))]) (st2 := [vi 6, vi ((1 + 1) + 1)]) kL_flush_22 rfl ?_
  refine AQ.of (AS.ic_ge_f eL_flush_25 (by first | assumption | exact ⟨by omega, by omega⟩ | exact ⟨by decide, by decide⟩) ⟨by decide, by decide⟩ (by decide) (by decide)) ?_
  refine q_blk (lv2 := [(0, vr o), (1, vr bu), (2, vi ((1 + 1) + 1))]) (st2 := [vi 0, vi ((1 + 1) + 1), vr bu]) kL_flush_28 rfl ?_
  refine q_is eL_flush_31 k14 (by omega) (by omega) (fun h17 e18 => ?_)
  have k19 := am_at e18
  have e18u : h17.2.1 = h12.2.1 := congrArg Prod.fst (am_z e18)
  have e18v : h17.2.2 = h12.2.2 := congrArg Prod.snd (am_z e18)
  have F20 : ∀ q, q < h.2.1 → ¬ (fun q => (o ≤ q ∧ q < o + 256) ∨ q = bu) q → h17.1 q = h.1 q := fun q q0 q1 => (am_ne e18 q (fun c => q1 (Or.inr c))).trans (F15 q q0 q1)
  have C21 := C16.wb e18
  refine q_blk (lv2 := [(0, vr o), (1, vr bu), (2, vi (((1 + 1) + 1) + 1))]) (st2 := []) kL_flush_32 rfl ?_
  refine q_goto (tgt := 22) eL_flush_35 (by decide) ?_
  refine q_blk (lv2 := [(0, vr o), (1, vr bu), (2, vi (((1 + 1) + 1) + 1))]) (st2 := [vi 6, vi (((1 + 1) + 1) + 1)]) kL_flush_22 rfl ?_
  refine AQ.of (AS.ic_ge_f eL_flush_25 (by first | assumption | exact ⟨by omega, by omega⟩ | exact ⟨by decide, by decide⟩) ⟨by decide, by decide⟩ (by decide) (by decide)) ?_
  refine q_blk (lv2 := [(0, vr o), (1, vr bu), (2, vi (((1 + 1) + 1) + 1))]) (st2 := [vi 0, vi (((1 + 1) + 1) + 1), vr bu]) kL_flush_28 rfl ?_
  refine q_is eL_flush_31 k19 (by omega) (by omega) (fun h22 e23 => ?_)
  have k24 := am_at e23
  have e23u : h22.2.1 = h17.2.1 := congrArg Prod.fst (am_z e23)
  have e23v : h22.2.2 = h17.2.2 := congrArg Prod.snd (am_z e23)
  have F25 : ∀ q, q < h.2.1 → ¬ (fun q => (o ≤ q ∧ q < o + 256) ∨ q = bu) q → h22.1 q = h.1 q := fun q q0 q1 => (am_ne e23 q (fun c => q1 (Or.inr c))).trans (F20 q q0 q1)
  have C26 := C21.wb e23
  refine q_blk (lv2 := [(0, vr o), (1, vr bu), (2, vi ((((1 + 1) + 1) + 1) + 1))]) (st2 := []) kL_flush_32 rfl ?_
  refine q_goto (tgt := 22) eL_flush_35 (by decide) ?_
  refine q_blk (lv2 := [(0, vr o), (1, vr bu), (2, vi ((((1 + 1) + 1) + 1) + 1))]) (st2 := [vi 6, vi ((((1 + 1) + 1) + 1) + 1)]) kL_flush_22 rfl ?_
  refine AQ.of (AS.ic_ge_f eL_flush_25 (by first | assumption | exact ⟨by omega, by omega⟩ | exact ⟨by decide, by decide⟩) ⟨by decide, by decide⟩ (by decide) (by decide)) ?_
  refine q_blk (lv2 := [(0, vr o), (1, vr bu), (2, vi ((((1 + 1) + 1) + 1) + 1))]) (st2 := [vi 0, vi ((((1 + 1) + 1) + 1) + 1), vr bu]) kL_flush_28 rfl ?_
  refine q_is eL_flush_31 k24 (by omega) (by omega) (fun h27 e28 => ?_)
  have k29 := am_at e28
  have e28u : h27.2.1 = h22.2.1 := congrArg Prod.fst (am_z e28)
  have e28v : h27.2.2 = h22.2.2 := congrArg Prod.snd (am_z e28)
  have F30 : ∀ q, q < h.2.1 → ¬ (fun q => (o ≤ q ∧ q < o + 256) ∨ q = bu) q → h27.1 q = h.1 q := fun q q0 q1 => (am_ne e28 q (fun c => q1 (Or.inr c))).trans (F25 q q0 q1)
  have C31 := C26.wb e28
  refine q_blk (lv2 := [(0, vr o), (1, vr bu), (2, vi (((((1 + 1) + 1) + 1) + 1) + 1))]) (st2 := []) kL_flush_32 rfl ?_
  refine q_goto (tgt := 22) eL_flush_35 (by decide) ?_
  refine q_blk (lv2 := [(0, vr o), (1, vr bu), (2, vi (((((1 + 1) + 1) + 1) + 1) + 1))]) (st2 := [vi 6, vi (((((1 + 1) + 1) + 1) + 1) + 1)]) kL_flush_22 rfl ?_
  refine AQ.of (AS.ic_ge_t (tgt := 38) eL_flush_25 (by decide) (by first | assumption | exact ⟨by omega, by omega⟩ | exact ⟨by decide, by decide⟩) ⟨by decide, by decide⟩ (by decide)) ?_
  exact q_rv rfl eL_flush_38 ⟨rfl, ⟨C31, _, k29, (by unfold am_uI; repeat (first | rw [if_pos (by decide)] | rw [if_neg (by decide)]); exact e0), fun i i0 i1 => by
    rcases (show i = 0 ∨ i = 1 ∨ i = 2 ∨ i = 3 ∨ i = 4 by omega) with rfl | rfl | rfl | rfl | rfl <;> rfl⟩, ⟨F30, ⟨by omega, by omega⟩, by omega, by omega⟩⟩
