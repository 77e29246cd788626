/-! The law's text: letters in words of four, five words at once to the class. -/
/-- the script, wherever it lies -/
def SCR (w : am_w) (h : AH) (b : Nat) : Prop := w.2 400 < b ∧ ∃ (len : Int) (g : Int → Int) (G : Int → Option Nat), h.1 (w.2 400) = some (110, len, g, G) ∧ (0 ≤ len ∧ len ≤ 260) ∧ ∀ k, am_r (g k)
/-- what was there before the law began -/
def TXX (w : am_w) (h : AH) (b : Nat) : Prop := TXW w h b ∧ SCR w h b
theorem TXX.mv {w : am_w} {h h1 : AH} {b : Nat} (hT : TXX w h b) (t : h.2.1 ≤ h1.2.1) (F : ∀ q, q < b → h1.1 q = h.1 q) : TXX w h1 b := by
  obtain ⟨a, l, len, g, G, c, r⟩ := hT
  exact ⟨a.mv t F, l, len, g, G, (F _ l).trans c, r⟩
/-- the class's object, as the law holds it -/
def LC (w : am_w) (h : AH) (o bu : Nat) (D cm : Int → Int) (sc : Nat) (L : GL) (tx : Int → Int) (bl le : Int) (Hs : List GE) : Prop := CCS h o (o + 1) (o + 2) (o + 26) (o + 50) (o + 52) (o + 59) (o + 62) D cm sc L tx bl le Hs ∧ (PLN w h o ∧ ∃ bs, TXX w h bs ∧ bs ≤ o) ∧ (o + 256 ≤ bu ∧ bu < h.2.1) ∧ sc ≠ bu ∧ ∀ e ∈ Hs, e.2.2.1 ≠ bu
section LCS
variable {w : am_w} {h h1 : AH} {o bu : Nat} {D cm : Int → Int} {sc : Nat} {L : GL} {tx : Int → Int} {bl le : Int} {Hs : List GE}
theorem SCW.kf {P : Nat → Prop} {c s : Nat} (k : SCW h o sc L) (f : KF h h1 P c s) (hP : ∀ q, P q → o + 256 ≤ q ∧ (q = bu ∨ ∀ ci n ff fg, h.1 q = some (ci, n, ff, fg) → ci ≠ 100 ∧ ci ≠ 110)) (oz : o ≤ h.2.1) (ns : sc ≠ bu) : SCW h1 o sc L := by
  obtain ⟨⟨ci, ff, g9, c0, c1, c2⟩, w9, p⟩ := k
  have n : ¬ P sc := fun z => by
    rcases (hP sc z).2 with e | e
    · exact ns e
    · have := e _ _ _ _ c1; omega
  have l := f.2.1.1
  exact ⟨⟨ci, ff, g9, c0, (f.1 sc (by omega) n).trans c1, c2⟩, w9, by omega⟩
theorem CCS.locG {u b a j t s r : Nat} (k : CCS h o u b a j t s r D cm sc L tx bl le Hs) (f : ∀ q, o ≤ q → q < o + 256 → h1.1 q = h.1 q) (hs : SCW h1 o sc L) (hH : ∀ e ∈ Hs, SCW h1 o e.2.2.1 e.2.2.2) (l : h.2.1 ≤ h1.2.1) : CCS h1 o u b a j t s r D cm sc L tx bl le Hs := by
  obtain ⟨⟨k1, k2, k3, k4, k5, k6, k7, k8⟩, c0, ⟨c1, x1⟩, c2, c3, ⟨v1, v2, v3, v4⟩, c5, c6, c7, ⟨kd, st, vl, tc, he, nu, px, cl, hs9, er, ea, cd, ⟨t0, t1, t2, t3, t4, t5, t6, t7⟩, q1⟩, c9, c10, c11⟩ := k
  exact ⟨⟨k1, k2, k3, k4, k5, k6, k7, Nat.le_trans k8 l⟩, (f _ (by omega) (by omega)).trans c0, ⟨(f _ (by omega) (by omega)).trans c1, x1⟩, c2, c3.loc (fun q a b => f q (by omega) (by omega)) v1.2.2.2.1.2, ⟨v1, v2, v3, hs⟩, c5.loc (fun q a b => f q (by omega) (by omega)), (f _ (by omega) (by omega)).trans c6, c7.loc (f _ (by omega) (by omega)), ⟨kd, st, vl, tc, he, nu, px, cl, hs9, er, ea, cd, ⟨(f _ (by omega) (by omega)).trans t0, (f _ (by omega) (by omega)).trans t1, (f _ (by omega) (by omega)).trans t2, (f _ (by omega) (by omega)).trans t3, (f _ (by omega) (by omega)).trans t4, t5, (f _ (by omega) (by omega)).trans t6, t7.loc (f _ (by omega) (by omega))⟩, q1⟩, SCD.loc9 c9 (fun q a b => f q (by omega) (by omega)), c10.loc (fun q a b => f q (by omega) (by omega)), fun e he => ⟨(c11 e he).1, (c11 e he).2.1, (c11 e he).2.2.1, hH e he⟩⟩
theorem LC.kf {P : Nat → Prop} {c s : Nat} (k : LC w h o bu D cm sc L tx bl le Hs) (f : KF h h1 P c s) (hP : ∀ q, P q → o + 256 ≤ q ∧ (q = bu ∨ ∀ ci n ff fg, h.1 q = some (ci, n, ff, fg) → ci ≠ 100 ∧ ci ≠ 110)) : LC w h1 o bu D cm sc L tx bl le Hs := by
  obtain ⟨C, ⟨⟨⟨pi, pf, pg, p0, p1, p2⟩, p3⟩, bs, W, hbs⟩, hbu, ns, nh⟩ := k
  have l := f.2.1.1
  have e8 := C.1.2.2.2.2.2.2.2
  have loc : ∀ q, q < o + 256 → h1.1 q = h.1 q := fun q q1 => f.1 q (by omega) fun z => by have := (hP q z).1; omega
  exact ⟨C.locG (fun q _ b => loc q b) (SCW.kf C.2.2.2.2.2.1.2.2.2 f hP (by omega) ns) (fun e he => SCW.kf (C.2.2.2.2.2.2.2.2.2.2.2.2 e he).2.2.2 f hP (by omega) (nh e he)) l, ⟨⟨⟨pi, pf, pg, p0, (loc _ (by omega)).trans p1, p2⟩, p3⟩, bs, W.mv l (fun q hq => loc q (by omega)), hbs⟩, ⟨hbu.1, by omega⟩, ns, nh⟩
theorem KF.one {a : Nat} {x : AC} (e : h1 = am_set h a x) : KF h h1 (fun q => q = a) 0 0 := by
  have z := am_z e
  exact ⟨fun q _ n => am_ne e q n, ⟨by rw [z]; exact Nat.le_refl _, by rw [z]; exact Nat.le_refl _⟩, by rw [z]; exact Nat.le_refl _, by rw [z]; exact Nat.le_refl _⟩
/-- the buffer itself is written -/
theorem LC.wb (k : LC w h o bu D cm sc L tx bl le Hs) {x : AC} (e : h1 = am_set h bu x) : LC w h1 o bu D cm sc L tx bl le Hs := k.kf (KF.one e) fun q z => ⟨by have := k.2.2.1.1; have : q = bu := z; omega, Or.inl z⟩
/-- the class's object after a call of its own -/
theorem LC.go {D' cm' : Int → Int} {sc' n : Nat} {L' : GL} {tx' : Int → Int} {bl' le' : Int} {Hs' : List GE} (k : LC w h o bu D cm sc L tx bl le Hs) (C : CCS h1 o (o + 1) (o + 2) (o + 26) (o + 50) (o + 52) (o + 59) (o + 62) D' cm' sc' L' tx' bl' le' Hs') (g : am_go n h h1 o) (hn : sc' ≠ bu ∧ ∀ e ∈ Hs', e.2.2.1 ≠ bu) : LC w h1 o bu D' cm' sc' L' tx' bl' le' Hs' := by
  obtain ⟨C0, ⟨hP, bs, W, hbs⟩, hbu, -⟩ := k
  have e8 := C0.1.2.2.2.2.2.2.2
  exact ⟨C, ⟨hP.go g (by omega), bs, W.mv g.1.1 (fun q hq => g.2 q (by omega) (by omega)), hbs⟩, ⟨hbu.1, by have := g.1.1; omega⟩, hn⟩
theorem am_go.kf {n : Nat} (g : am_go n h h1 o) : KF h h1 (fun q => o ≤ q ∧ q < o + 256) n (800 * n) := ⟨fun q a b => g.2 q a b, ⟨g.1.1, g.1.2.1⟩, g.1.2.2.1, g.1.2.2.2⟩
/-- the law's buffer: so many letters, these words -/
def TB (h : AH) (bu : Nat) (ln : Int) (W : Int → Int) : Prop := ∃ fb, h.1 bu = some (100, 8, fb, am_N) ∧ fb 0 = ln ∧ ∀ i, 0 ≤ i → i < 5 → fb (1 + i) = W i
theorem TB.mv {ln : Int} {W : Int → Int} (k : TB h bu ln W) (e : h1.1 bu = h.1 bu) : TB h1 bu ln W := by
  obtain ⟨fb, c, r⟩ := k
  exact ⟨fb, e.trans c, r⟩
end LCS

set_option maxRecDepth 4000 in
set_option maxHeartbeats 1000000 in
theorem c_L_flush {w : am_w} {h : AH} {o bu : Nat} {D cm : Int → Int} {sc : Nat} {L : GL} {tx : Int → Int} {bl le : Int} {Hs : List GE} (hL : LC w h o bu D cm sc L tx bl le Hs) {ln : Int} {W : Int → Int} (hB : TB h bu ln W) (rw9 : ∀ i, 0 ≤ i → i < 5 → am_r (W i)) (hbl : bl + 20 ≤ 800)  : AE w m_L_flush 6 [vr o, vr bu] h (am_unit (fun h1 => (LC w h1 o bu D cm sc L (gm_pw (gm_pw (gm_pw (gm_pw (gm_pw tx bl (W 0)) (bl + 4) (W 1)) (bl + 8) (W 2)) (bl + 12) (W 3)) (bl + 16) (W 4)) (bl + 20) le Hs ∧ TB h1 bu ln (fun _ => 0)) ∧ KF h h1 (fun q => (o ≤ q ∧ q < o + 256) ∨ q = bu) 0 0)) := by
  refine AE.of wf_L_flush (Nat.le_of_ble_eq_true rfl) (am_ok_v) ?_
  obtain ⟨C0, hP, ⟨b0, b1⟩, ns9, nh9⟩ := id hL
  have e8 := C0.1.2.2.2.2.2.2.2
  obtain ⟨fb, d0, e0, ew⟩ := hB
  refine q_blk (lv2 := [(0, vr o), (1, vr bu)]) (st2 := [vi 1, vr bu, vr o]) kL_flush_0 rfl ?_
  refine q_ia eL_flush_3 d0 (by decide) (by omega) (by omega) (z := (W 0)) (ew 0 (by decide) (by decide)) ?_
  refine q_blk (lv2 := [(0, vr o), (1, vr bu)]) (st2 := [vi 2, vr bu, vi (W 0), vr o]) kL_flush_4 rfl ?_
  refine q_ia eL_flush_6 d0 (by decide) (by omega) (by omega) (z := (W 1)) (ew 1 (by decide) (by decide)) ?_
  refine q_blk (lv2 := [(0, vr o), (1, vr bu)]) (st2 := [vi 3, vr bu, vi (W 1), vi (W 0), vr o]) kL_flush_7 rfl ?_
  refine q_ia eL_flush_9 d0 (by decide) (by omega) (by omega) (z := (W 2)) (ew 2 (by decide) (by decide)) ?_
  refine q_blk (lv2 := [(0, vr o), (1, vr bu)]) (st2 := [vi 4, vr bu, vi (W 2), vi (W 1), vi (W 0), vr o]) kL_flush_10 rfl ?_
  refine q_ia eL_flush_12 d0 (by decide) (by omega) (by omega) (z := (W 3)) (ew 3 (by decide) (by decide)) ?_
  refine q_blk (lv2 := [(0, vr o), (1, vr bu)]) (st2 := [vi 5, vr bu, vi (W 3), vi (W 2), vi (W 1), vi (W 0), vr o]) kL_flush_13 rfl ?_
  refine q_ia eL_flush_15 d0 (by decide) (by omega) (by omega) (z := (W 4)) (ew 4 (by decide) (by decide)) ?_
  refine AQ.callVi (av := [vi (W 0), vi (W 1), vi (W 2), vi (W 3), vi (W 4)]) (st := []) (c_X8_append C0 (w0 := W 0) (w1 := W 1) (w2 := W 2) (w3 := W 3) (w4 := W 4) (rw9 0 (by decide) (by decide)) (rw9 1 (by decide) (by decide)) (rw9 2 (by decide) (by decide)) (rw9 3 (by decide) (by decide)) (rw9 4 (by decide) (by decide))) lk_RL_13 (by decide) rfl rfl C0.ob ⟨_, rfl, rfl⟩ (Nat.le_of_ble_eq_true rfl) eL_flush_16 (fun z1 h3 e2 => ?_)
  obtain ⟨z1q, z1g⟩ := e2
  obtain ⟨-, -, z1c⟩ := z1q.resolve_left (fun z => by have := z.1; omega)
  have C4 := hL.go z1c z1g ⟨ns9, nh9⟩
  obtain ⟨⟨z11, z12, z13, z14⟩, z15⟩ := z1g
  have k5 := (z15 bu (by omega) (by omega)).trans d0
  have F6 : ∀ q, q < h.2.1 → ¬ (fun q => (o ≤ q ∧ q < o + 256) ∨ q = bu) q → h3.1 q = h.1 q := fun q q0 q1 => (z15 q (by omega) (fun c => q1 (Or.inl c))).trans ((fun _ _ _ => rfl) q q0 q1)
  refine q_blk (lv2 := [(0, vr o), (1, vr bu), (2, vi 1)]) (st2 := []) kL_flush_19 rfl ?_
  refine q_blk (lv2 := [(0, vr o), (1, vr bu), (2, vi 1)]) (st2 := [vi 6, vi 1]) kL_flush_22 rfl ?_
  refine AQ.of (AS.ic_ge_f eL_flush_25 ⟨by decide, by decide⟩ ⟨by decide, by decide⟩ (by decide) (by decide)) ?_
  refine q_blk (lv2 := [(0, vr o), (1, vr bu), (2, vi 1)]) (st2 := [vi 0, vi 1, vr bu]) kL_flush_28 rfl ?_
  refine q_is eL_flush_31 k5 (by omega) (by omega) (fun h7 e8 => ?_)
  have k9 := am_at e8
  have e8u : h7.2.1 = h3.2.1 := congrArg Prod.fst (am_z e8)
  have e8v : h7.2.2 = h3.2.2 := congrArg Prod.snd (am_z e8)
  have F10 : ∀ q, q < h.2.1 → ¬ (fun q => (o ≤ q ∧ q < o + 256) ∨ q = bu) q → h7.1 q = h.1 q := fun q q0 q1 => (am_ne e8 q (fun c => q1 (Or.inr c))).trans (F6 q q0 q1)
  have C11 := C4.wb e8
  refine q_blk (lv2 := [(0, vr o), (1, vr bu), (2, vi (1 + 1))]) (st2 := []) kL_flush_32 rfl ?_
  refine q_goto (tgt := 22) eL_flush_35 (by decide) ?_
  refine q_blk (lv2 := [(0, vr o), (1, vr bu), (2, vi (1 + 1))]) (st2 := [vi 6, vi (1 + 1)]) kL_flush_22 rfl ?_
  refine AQ.of (AS.ic_ge_f eL_flush_25 (by first | assumption | exact ⟨by omega, by omega⟩ | exact ⟨by decide, by decide⟩) ⟨by decide, by decide⟩ (by decide) (by decide)) ?_
  refine q_blk (lv2 := [(0, vr o), (1, vr bu), (2, vi (1 + 1))]) (st2 := [vi 0, vi (1 + 1), vr bu]) kL_flush_28 rfl ?_
  refine q_is eL_flush_31 k9 (by omega) (by omega) (fun h12 e13 => ?_)
  have k14 := am_at e13
  have e13u : h12.2.1 = h7.2.1 := congrArg Prod.fst (am_z e13)
  have e13v : h12.2.2 = h7.2.2 := congrArg Prod.snd (am_z e13)
  have F15 : ∀ q, q < h.2.1 → ¬ (fun q => (o ≤ q ∧ q < o + 256) ∨ q = bu) q → h12.1 q = h.1 q := fun q q0 q1 => (am_ne e13 q (fun c => q1 (Or.inr c))).trans (F10 q q0 q1)
  have C16 := C11.wb e13
  refine q_blk (lv2 := [(0, vr o), (1, vr bu), (2, vi ((1 + 1) + 1))]) (st2 := []) kL_flush_32 rfl ?_
  refine q_goto (tgt := 22) eL_flush_35 (by decide) ?_
  refine q_blk (lv2 := [(0, vr o), (1, vr bu), (2, vi ((1 + 1) + 1))]) (st2 := [vi 6, vi ((1 + 1) + 1)]) kL_flush_22 rfl ?_
  refine AQ.of (AS.ic_ge_f eL_flush_25 (by first | assumption | exact ⟨by omega, by omega⟩ | exact ⟨by decide, by decide⟩) ⟨by decide, by decide⟩ (by decide) (by decide)) ?_
  refine q_blk (lv2 := [(0, vr o), (1, vr bu), (2, vi ((1 + 1) + 1))]) (st2 := [vi 0, vi ((1 + 1) + 1), vr bu]) kL_flush_28 rfl ?_
  refine q_is eL_flush_31 k14 (by omega) (by omega) (fun h17 e18 => ?_)
  have k19 := am_at e18
  have e18u : h17.2.1 = h12.2.1 := congrArg Prod.fst (am_z e18)
  have e18v : h17.2.2 = h12.2.2 := congrArg Prod.snd (am_z e18)
  have F20 : ∀ q, q < h.2.1 → ¬ (fun q => (o ≤ q ∧ q < o + 256) ∨ q = bu) q → h17.1 q = h.1 q := fun q q0 q1 => (am_ne e18 q (fun c => q1 (Or.inr c))).trans (F15 q q0 q1)
  have C21 := C16.wb e18
  refine q_blk (lv2 := [(0, vr o), (1, vr bu), (2, vi (((1 + 1) + 1) + 1))]) (st2 := []) kL_flush_32 rfl ?_
  refine q_goto (tgt := 22) eL_flush_35 (by decide) ?_
  refine q_blk (lv2 := [(0, vr o), (1, vr bu), (2, vi (((1 + 1) + 1) + 1))]) (st2 := [vi 6, vi (((1 + 1) + 1) + 1)]) kL_flush_22 rfl ?_
  refine AQ.of (AS.ic_ge_f eL_flush_25 (by first | assumption | exact ⟨by omega, by omega⟩ | exact ⟨by decide, by decide⟩) ⟨by decide, by decide⟩ (by decide) (by decide)) ?_
  refine q_blk (lv2 := [(0, vr o), (1, vr bu), (2, vi (((1 + 1) + 1) + 1))]) (st2 := [vi 0, vi (((1 + 1) + 1) + 1), vr bu]) kL_flush_28 rfl ?_
  refine q_is eL_flush_31 k19 (by omega) (by omega) (fun h22 e23 => ?_)
  have k24 := am_at e23
  have e23u : h22.2.1 = h17.2.1 := congrArg Prod.fst (am_z e23)
  have e23v : h22.2.2 = h17.2.2 := congrArg Prod.snd (am_z e23)
  have F25 : ∀ q, q < h.2.1 → ¬ (fun q => (o ≤ q ∧ q < o + 256) ∨ q = bu) q → h22.1 q = h.1 q := fun q q0 q1 => (am_ne e23 q (fun c => q1 (Or.inr c))).trans (F20 q q0 q1)
  have C26 := C21.wb e23
  refine q_blk (lv2 := [(0, vr o), (1, vr bu), (2, vi ((((1 + 1) + 1) + 1) + 1))]) (st2 := []) kL_flush_32 rfl ?_
  refine q_goto (tgt := 22) eL_flush_35 (by decide) ?_
  refine q_blk (lv2 := [(0, vr o), (1, vr bu), (2, vi ((((1 + 1) + 1) + 1) + 1))]) (st2 := [vi 6, vi ((((1 + 1) + 1) + 1) + 1)]) kL_flush_22 rfl ?_
  refine AQ.of (AS.ic_ge_f eL_flush_25 (by first | assumption | exact ⟨by omega, by omega⟩ | exact ⟨by decide, by decide⟩) ⟨by decide, by decide⟩ (by decide) (by decide)) ?_
  refine q_blk (lv2 := [(0, vr o), (1, vr bu), (2, vi ((((1 + 1) + 1) + 1) + 1))]) (st2 := [vi 0, vi ((((1 + 1) + 1) + 1) + 1), vr bu]) kL_flush_28 rfl ?_
  refine q_is eL_flush_31 k24 (by omega) (by omega) (fun h27 e28 => ?_)
  have k29 := am_at e28
  have e28u : h27.2.1 = h22.2.1 := congrArg Prod.fst (am_z e28)
  have e28v : h27.2.2 = h22.2.2 := congrArg Prod.snd (am_z e28)
  have F30 : ∀ q, q < h.2.1 → ¬ (fun q => (o ≤ q ∧ q < o + 256) ∨ q = bu) q → h27.1 q = h.1 q := fun q q0 q1 => (am_ne e28 q (fun c => q1 (Or.inr c))).trans (F25 q q0 q1)
  have C31 := C26.wb e28
  refine q_blk (lv2 := [(0, vr o), (1, vr bu), (2, vi (((((1 + 1) + 1) + 1) + 1) + 1))]) (st2 := []) kL_flush_32 rfl ?_
  refine q_goto (tgt := 22) eL_flush_35 (by decide) ?_
  refine q_blk (lv2 := [(0, vr o), (1, vr bu), (2, vi (((((1 + 1) + 1) + 1) + 1) + 1))]) (st2 := [vi 6, vi (((((1 + 1) + 1) + 1) + 1) + 1)]) kL_flush_22 rfl ?_
  refine AQ.of (AS.ic_ge_t (tgt := 38) eL_flush_25 (by decide) (by first | assumption | exact ⟨by omega, by omega⟩ | exact ⟨by decide, by decide⟩) ⟨by decide, by decide⟩ (by decide)) ?_
  exact q_rv rfl eL_flush_38 ⟨rfl, ⟨C31, _, k29, (by unfold am_uI; repeat (first | rw [if_pos (by decide)] | rw [if_neg (by decide)]); exact e0), fun i i0 i1 => by
    rcases (show i = 0 ∨ i = 1 ∨ i = 2 ∨ i = 3 ∨ i = 4 by omega) with rfl | rfl | rfl | rfl | rfl <;> rfl⟩, ⟨F30, ⟨by omega, by omega⟩, by omega, by omega⟩⟩

/-- a letter of the text; four in a word -/
def gx_z (Z : List Int) (k : Int) : Int := Z.getD k.toNat 0
def gx_wd (a b c d : Int) : Int := a * 16777216 + b * 65536 + c * 256 + d
def gx_wk (Z : List Int) (q i : Int) : Int := gx_wd (gx_z Z (20 * q + 4 * i)) (gx_z Z (20 * q + 4 * i + 1)) (gx_z Z (20 * q + 4 * i + 2)) (gx_z Z (20 * q + 4 * i + 3))
def gx_chs (Z : List Int) : Prop := ∀ c ∈ Z, 0 ≤ c ∧ c < 128
theorem gx_z_r {Z : List Int} (h : gx_chs Z) (k : Int) : 0 ≤ gx_z Z k ∧ gx_z Z k < 128 := by
  unfold gx_z
  rw [List.getD_eq_getElem?_getD]
  cases e : Z[k.toNat]? with
  | none => exact ⟨Int.le_refl 0, (by decide : (0 : Int) < 128)⟩
  | some x => exact h x (List.mem_of_getElem? e)
theorem gx_z_o {Z : List Int} {k : Int} (h : (Z.length : Int) ≤ k) : gx_z Z k = 0 := by
  unfold gx_z
  rw [List.getD_eq_getElem?_getD, List.getElem?_eq_none (by omega)]
  rfl
theorem gx_z_a {Z : List Int} {c k : Int} (h : 0 ≤ k) : gx_z (Z ++ [c]) k = if k = Z.length then c else gx_z Z k := by
  unfold gx_z
  rw [List.getD_eq_getElem?_getD, List.getD_eq_getElem?_getD]
  by_cases e : k = Z.length
  · rw [if_pos e, List.getElem?_append_right (by omega), show k.toNat - Z.length = 0 by omega]
    rfl
  · rw [if_neg e]
    by_cases l : k < Z.length
    · rw [List.getElem?_append_left (by omega)]
    · rw [List.getElem?_append_right (by omega), List.getElem?_eq_none (by simp; omega), List.getElem?_eq_none (by omega)]
theorem gx_wd_r {a b c d : Int} (ha : 0 ≤ a ∧ a < 128) (hb : 0 ≤ b ∧ b < 128) (hc : 0 ≤ c ∧ c < 128) (hd : 0 ≤ d ∧ d < 128) : 0 ≤ gx_wd a b c d ∧ gx_wd a b c d < 2147483648 := by unfold gx_wd; omega
theorem gx_pw_s {tx : Int → Int} {Z : List Int} {b w p0 p1 p2 p3 : Int} (hZ : gx_chs Z) (h : ∀ k, 0 ≤ k → k < b → tx k = gx_z Z k) (hw : w = gx_wd (gx_z Z p0) (gx_z Z p1) (gx_z Z p2) (gx_z Z p3)) (h0 : p0 = b) (h1 : p1 = b + 1) (h2 : p2 = b + 2) (h3 : p3 = b + 3) : ∀ k, 0 ≤ k → k < b + 4 → gm_pw tx b w k = gx_z Z k := by
  intro k k0 k1
  have r0 := gx_z_r hZ p0
  have r1 := gx_z_r hZ p1
  have r2 := gx_z_r hZ p2
  have r3 := gx_z_r hZ p3
  rw [hw]
  unfold gm_pw am_uI gm_by gx_wd
  by_cases c3 : k = b + 3
  · rw [if_pos (by omega), show k = p3 by omega]; omega
  · rw [if_neg (by omega)]
    by_cases c2 : k = b + 2
    · rw [if_pos (by omega), show k = p2 by omega]; omega
    · rw [if_neg (by omega)]
      by_cases c1 : k = b + 1
      · rw [if_pos (by omega), show k = p1 by omega]; omega
      · rw [if_neg (by omega)]
        by_cases c0 : k = b
        · rw [if_pos (by omega), show k = p0 by omega]; omega
        · rw [if_neg (by omega)]
          exact h k k0 (by omega)
theorem gx_pw5 {tx : Int → Int} {Z : List Int} {q : Int} (hZ : gx_chs Z) (h : ∀ k, 0 ≤ k → k < 20 * q → tx k = gx_z Z k) : ∀ k, 0 ≤ k → k < 20 * q + 20 → gm_pw (gm_pw (gm_pw (gm_pw (gm_pw tx (20 * q) (gx_wk Z q 0)) (20 * q + 4) (gx_wk Z q 1)) (20 * q + 8) (gx_wk Z q 2)) (20 * q + 12) (gx_wk Z q 3)) (20 * q + 16) (gx_wk Z q 4) k = gx_z Z k := by
  have a := gx_pw_s (b := 20 * q) (w := gx_wk Z q 0) hZ h rfl (by omega) (by omega) (by omega) (by omega)
  have b := gx_pw_s (b := 20 * q + 4) (w := gx_wk Z q 1) hZ a rfl (by omega) (by omega) (by omega) (by omega)
  have c := gx_pw_s (b := 20 * q + 8) (w := gx_wk Z q 2) hZ (fun k k0 k1 => b k k0 (by omega)) rfl (by omega) (by omega) (by omega) (by omega)
  have d := gx_pw_s (b := 20 * q + 12) (w := gx_wk Z q 3) hZ (fun k k0 k1 => c k k0 (by omega)) rfl (by omega) (by omega) (by omega) (by omega)
  have e := gx_pw_s (b := 20 * q + 16) (w := gx_wk Z q 4) hZ (fun k k0 k1 => d k k0 (by omega)) rfl (by omega) (by omega) (by omega) (by omega)
  exact fun k k0 k1 => e k k0 (by omega)
theorem gx_wk_r {Z : List Int} (hZ : gx_chs Z) (q i : Int) : 0 ≤ gx_wk Z q i ∧ gx_wk Z q i < 2147483648 := gx_wd_r (gx_z_r hZ _) (gx_z_r hZ _) (gx_z_r hZ _) (gx_z_r hZ _)
theorem gx_wk_o {Z : List Int} {q i : Int} (h : (Z.length : Int) ≤ 20 * q + 4 * i) : gx_wk Z q i = 0 := by
  unfold gx_wk
  rw [gx_z_o (by omega), gx_z_o (by omega), gx_z_o (by omega), gx_z_o (by omega)]
  rfl
/-- the word with a letter more -/
theorem gx_wk_n {Z : List Int} {c q i : Int} (h0 : 0 ≤ q) (h1 : 0 ≤ i) (h : (Z.length : Int) < 20 * q + 4 * i ∨ 20 * q + 4 * i + 3 < Z.length) : gx_wk (Z ++ [c]) q i = gx_wk Z q i := by
  unfold gx_wk
  rw [gx_z_a (by omega), gx_z_a (by omega), gx_z_a (by omega), gx_z_a (by omega), if_neg (by omega), if_neg (by omega), if_neg (by omega), if_neg (by omega)]
theorem gx_wk_m {Z : List Int} {c q i m s : Int} (h0 : 0 ≤ q) (h1 : 0 ≤ i) (hm : (Z.length : Int) = 20 * q + 4 * i + m) (hs : (m = 0 ∧ s = 16777216) ∨ (m = 1 ∧ s = 65536) ∨ (m = 2 ∧ s = 256) ∨ (m = 3 ∧ s = 1)) : gx_wk (Z ++ [c]) q i = gx_wk Z q i + c * s ∧ gx_wk Z q i % (256 * s) = 0 := by
  have a0 := gx_z_a (Z := Z) (c := c) (k := 20 * q + 4 * i) (by omega)
  have a1 := gx_z_a (Z := Z) (c := c) (k := 20 * q + 4 * i + 1) (by omega)
  have a2 := gx_z_a (Z := Z) (c := c) (k := 20 * q + 4 * i + 2) (by omega)
  have a3 := gx_z_a (Z := Z) (c := c) (k := 20 * q + 4 * i + 3) (by omega)
  unfold gx_wk gx_wd
  rcases hs with ⟨rfl, rfl⟩ | ⟨rfl, rfl⟩ | ⟨rfl, rfl⟩ | ⟨rfl, rfl⟩
  · rw [if_pos (by omega)] at a0
    rw [if_neg (by omega)] at a1 a2 a3
    rw [a0, a1, a2, a3, gx_z_o (k := 20 * q + 4 * i) (by omega), gx_z_o (k := 20 * q + 4 * i + 1) (by omega), gx_z_o (k := 20 * q + 4 * i + 2) (by omega), gx_z_o (k := 20 * q + 4 * i + 3) (by omega)]
    omega
  · rw [if_pos (by omega)] at a1
    rw [if_neg (by omega)] at a0 a2 a3
    rw [a0, a1, a2, a3, gx_z_o (k := 20 * q + 4 * i + 1) (by omega), gx_z_o (k := 20 * q + 4 * i + 2) (by omega), gx_z_o (k := 20 * q + 4 * i + 3) (by omega)]
    omega
  · rw [if_pos (by omega)] at a2
    rw [if_neg (by omega)] at a0 a1 a3
    rw [a0, a1, a2, a3, gx_z_o (k := 20 * q + 4 * i + 2) (by omega), gx_z_o (k := 20 * q + 4 * i + 3) (by omega)]
    omega
  · rw [if_pos (by omega)] at a3
    rw [if_neg (by omega)] at a0 a1 a2
    rw [a0, a1, a2, a3, gx_z_o (k := 20 * q + 4 * i + 3) (by omega)]
    omega
/-- so much is written -/
def TXS (w : am_w) (h : AH) (o bu : Nat) (D cm : Int → Int) (sc : Nat) (L : GL) (le : Int) (Hs : List GE) (Z : List Int) : Prop := (∃ tx, LC w h o bu D cm sc L tx (20 * ((Z.length : Int) / 20)) le Hs ∧ ∀ k, 0 ≤ k → k < 20 * ((Z.length : Int) / 20) → tx k = gx_z Z k) ∧ TB h bu Z.length (gx_wk Z ((Z.length : Int) / 20)) ∧ gx_chs Z ∧ (Z.length : Int) < 780
section SHL
variable {w : am_w} {y : YR} {d pc : Nat} {lv : List (Nat × AV)} {st : List AV} {h : AH} {Q : RV → AH → Prop}
theorem q_shl (k : Nat) {a s kc : Int} (hd : decode y.2.1 pc = .ok (.ishl, 1)) (hk : k < 32) (hc : (k : Int) = kc) (hs : ((2 ^ k : Nat) : Int) = s) (h0 : 0 ≤ a) (h1 : a * s < 2147483648) (kk : AQ w y d (pc + 1) lv (vi (a * s) :: st) h Q) : AQ w y d pc lv (vi kc :: vi a :: st) h Q := by
  subst hc hs
  exact AQ.of (AS.ishlS hd hk h0 h1) kk
theorem q_orS (k : Nat) {a b s : Int} (hd : decode y.2.1 pc = .ok (.ior, 1)) (hs : ((2 ^ k : Nat) : Int) = s) (h0 : 0 ≤ a) (h1 : a % s = 0) (h2 : 0 ≤ b) (h3 : b < s) (h4 : a + b < 2147483648) (kk : AQ w y d (pc + 1) lv (vi (a + b) :: st) h Q) : AQ w y d pc lv (vi b :: vi a :: st) h Q := by
  subst hs
  exact AQ.of (AS.iorS k hd h0 h1 h2 h3 h4) kk
end SHL

set_option maxRecDepth 4000 in
set_option maxHeartbeats 8000000 in
theorem c_L_put {w : am_w} {h : AH} {o bu : Nat} {D cm : Int → Int} {sc : Nat} {L : GL} {le : Int} {Hs : List GE} {Z : List Int} (hT : TXS w h o bu D cm sc L le Hs Z) {c : Int} (c0 : 0 ≤ c ∧ c < 128) (hl : (Z.length : Int) + 1 < 780)  : AE w m_L_put 8 [vr o, vr bu, vi c] h (am_unit (fun h1 => TXS w h1 o bu D cm sc L le Hs (Z ++ [c]) ∧ KF h h1 (fun q => (o ≤ q ∧ q < o + 256) ∨ q = bu) 0 0)) := by
  refine AE.of wf_L_put (Nat.le_of_ble_eq_true rfl) (am_ok_v) ?_
  obtain ⟨⟨tx, hL, htx⟩, ⟨fb, d0, e0, ew⟩, hz, hl9⟩ := hT
  obtain ⟨C0, hP, ⟨b0, b1⟩, ns9, nh9⟩ := id hL
  have e8 := C0.1.2.2.2.2.2.2.2
  have hz2 : gx_chs (Z ++ [c]) := fun x hx => (List.mem_append.mp hx).elim (fun a => hz x a) (fun a => by rw [List.mem_singleton.mp a]; exact c0)
  have ln2 : (((Z ++ [c]).length : Nat) : Int) = (Z.length : Int) + 1 := by rw [List.length_append]; rfl
  obtain ⟨ln, eln⟩ : ∃ q : Int, (Z.length : Int) = q := ⟨_, rfl⟩
  rw [eln] at ln2 hl hl9 hL htx e0 ew
  refine q_blk (lv2 := [(0, vr o), (1, vr bu), (2, vi c)]) (st2 := [vi 0, vr bu, vi 1, vr bu]) kL_put_0 rfl ?_
  refine q_ia eL_put_4 d0 (by decide) (by omega) (by omega) (z := ln) e0 ?_
  refine q_blk (lv2 := [(0, vr o), (1, vr bu), (2, vi c)]) (st2 := [vi 20, vi ln, vi 1, vr bu]) kL_put_5 rfl ?_
  refine AQ.of (AS.irem eL_put_7 (by first | assumption | exact ⟨by omega, by omega⟩ | exact ⟨by decide, by decide⟩) ⟨by decide, by decide⟩ (by omega)) ?_
  rw [show (Int.tmod ln 20) = (ln % 20) from Int.tmod_eq_emod_of_nonneg (by omega)]
  refine q_blk (lv2 := [(0, vr o), (1, vr bu), (2, vi c)]) (st2 := [vi 4, vi (ln % 20), vi 1, vr bu]) kL_put_8 rfl ?_
  refine AQ.of (AS.idiv eL_put_9 (by first | assumption | exact ⟨by omega, by omega⟩ | exact ⟨by decide, by decide⟩) ⟨by decide, by decide⟩ (by omega)) ?_
  rw [show (Int.tdiv (ln % 20) 4) = (ln % 20 / 4) from Int.tdiv_eq_ediv_of_nonneg (by omega)]
  refine q_blk (lv2 := [(0, vr o), (1, vr bu), (2, vi c)]) (st2 := [vi (1 + (ln % 20 / 4)), vr bu, vi (1 + (ln % 20 / 4)), vr bu]) kL_put_10 rfl ?_
  refine q_ia eL_put_12 d0 (by decide) (by omega) (by omega) (z := (gx_wk Z (ln / 20) (ln % 20 / 4))) (ew _ (by omega) (by omega)) ?_
  refine q_blk (lv2 := [(0, vr o), (1, vr bu), (2, vi c)]) (st2 := [vi 0, vr bu, vi 8, vi 24, vi c, vi (gx_wk Z (ln / 20) (ln % 20 / 4)), vi (1 + (ln % 20 / 4)), vr bu]) kL_put_13 rfl ?_
  refine q_ia eL_put_20 d0 (by decide) (by omega) (by omega) (z := ln) e0 ?_
  refine q_blk (lv2 := [(0, vr o), (1, vr bu), (2, vi c)]) (st2 := [vi 4, vi ln, vi 8, vi 24, vi c, vi (gx_wk Z (ln / 20) (ln % 20 / 4)), vi (1 + (ln % 20 / 4)), vr bu]) kL_put_21 rfl ?_
  refine AQ.of (AS.irem eL_put_22 (by first | assumption | exact ⟨by omega, by omega⟩ | exact ⟨by decide, by decide⟩) ⟨by decide, by decide⟩ (by omega)) ?_
  rw [show (Int.tmod ln 4) = (ln % 4) from Int.tmod_eq_emod_of_nonneg (by omega)]
  refine q_blk (lv2 := [(0, vr o), (1, vr bu), (2, vi c)]) (st2 := [vi (24 - (8 * (ln % 4))), vi c, vi (gx_wk Z (ln / 20) (ln % 20 / 4)), vi (1 + (ln % 20 / 4)), vr bu]) kL_put_23 rfl ?_
  rcases (show ln % 4 = 0 ∨ ln % 4 = 1 ∨ ln % 4 = 2 ∨ ln % 4 = 3 by omega) with m9 | m9 | m9 | m9
  · skip
    obtain ⟨wn, wz⟩ := gx_wk_m (Z := Z) (c := c) (q := ln / 20) (i := ln % 20 / 4) (m := 0) (s := 16777216) (by omega) (by omega) (by omega) (by omega)
    have wr := gx_wk_r hz (ln / 20) (ln % 20 / 4)
    have wr2 := gx_wk_r hz2 (ln / 20) (ln % 20 / 4)
    rw [show (24 - (8 * (ln % 4))) = 24 by omega]
    refine q_shl 24 (s := 16777216) eL_put_25 (by decide) rfl rfl (by omega) (by omega) ?_
    refine q_orS 31 (s := 2147483648) eL_put_26 rfl (by omega) (by omega) (by omega) (by omega) (by omega) ?_
    refine q_is eL_put_27 d0 (by omega) (by omega) (fun h1 e2 => ?_)
    have k3 := am_at e2
    have e2u : h1.2.1 = h.2.1 := congrArg Prod.fst (am_z e2)
    have e2v : h1.2.2 = h.2.2 := congrArg Prod.snd (am_z e2)
    have F4 : ∀ q, q < h.2.1 → ¬ (fun q => (o ≤ q ∧ q < o + 256) ∨ q = bu) q → h1.1 q = h.1 q := fun q q0 q1 => (am_ne e2 q (fun c => q1 (Or.inr c))).trans ((fun _ _ _ => rfl) q q0 q1)
    have C5 := hL.wb e2
    refine q_blk (lv2 := [(0, vr o), (1, vr bu), (2, vi c)]) (st2 := [vi 0, vr bu, vi 0, vr bu]) kL_put_28 rfl ?_
    refine q_ia eL_put_31 k3 (by decide) (by omega) (by omega) (z := ln) (by unfold am_uI; rw [if_neg (by omega)]; exact e0) ?_
    refine q_blk (lv2 := [(0, vr o), (1, vr bu), (2, vi c)]) (st2 := [vi (ln + 1), vi 0, vr bu]) kL_put_32 rfl ?_
    refine q_is eL_put_34 k3 (by omega) (by omega) (fun h6 e7 => ?_)
    have k8 := am_at e7
    have e7u : h6.2.1 = h1.2.1 := congrArg Prod.fst (am_z e7)
    have e7v : h6.2.2 = h1.2.2 := congrArg Prod.snd (am_z e7)
    have F9 : ∀ q, q < h.2.1 → ¬ (fun q => (o ≤ q ∧ q < o + 256) ∨ q = bu) q → h6.1 q = h.1 q := fun q q0 q1 => (am_ne e7 q (fun c => q1 (Or.inr c))).trans (F4 q q0 q1)
    have C10 := C5.wb e7
    refine q_blk (lv2 := [(0, vr o), (1, vr bu), (2, vi c)]) (st2 := [vi 0, vr bu]) kL_put_35 rfl ?_
    refine q_ia eL_put_37 k8 (by decide) (by omega) (by omega) (z := (ln + 1)) (by unfold am_uI; rw [if_pos rfl]) ?_
    refine q_blk (lv2 := [(0, vr o), (1, vr bu), (2, vi c)]) (st2 := [vi 20, vi (ln + 1)]) kL_put_38 rfl ?_
    refine AQ.of (AS.irem eL_put_40 (by first | assumption | exact ⟨by omega, by omega⟩ | exact ⟨by decide, by decide⟩) ⟨by decide, by decide⟩ (by omega)) ?_
    rw [show (Int.tmod (ln + 1) 20) = ((ln + 1) % 20) from Int.tmod_eq_emod_of_nonneg (by omega)]
    refine AQ.if_ne (tgt := 49) eL_put_41 (by decide) (by first | assumption | exact ⟨by omega, by omega⟩ | exact ⟨by decide, by decide⟩) (fun br11 => ?_) (fun br11 => ?_)
    · skip
      exact q_rv rfl eL_put_49 ⟨rfl, ⟨⟨tx, (by rw [ln2, show (ln + 1) / 20 = ln / 20 by omega]; exact C10), fun k k0 k1 => (htx k k0 (by omega)).trans (by rw [gx_z_a k0, if_neg (by omega)])⟩, (by rw [ln2, show (ln + 1) / 20 = ln / 20 by omega]; exact ⟨_, k8, (by unfold am_uI; rw [if_pos rfl]), (fun i i0 i1 => by
      unfold am_uI
      rw [if_neg (by omega)]
      by_cases ei : i = ln % 20 / 4
      · rw [if_pos (by omega), ei, wn]
      · rw [if_neg (by omega), ew i i0 i1, gx_wk_n (by omega) i0 (by omega)])⟩), hz2, by omega⟩, ⟨F9, ⟨by omega, by omega⟩, by omega, by omega⟩⟩
    · skip
      refine q_blk (lv2 := [(0, vr o), (1, vr bu), (2, vi c)]) (st2 := [vr bu, vr o]) kL_put_44 rfl ?_
      refine AQ.callSv (av := [vr o, vr bu]) (st := []) (c_L_flush C10 (W := gx_wk (Z ++ [c]) (ln / 20)) (ln := ln + 1) (⟨_, k8, (by unfold am_uI; rw [if_pos rfl]), (fun i i0 i1 => by
      unfold am_uI
      rw [if_neg (by omega)]
      by_cases ei : i = ln % 20 / 4
      · rw [if_pos (by omega), ei, wn]
      · rw [if_neg (by omega), ew i i0 i1, gx_wk_n (by omega) i0 (by omega)])⟩) (fun i _ _ => by have := gx_wk_r hz2 (ln / 20) i; exact ⟨by omega, by omega⟩) (by omega)) lk_RL_7 (by decide) rfl rfl (Nat.le_of_ble_eq_true rfl) eL_put_46 (fun h14 e13 => ?_)
      obtain ⟨⟨g15L, g15B⟩, g15f, ⟨g15a, g15b⟩, g15c, g15d⟩ := e13
      have F16 : ∀ q, q < h.2.1 → ¬ (fun q => (o ≤ q ∧ q < o + 256) ∨ q = bu) q → h14.1 q = h.1 q := fun q q0 q1 => (g15f q (by omega) q1).trans (F9 q q0 q1)
      exact q_rv rfl eL_put_49 ⟨rfl, ⟨⟨_, (by rw [ln2, show (ln + 1) / 20 = ln / 20 + 1 by omega, Int.mul_add]; exact g15L), (fun k k0 k1 => gx_pw5 hz2 (fun k k0 k1 => (htx k k0 k1).trans (by rw [gx_z_a k0, if_neg (by omega)])) k k0 (by omega))⟩, (by
      obtain ⟨f9, x0, x1, x2⟩ := g15B
      exact ⟨f9, x0, x1.trans ln2.symm, fun i i0 i1 => (x2 i i0 i1).trans (gx_wk_o (by omega)).symm⟩), hz2, by omega⟩, ⟨F16, ⟨by omega, by omega⟩, by omega, by omega⟩⟩
  · skip
    obtain ⟨wn, wz⟩ := gx_wk_m (Z := Z) (c := c) (q := ln / 20) (i := ln % 20 / 4) (m := 1) (s := 65536) (by omega) (by omega) (by omega) (by omega)
    have wr := gx_wk_r hz (ln / 20) (ln % 20 / 4)
    have wr2 := gx_wk_r hz2 (ln / 20) (ln % 20 / 4)
    rw [show (24 - (8 * (ln % 4))) = 16 by omega]
    refine q_shl 16 (s := 65536) eL_put_25 (by decide) rfl rfl (by omega) (by omega) ?_
    refine q_orS 24 (s := 16777216) eL_put_26 rfl (by omega) (by omega) (by omega) (by omega) (by omega) ?_
    refine q_is eL_put_27 d0 (by omega) (by omega) (fun h17 e18 => ?_)
    have k19 := am_at e18
    have e18u : h17.2.1 = h.2.1 := congrArg Prod.fst (am_z e18)
    have e18v : h17.2.2 = h.2.2 := congrArg Prod.snd (am_z e18)
    have F20 : ∀ q, q < h.2.1 → ¬ (fun q => (o ≤ q ∧ q < o + 256) ∨ q = bu) q → h17.1 q = h.1 q := fun q q0 q1 => (am_ne e18 q (fun c => q1 (Or.inr c))).trans ((fun _ _ _ => rfl) q q0 q1)
    have C21 := hL.wb e18
    refine q_blk (lv2 := [(0, vr o), (1, vr bu), (2, vi c)]) (st2 := [vi 0, vr bu, vi 0, vr bu]) kL_put_28 rfl ?_
    refine q_ia eL_put_31 k19 (by decide) (by omega) (by omega) (z := ln) (by unfold am_uI; rw [if_neg (by omega)]; exact e0) ?_
    refine q_blk (lv2 := [(0, vr o), (1, vr bu), (2, vi c)]) (st2 := [vi (ln + 1), vi 0, vr bu]) kL_put_32 rfl ?_
    refine q_is eL_put_34 k19 (by omega) (by omega) (fun h22 e23 => ?_)
    have k24 := am_at e23
    have e23u : h22.2.1 = h17.2.1 := congrArg Prod.fst (am_z e23)
    have e23v : h22.2.2 = h17.2.2 := congrArg Prod.snd (am_z e23)
    have F25 : ∀ q, q < h.2.1 → ¬ (fun q => (o ≤ q ∧ q < o + 256) ∨ q = bu) q → h22.1 q = h.1 q := fun q q0 q1 => (am_ne e23 q (fun c => q1 (Or.inr c))).trans (F20 q q0 q1)
    have C26 := C21.wb e23
    refine q_blk (lv2 := [(0, vr o), (1, vr bu), (2, vi c)]) (st2 := [vi 0, vr bu]) kL_put_35 rfl ?_
    refine q_ia eL_put_37 k24 (by decide) (by omega) (by omega) (z := (ln + 1)) (by unfold am_uI; rw [if_pos rfl]) ?_
    refine q_blk (lv2 := [(0, vr o), (1, vr bu), (2, vi c)]) (st2 := [vi 20, vi (ln + 1)]) kL_put_38 rfl ?_
    refine AQ.of (AS.irem eL_put_40 (by first | assumption | exact ⟨by omega, by omega⟩ | exact ⟨by decide, by decide⟩) ⟨by decide, by decide⟩ (by omega)) ?_
    rw [show (Int.tmod (ln + 1) 20) = ((ln + 1) % 20) from Int.tmod_eq_emod_of_nonneg (by omega)]
    refine AQ.if_ne (tgt := 49) eL_put_41 (by decide) (by first | assumption | exact ⟨by omega, by omega⟩ | exact ⟨by decide, by decide⟩) (fun br27 => ?_) (fun br27 => ?_)
    · skip
      exact q_rv rfl eL_put_49 ⟨rfl, ⟨⟨tx, (by rw [ln2, show (ln + 1) / 20 = ln / 20 by omega]; exact C26), fun k k0 k1 => (htx k k0 (by omega)).trans (by rw [gx_z_a k0, if_neg (by omega)])⟩, (by rw [ln2, show (ln + 1) / 20 = ln / 20 by omega]; exact ⟨_, k24, (by unfold am_uI; rw [if_pos rfl]), (fun i i0 i1 => by
      unfold am_uI
      rw [if_neg (by omega)]
      by_cases ei : i = ln % 20 / 4
      · rw [if_pos (by omega), ei, wn]
      · rw [if_neg (by omega), ew i i0 i1, gx_wk_n (by omega) i0 (by omega)])⟩), hz2, by omega⟩, ⟨F25, ⟨by omega, by omega⟩, by omega, by omega⟩⟩
    · skip
      refine q_blk (lv2 := [(0, vr o), (1, vr bu), (2, vi c)]) (st2 := [vr bu, vr o]) kL_put_44 rfl ?_
      refine AQ.callSv (av := [vr o, vr bu]) (st := []) (c_L_flush C26 (W := gx_wk (Z ++ [c]) (ln / 20)) (ln := ln + 1) (⟨_, k24, (by unfold am_uI; rw [if_pos rfl]), (fun i i0 i1 => by
      unfold am_uI
      rw [if_neg (by omega)]
      by_cases ei : i = ln % 20 / 4
      · rw [if_pos (by omega), ei, wn]
      · rw [if_neg (by omega), ew i i0 i1, gx_wk_n (by omega) i0 (by omega)])⟩) (fun i _ _ => by have := gx_wk_r hz2 (ln / 20) i; exact ⟨by omega, by omega⟩) (by omega)) lk_RL_7 (by decide) rfl rfl (Nat.le_of_ble_eq_true rfl) eL_put_46 (fun h30 e29 => ?_)
      obtain ⟨⟨g31L, g31B⟩, g31f, ⟨g31a, g31b⟩, g31c, g31d⟩ := e29
      have F32 : ∀ q, q < h.2.1 → ¬ (fun q => (o ≤ q ∧ q < o + 256) ∨ q = bu) q → h30.1 q = h.1 q := fun q q0 q1 => (g31f q (by omega) q1).trans (F25 q q0 q1)
      exact q_rv rfl eL_put_49 ⟨rfl, ⟨⟨_, (by rw [ln2, show (ln + 1) / 20 = ln / 20 + 1 by omega, Int.mul_add]; exact g31L), (fun k k0 k1 => gx_pw5 hz2 (fun k k0 k1 => (htx k k0 k1).trans (by rw [gx_z_a k0, if_neg (by omega)])) k k0 (by omega))⟩, (by
      obtain ⟨f9, x0, x1, x2⟩ := g31B
      exact ⟨f9, x0, x1.trans ln2.symm, fun i i0 i1 => (x2 i i0 i1).trans (gx_wk_o (by omega)).symm⟩), hz2, by omega⟩, ⟨F32, ⟨by omega, by omega⟩, by omega, by omega⟩⟩
  · skip
    obtain ⟨wn, wz⟩ := gx_wk_m (Z := Z) (c := c) (q := ln / 20) (i := ln % 20 / 4) (m := 2) (s := 256) (by omega) (by omega) (by omega) (by omega)
    have wr := gx_wk_r hz (ln / 20) (ln % 20 / 4)
    have wr2 := gx_wk_r hz2 (ln / 20) (ln % 20 / 4)
    rw [show (24 - (8 * (ln % 4))) = 8 by omega]
    refine q_shl 8 (s := 256) eL_put_25 (by decide) rfl rfl (by omega) (by omega) ?_
    refine q_orS 16 (s := 65536) eL_put_26 rfl (by omega) (by omega) (by omega) (by omega) (by omega) ?_
    refine q_is eL_put_27 d0 (by omega) (by omega) (fun h33 e34 => ?_)
    have k35 := am_at e34
    have e34u : h33.2.1 = h.2.1 := congrArg Prod.fst (am_z e34)
    have e34v : h33.2.2 = h.2.2 := congrArg Prod.snd (am_z e34)
    have F36 : ∀ q, q < h.2.1 → ¬ (fun q => (o ≤ q ∧ q < o + 256) ∨ q = bu) q → h33.1 q = h.1 q := fun q q0 q1 => (am_ne e34 q (fun c => q1 (Or.inr c))).trans ((fun _ _ _ => rfl) q q0 q1)
    have C37 := hL.wb e34
    refine q_blk (lv2 := [(0, vr o), (1, vr bu), (2, vi c)]) (st2 := [vi 0, vr bu, vi 0, vr bu]) kL_put_28 rfl ?_
    refine q_ia eL_put_31 k35 (by decide) (by omega) (by omega) (z := ln) (by unfold am_uI; rw [if_neg (by omega)]; exact e0) ?_
    refine q_blk (lv2 := [(0, vr o), (1, vr bu), (2, vi c)]) (st2 := [vi (ln + 1), vi 0, vr bu]) kL_put_32 rfl ?_
    refine q_is eL_put_34 k35 (by omega) (by omega) (fun h38 e39 => ?_)
    have k40 := am_at e39
    have e39u : h38.2.1 = h33.2.1 := congrArg Prod.fst (am_z e39)
    have e39v : h38.2.2 = h33.2.2 := congrArg Prod.snd (am_z e39)
    have F41 : ∀ q, q < h.2.1 → ¬ (fun q => (o ≤ q ∧ q < o + 256) ∨ q = bu) q → h38.1 q = h.1 q := fun q q0 q1 => (am_ne e39 q (fun c => q1 (Or.inr c))).trans (F36 q q0 q1)
    have C42 := C37.wb e39
    refine q_blk (lv2 := [(0, vr o), (1, vr bu), (2, vi c)]) (st2 := [vi 0, vr bu]) kL_put_35 rfl ?_
    refine q_ia eL_put_37 k40 (by decide) (by omega) (by omega) (z := (ln + 1)) (by unfold am_uI; rw [if_pos rfl]) ?_
    refine q_blk (lv2 := [(0, vr o), (1, vr bu), (2, vi c)]) (st2 := [vi 20, vi (ln + 1)]) kL_put_38 rfl ?_
    refine AQ.of (AS.irem eL_put_40 (by first | assumption | exact ⟨by omega, by omega⟩ | exact ⟨by decide, by decide⟩) ⟨by decide, by decide⟩ (by omega)) ?_
    rw [show (Int.tmod (ln + 1) 20) = ((ln + 1) % 20) from Int.tmod_eq_emod_of_nonneg (by omega)]
    refine AQ.if_ne (tgt := 49) eL_put_41 (by decide) (by first | assumption | exact ⟨by omega, by omega⟩ | exact ⟨by decide, by decide⟩) (fun br43 => ?_) (fun br43 => ?_)
    · skip
      exact q_rv rfl eL_put_49 ⟨rfl, ⟨⟨tx, (by rw [ln2, show (ln + 1) / 20 = ln / 20 by omega]; exact C42), fun k k0 k1 => (htx k k0 (by omega)).trans (by rw [gx_z_a k0, if_neg (by omega)])⟩, (by rw [ln2, show (ln + 1) / 20 = ln / 20 by omega]; exact ⟨_, k40, (by unfold am_uI; rw [if_pos rfl]), (fun i i0 i1 => by
      unfold am_uI
      rw [if_neg (by omega)]
      by_cases ei : i = ln % 20 / 4
      · rw [if_pos (by omega), ei, wn]
      · rw [if_neg (by omega), ew i i0 i1, gx_wk_n (by omega) i0 (by omega)])⟩), hz2, by omega⟩, ⟨F41, ⟨by omega, by omega⟩, by omega, by omega⟩⟩
    · skip
      refine q_blk (lv2 := [(0, vr o), (1, vr bu), (2, vi c)]) (st2 := [vr bu, vr o]) kL_put_44 rfl ?_
      refine AQ.callSv (av := [vr o, vr bu]) (st := []) (c_L_flush C42 (W := gx_wk (Z ++ [c]) (ln / 20)) (ln := ln + 1) (⟨_, k40, (by unfold am_uI; rw [if_pos rfl]), (fun i i0 i1 => by
      unfold am_uI
      rw [if_neg (by omega)]
      by_cases ei : i = ln % 20 / 4
      · rw [if_pos (by omega), ei, wn]
      · rw [if_neg (by omega), ew i i0 i1, gx_wk_n (by omega) i0 (by omega)])⟩) (fun i _ _ => by have := gx_wk_r hz2 (ln / 20) i; exact ⟨by omega, by omega⟩) (by omega)) lk_RL_7 (by decide) rfl rfl (Nat.le_of_ble_eq_true rfl) eL_put_46 (fun h46 e45 => ?_)
      obtain ⟨⟨g47L, g47B⟩, g47f, ⟨g47a, g47b⟩, g47c, g47d⟩ := e45
      have F48 : ∀ q, q < h.2.1 → ¬ (fun q => (o ≤ q ∧ q < o + 256) ∨ q = bu) q → h46.1 q = h.1 q := fun q q0 q1 => (g47f q (by omega) q1).trans (F41 q q0 q1)
      exact q_rv rfl eL_put_49 ⟨rfl, ⟨⟨_, (by rw [ln2, show (ln + 1) / 20 = ln / 20 + 1 by omega, Int.mul_add]; exact g47L), (fun k k0 k1 => gx_pw5 hz2 (fun k k0 k1 => (htx k k0 k1).trans (by rw [gx_z_a k0, if_neg (by omega)])) k k0 (by omega))⟩, (by
      obtain ⟨f9, x0, x1, x2⟩ := g47B
      exact ⟨f9, x0, x1.trans ln2.symm, fun i i0 i1 => (x2 i i0 i1).trans (gx_wk_o (by omega)).symm⟩), hz2, by omega⟩, ⟨F48, ⟨by omega, by omega⟩, by omega, by omega⟩⟩
  · skip
    obtain ⟨wn, wz⟩ := gx_wk_m (Z := Z) (c := c) (q := ln / 20) (i := ln % 20 / 4) (m := 3) (s := 1) (by omega) (by omega) (by omega) (by omega)
    have wr := gx_wk_r hz (ln / 20) (ln % 20 / 4)
    have wr2 := gx_wk_r hz2 (ln / 20) (ln % 20 / 4)
    rw [show (24 - (8 * (ln % 4))) = 0 by omega]
    refine q_shl 0 (s := 1) eL_put_25 (by decide) rfl rfl (by omega) (by omega) ?_
    refine q_orS 8 (s := 256) eL_put_26 rfl (by omega) (by omega) (by omega) (by omega) (by omega) ?_
    refine q_is eL_put_27 d0 (by omega) (by omega) (fun h49 e50 => ?_)
    have k51 := am_at e50
    have e50u : h49.2.1 = h.2.1 := congrArg Prod.fst (am_z e50)
    have e50v : h49.2.2 = h.2.2 := congrArg Prod.snd (am_z e50)
    have F52 : ∀ q, q < h.2.1 → ¬ (fun q => (o ≤ q ∧ q < o + 256) ∨ q = bu) q → h49.1 q = h.1 q := fun q q0 q1 => (am_ne e50 q (fun c => q1 (Or.inr c))).trans ((fun _ _ _ => rfl) q q0 q1)
    have C53 := hL.wb e50
    refine q_blk (lv2 := [(0, vr o), (1, vr bu), (2, vi c)]) (st2 := [vi 0, vr bu, vi 0, vr bu]) kL_put_28 rfl ?_
    refine q_ia eL_put_31 k51 (by decide) (by omega) (by omega) (z := ln) (by unfold am_uI; rw [if_neg (by omega)]; exact e0) ?_
    refine q_blk (lv2 := [(0, vr o), (1, vr bu), (2, vi c)]) (st2 := [vi (ln + 1), vi 0, vr bu]) kL_put_32 rfl ?_
    refine q_is eL_put_34 k51 (by omega) (by omega) (fun h54 e55 => ?_)
    have k56 := am_at e55
    have e55u : h54.2.1 = h49.2.1 := congrArg Prod.fst (am_z e55)
    have e55v : h54.2.2 = h49.2.2 := congrArg Prod.snd (am_z e55)
    have F57 : ∀ q, q < h.2.1 → ¬ (fun q => (o ≤ q ∧ q < o + 256) ∨ q = bu) q → h54.1 q = h.1 q := fun q q0 q1 => (am_ne e55 q (fun c => q1 (Or.inr c))).trans (F52 q q0 q1)
    have C58 := C53.wb e55
    refine q_blk (lv2 := [(0, vr o), (1, vr bu), (2, vi c)]) (st2 := [vi 0, vr bu]) kL_put_35 rfl ?_
    refine q_ia eL_put_37 k56 (by decide) (by omega) (by omega) (z := (ln + 1)) (by unfold am_uI; rw [if_pos rfl]) ?_
    refine q_blk (lv2 := [(0, vr o), (1, vr bu), (2, vi c)]) (st2 := [vi 20, vi (ln + 1)]) kL_put_38 rfl ?_
    refine AQ.of (AS.irem eL_put_40 (by first | assumption | exact ⟨by omega, by omega⟩ | exact ⟨by decide, by decide⟩) ⟨by decide, by decide⟩ (by omega)) ?_
    rw [show (Int.tmod (ln + 1) 20) = ((ln + 1) % 20) from Int.tmod_eq_emod_of_nonneg (by omega)]
    refine AQ.if_ne (tgt := 49) eL_put_41 (by decide) (by first | assumption | exact ⟨by omega, by omega⟩ | exact ⟨by decide, by decide⟩) (fun br59 => ?_) (fun br59 => ?_)
    · skip
      exact q_rv rfl eL_put_49 ⟨rfl, ⟨⟨tx, (by rw [ln2, show (ln + 1) / 20 = ln / 20 by omega]; exact C58), fun k k0 k1 => (htx k k0 (by omega)).trans (by rw [gx_z_a k0, if_neg (by omega)])⟩, (by rw [ln2, show (ln + 1) / 20 = ln / 20 by omega]; exact ⟨_, k56, (by unfold am_uI; rw [if_pos rfl]), (fun i i0 i1 => by
      unfold am_uI
      rw [if_neg (by omega)]
      by_cases ei : i = ln % 20 / 4
      · rw [if_pos (by omega), ei, wn]
      · rw [if_neg (by omega), ew i i0 i1, gx_wk_n (by omega) i0 (by omega)])⟩), hz2, by omega⟩, ⟨F57, ⟨by omega, by omega⟩, by omega, by omega⟩⟩
    · skip
      refine q_blk (lv2 := [(0, vr o), (1, vr bu), (2, vi c)]) (st2 := [vr bu, vr o]) kL_put_44 rfl ?_
      refine AQ.callSv (av := [vr o, vr bu]) (st := []) (c_L_flush C58 (W := gx_wk (Z ++ [c]) (ln / 20)) (ln := ln + 1) (⟨_, k56, (by unfold am_uI; rw [if_pos rfl]), (fun i i0 i1 => by
      unfold am_uI
      rw [if_neg (by omega)]
      by_cases ei : i = ln % 20 / 4
      · rw [if_pos (by omega), ei, wn]
      · rw [if_neg (by omega), ew i i0 i1, gx_wk_n (by omega) i0 (by omega)])⟩) (fun i _ _ => by have := gx_wk_r hz2 (ln / 20) i; exact ⟨by omega, by omega⟩) (by omega)) lk_RL_7 (by decide) rfl rfl (Nat.le_of_ble_eq_true rfl) eL_put_46 (fun h62 e61 => ?_)
      obtain ⟨⟨g63L, g63B⟩, g63f, ⟨g63a, g63b⟩, g63c, g63d⟩ := e61
      have F64 : ∀ q, q < h.2.1 → ¬ (fun q => (o ≤ q ∧ q < o + 256) ∨ q = bu) q → h62.1 q = h.1 q := fun q q0 q1 => (g63f q (by omega) q1).trans (F57 q q0 q1)
      exact q_rv rfl eL_put_49 ⟨rfl, ⟨⟨_, (by rw [ln2, show (ln + 1) / 20 = ln / 20 + 1 by omega, Int.mul_add]; exact g63L), (fun k k0 k1 => gx_pw5 hz2 (fun k k0 k1 => (htx k k0 k1).trans (by rw [gx_z_a k0, if_neg (by omega)])) k k0 (by omega))⟩, (by
      obtain ⟨f9, x0, x1, x2⟩ := g63B
      exact ⟨f9, x0, x1.trans ln2.symm, fun i i0 i1 => (x2 i i0 i1).trans (gx_wk_o (by omega)).symm⟩), hz2, by omega⟩, ⟨F64, ⟨by omega, by omega⟩, by omega, by omega⟩⟩
