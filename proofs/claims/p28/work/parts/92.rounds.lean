/-! The law: its rounds. -/
theorem sg_round {nm : String} {TT : List (Nat × Nat × Nat × Nat)} {w : am_w} {d b0 : Nat} {i9 : Int} {Q : RV → AH → Prop} {h : AH} (hd : 90 ≤ d) (hb : b0 = w.2 400) (hW : W0 w h) (hi : 0 ≤ i9 ∧ i9 ≤ 1) (kk0 : AQ w (mL nm TT) d 1312 [(0, vr b0), (1, vi 1), (2, vi i9)] [] h Q) (kk1 : ∀ h1 : AH, W0 w h1 → (h1.2.1 ≤ h.2.1 + 4300 ∧ h1.2.2 ≤ h.2.2 + 330000) → AQ w (mL nm TT) d 4 [(0, vr b0), (1, vi 1), (2, vi (i9 + 1))] [] h1 Q) : AQ w (mL nm TT) d 4 [(0, vr b0), (1, vi 1), (2, vi i9)] [] h Q := by
  obtain ⟨bs, b1, ⟨s1, len, g9, G9, cb, ⟨l0, l1⟩, hg⟩, -⟩ := id hW.2
  rw [← hb] at s1 cb
  refine q_blk (lv2 := [(0, vr b0), (1, vi 1), (2, vi i9)]) (st2 := [vr b0, vi i9]) kL_law_4 rfl ?_
  refine q_al eL_law_6 cb (by decide) ?_
  refine AQ.ic_ge (tgt := 1312) eL_law_7 (by decide) ⟨by omega, by omega⟩ ⟨by omega, by omega⟩ (fun c => kk0) (fun c => ?_)
  refine q_blk (lv2 := [(0, vr b0), (1, vi 1), (2, vi i9)]) (st2 := [vi 2, vi i9]) kL_law_10 rfl ?_
  refine AQ.of (AS.ic_ge_f eL_law_12 ⟨by omega, by omega⟩ ⟨by decide, by decide⟩ (by omega) (by decide)) ?_
  refine q_blk (lv2 := [(0, vr b0), (1, vi 1), (2, vi i9)]) (st2 := [vi 1]) kL_law_15 rfl ?_
  refine AQ.of (AS.if_eq_f eL_law_16 ⟨by decide, by decide⟩ (by decide) (by decide)) ?_
  refine sg_V1 (dn := 0) (n := 0) hd hW cb (by omega) ⟨hi.1, by omega⟩ l1 hg (fun o bu r h1 L1 B1 R1 hr1 bd1 => ?_)
  refine sg_V2 (dn := 0) (n := 0) hd L1 B1 R1 hr1 (fun cm h2 L2 B2 R2 hr2 bd2 => ?_)
  refine sg_V3 (dn := 0) (n := 0) hd L2 B2 R2 hr2 (fun {sa gs T L tx} bf f h3 x3 bd3 => ?_)
  refine sg_loop hd 40 0 0 h3 (by decide) (by decide) (by decide) x3 (fun dn' n' h4 hdn x4 bd4 => ?_)
  obtain ⟨D, cm4, Hs, H1, R4, pa, gp, sc, hI, hH, hn0, hl⟩ := x4
  refine q_blk (lv2 := [(0, vr b0), (1, vi 1), (2, vi i9), (3, vr o), (4, vr bu), (5, vr r), (6, vr f), (7, vr bf), (8, vi dn'), (9, vi 0)]) (st2 := []) kL_law_1189 rfl ?_
  refine sg_undo (R := R4) hd ⟨hn0, hdn⟩ hl 8 0 h4 D cm4 sc L (by decide) (by decide) ⟨by rw [show H1.drop (0 : Int).toNat ++ R4 = Hs from hH.symm]; exact hI.1, hI.2.1, hI.2.2.2⟩ (fun n2 h5 D5 cm5 sc5 L5 Hs5 l5 bd5 => ?_)
  exact sg_G hd l5 ⟨hi.1, by omega⟩ (fun h6 l6 bd6 => kk1 h6 l6.w0 ⟨by omega, by omega⟩)
theorem sg_law {nm : String} {TT : List (Nat × Nat × Nat × Nat)} {w : am_w} {b0 : Nat} {h : AH} (hb : b0 = w.2 400) (hW : W0 w h) : AQ w (mL nm TT) 92 0 [(0, vr b0)] [] h (fun r h' => r = .inl (some (vi 1)) ∧ (h'.2.1 ≤ h.2.1 + 8700 ∧ h'.2.2 ≤ h.2.2 + 670000)) := by
  have ex : ∀ (h1 : AH) (i9 : Int), (h1.2.1 ≤ h.2.1 + 8700 ∧ h1.2.2 ≤ h.2.2 + 670000) → AQ w (mL nm TT) 92 1312 [(0, vr b0), (1, vi 1), (2, vi i9)] [] h1 (fun r h' => r = .inl (some (vi 1)) ∧ (h'.2.1 ≤ h.2.1 + 8700 ∧ h'.2.2 ≤ h.2.2 + 670000)) := fun h1 i9 b => by
    refine q_blk (lv2 := [(0, vr b0), (1, vi 1), (2, vi i9)]) (st2 := [vi 1]) kL_law_1312 rfl ?_
    exact q_rz rfl eL_law_1313 (Or.inr rfl) ⟨rfl, b⟩
  refine q_blk (lv2 := [(0, vr b0), (1, vi 1), (2, vi 0)]) (st2 := []) kL_law_0 rfl ?_
  refine sg_round (i9 := 0) (by decide) hb hW (by decide) (ex h 0 ⟨by omega, by omega⟩) (fun h1 W1 d1 => ?_)
  refine sg_round (i9 := 0 + 1) (by decide) hb W1 (by decide) (ex h1 _ ⟨by omega, by omega⟩) (fun h2 W2 d2 => ?_)
  obtain ⟨bs, b1, ⟨s1, len, g9, G9, cb, ⟨l0, l1⟩, hg⟩, -⟩ := id W2.2
  rw [← hb] at s1 cb
  refine q_blk (lv2 := [(0, vr b0), (1, vi 1), (2, vi (0 + 1 + 1))]) (st2 := [vr b0, vi (0 + 1 + 1)]) kL_law_4 rfl ?_
  refine q_al eL_law_6 cb (by decide) ?_
  refine AQ.ic_ge (tgt := 1312) eL_law_7 (by decide) ⟨by decide, by decide⟩ ⟨by omega, by omega⟩ (fun c => ex h2 _ ⟨by omega, by omega⟩) (fun c => ?_)
  refine q_blk (lv2 := [(0, vr b0), (1, vi 1), (2, vi (0 + 1 + 1))]) (st2 := [vi 2, vi (0 + 1 + 1)]) kL_law_10 rfl ?_
  refine AQ.of (AS.ic_ge_t (tgt := 1312) eL_law_12 (by decide) ⟨by decide, by decide⟩ ⟨by decide, by decide⟩ (by decide)) ?_
  exact ex h2 _ ⟨by omega, by omega⟩
