/-! The law's loop: a round's end, all rounds. -/
/-- the row of copies, shifted from its end down to place k -/
def gx_sh (gb : Int → Option Nat) (k : Int) (j : Int) : Option Nat := if k < j ∧ j ≤ 8 then gb (j - 1) else gb j
theorem gx_sh_8 (gb : Int → Option Nat) : gx_sh gb 8 = gb := by
  funext j
  unfold gx_sh
  rw [if_neg (by omega)]
theorem gx_sh_s {gb : Int → Option Nat} {k : Int} (k1 : k + 1 ≤ 8) {v : Option Nat} (e : gb k = v) : am_uR (gx_sh gb (k + 1)) (k + 1) v = gx_sh gb k := by
  funext j
  unfold am_uR gx_sh
  by_cases c : j = k + 1
  · subst c
    rw [if_pos rfl, if_pos ⟨by omega, by omega⟩, show k + 1 - 1 = k by omega, e]
  · rw [if_neg c]
    by_cases q : k < j ∧ j ≤ 8
    · rw [if_pos q, if_pos ⟨by omega, q.2⟩]
    · rw [if_neg q, if_neg (fun z => q ⟨by omega, z.2⟩)]
theorem sg_sh {nm : String} {TT : List (Nat × Nat × Nat × Nat)} {w : am_w} {d b0 o bu r f bf g9 : Nat} {i9 dn n : Int} {Q : RV → AH → Prop} {fz : Int → Int} {gb : Int → Option Nat} (dn0 : 0 ≤ dn ∧ dn ≤ 40) : ∀ (k : Nat) (h : AH), k ≤ 8 → h.1 bf = some (107, 9, fz, gx_sh gb k) → (∀ j, 0 ≤ j → j < 9 → gb j = none ∨ ∃ q, gb j = some q ∧ am_ob h q 8) → am_ob h g9 8 → (kk : ∀ h1 : AH, h1.1 bf = some (107, 9, fz, am_uR (gx_sh gb 0) 0 (some g9)) → (∀ q, q ≠ bf → h1.1 q = h.1 q) → h1.2 = h.2 → AQ w (mL nm TT) d 1164 [(0, vr b0), (1, vi 1), (2, vi i9), (3, vr o), (4, vr bu), (5, vr r), (6, vr f), (7, vr bf), (8, vi (dn + 1)), (9, vi n), (10, vr g9), (11, vi 1)] [] h1 Q) → AQ w (mL nm TT) d 1132 [(0, vr b0), (1, vi 1), (2, vi i9), (3, vr o), (4, vr bu), (5, vr r), (6, vr f), (7, vr bf), (8, vi dn), (9, vi n), (10, vr g9), (11, vi 1), (21, vi (k : Int))] [] h Q
  | 0, h, k8, hc, nb, hg, kk => by
    refine q_blk (lv2 := [(0, vr b0), (1, vi 1), (2, vi i9), (3, vr o), (4, vr bu), (5, vr r), (6, vr f), (7, vr bf), (8, vi dn), (9, vi n), (10, vr g9), (11, vi 1), (21, vi ((0 : Nat) : Int))]) (st2 := [vi ((0 : Nat) : Int)]) kL_law_1132 rfl ?_
    refine AQ.of (AS.if_le_t (tgt := 1155) eL_law_1134 (by decide) ⟨by omega, by omega⟩ (by omega)) ?_
    refine q_sub (lv2 := [(0, vr b0), (1, vi 1), (2, vi i9), (3, vr o), (4, vr bu), (5, vr r), (6, vr f), (7, vr bf), (8, vi dn), (9, vi n), (10, vr g9), (11, vi 1)]) [0, 1, 2, 3, 4, 5, 6, 7, 8, 9, 10, 11] rfl ?_
    refine q_blk (lv2 := [(0, vr b0), (1, vi 1), (2, vi i9), (3, vr o), (4, vr bu), (5, vr r), (6, vr f), (7, vr bf), (8, vi dn), (9, vi n), (10, vr g9), (11, vi 1)]) (st2 := [vr g9, vi 0, vr bf]) kL_law_1155 rfl ?_
    obtain ⟨n1, f1, g1, cg⟩ := hg
    refine q_as eL_law_1160 (Or.inr (Or.inr (Or.inr ⟨rfl, rfl⟩))) hc (by omega) (by omega) cg (fun h2 e => ?_)
    refine q_blk (lv2 := [(0, vr b0), (1, vi 1), (2, vi i9), (3, vr o), (4, vr bu), (5, vr r), (6, vr f), (7, vr bf), (8, vi (dn + 1)), (9, vi n), (10, vr g9), (11, vi 1)]) (st2 := []) kL_law_1161 rfl ?_
    exact kk h2 (am_at e) (am_ne e) (am_z e)
  | k + 1, h, k8, hc, nb, hg, kk => by
    refine q_blk (lv2 := [(0, vr b0), (1, vi 1), (2, vi i9), (3, vr o), (4, vr bu), (5, vr r), (6, vr f), (7, vr bf), (8, vi dn), (9, vi n), (10, vr g9), (11, vi 1), (21, vi ((k + 1 : Nat) : Int))]) (st2 := [vi ((k + 1 : Nat) : Int)]) kL_law_1132 rfl ?_
    refine AQ.of (AS.if_le_f eL_law_1134 ⟨by omega, by omega⟩ (by omega) (by decide)) ?_
    refine q_blk (lv2 := [(0, vr b0), (1, vi 1), (2, vi i9), (3, vr o), (4, vr bu), (5, vr r), (6, vr f), (7, vr bf), (8, vi dn), (9, vi n), (10, vr g9), (11, vi 1), (21, vi ((k + 1 : Nat) : Int))]) (st2 := [vi (((k + 1 : Nat) : Int) - 1), vr bf, vi ((k + 1 : Nat) : Int), vr bf]) kL_law_1137 rfl ?_
    have e1 : ((k + 1 : Nat) : Int) = (k : Int) + 1 := by omega
    have e2 : ((k + 1 : Nat) : Int) - 1 = (k : Int) := by omega
    have e3 : gx_sh gb ((k + 1 : Nat) : Int) (((k + 1 : Nat) : Int) - 1) = gb k := by
      rw [e2]; unfold gx_sh; rw [if_neg (by omega)]
    have fin : ∀ (h2 : AH) (v : Option Nat), gb k = v → h2 = am_set h bf (107, 9, fz, am_uR (gx_sh gb ((k + 1 : Nat) : Int)) ((k + 1 : Nat) : Int) v) → AQ w (mL nm TT) d 1149 [(0, vr b0), (1, vi 1), (2, vi i9), (3, vr o), (4, vr bu), (5, vr r), (6, vr f), (7, vr bf), (8, vi dn), (9, vi n), (10, vr g9), (11, vi 1), (21, vi ((k + 1 : Nat) : Int))] [] h2 Q := fun h2 v ev e => by
      refine q_blk (lv2 := [(0, vr b0), (1, vi 1), (2, vi i9), (3, vr o), (4, vr bu), (5, vr r), (6, vr f), (7, vr bf), (8, vi dn), (9, vi n), (10, vr g9), (11, vi 1), (21, vi (((k + 1 : Nat) : Int) + -1))]) (st2 := []) kL_law_1149 rfl ?_
      refine q_goto (tgt := 1132) eL_law_1152 (by decide) ?_
      rw [show ((k + 1 : Nat) : Int) + -1 = (k : Int) by omega]
      have nbf : ∀ q, am_ob h q 8 → q ≠ bf := fun q ⟨_, _, _, z⟩ y => by rw [y, hc] at z; cases z
      have obk : ∀ q, am_ob h q 8 → am_ob h2 q 8 := fun q ob => by
        obtain ⟨a1, a2, a3, a4⟩ := id ob
        exact ⟨a1, a2, a3, (am_ne e q (nbf q ob)).trans a4⟩
      refine sg_sh dn0 k h2 (by omega) ?_ (fun j j0 j1 => (nb j j0 j1).imp id fun ⟨q, a, b⟩ => ⟨q, a, obk q b⟩) (obk g9 hg) (fun h3 x1 x2 x3 => kk h3 x1 (fun q q0 => (x2 q q0).trans (am_ne e q q0)) (x3.trans (am_z e)))
      rw [am_at e, e1, gx_sh_s (by omega) ev]
    rcases nb k (by omega) (by omega) with c | ⟨q, c, n1, f1, g1, cg⟩
    · refine AQ.of (AS.aaldN eL_law_1147 hc (by decide) (by omega) (by omega)) ?_
      rw [e3, c]
      exact AQ.of (AS.aastN eL_law_1148 (by decide) hc (by omega) (by omega)) (fin _ _ c rfl)
    · refine q_aa eL_law_1147 hc (by decide) (by omega) (by omega) (e3.trans c) ?_
      exact q_as eL_law_1148 (Or.inr (Or.inr (Or.inr ⟨rfl, rfl⟩))) hc (by omega) (by omega) cg (fun h2 e => fin h2 _ c e)
section RND9
variable {w : am_w} {o bu r bf f sa pa : Nat} {gs gp : Int → Option Nat} {T : Option Nat} {L : GL} {h h1 : AH} {D cm : Int → Int} {sc : Nat} {tx : Int → Int} {bl le : Int} {Hs H1 : List GE} {g c s : Nat}
/-- the row of copies written: all else as before -/
theorem INV.sh {fz : Int → Int} {gb : Int → Option Nat} {e : GE} (x : INV w o bu r bf f sa pa gs gp T L h D cm sc tx bl le Hs H1) (cg : CPO o bu r bf f gp (D 3) T L h g e) (og : am_ob h g 8) (bg : LBM o bu r bf f gp (D 3) h g) (c0 : h.1 bf = some (107, 9, fz, gb)) (nb : ∀ j, 0 ≤ j → j < 9 → gb j = none ∨ ∃ q, gb j = some q ∧ am_ob h q 8 ∧ LBM o bu r bf f gp (D 3) h q) (cp : ∀ (j : Nat) (e : GE), H1[j]? = some e → ∃ g, gb j = some g ∧ CPO o bu r bf f gp (D 3) T L h g e) (c1 : h1.1 bf = some (107, 9, fz, am_uR (gx_sh gb 0) 0 (some g))) (F : ∀ q, q ≠ bf → h1.1 q = h.1 q) (t : h1.2 = h.2) : INV w o bu r bf f sa pa gs gp T L h1 D cm sc tx bl le Hs (e :: H1.take 7) := by
  have t1 : h1.2.1 = h.2.1 := congrArg Prod.fst t
  have t2 : h1.2.2 = h.2.2 := congrArg Prod.snd t
  have k : KF h h1 (fun q => q = bf) 0 0 := ⟨fun q _ z => F q z, ⟨by omega, by omega⟩, by omega, by omega⟩
  obtain ⟨xL, xF, xX, ⟨⟨R, ⟨r1, r2, r3⟩, ⟨f1, f2, f3⟩⟩, -, tr⟩⟩ := x
  have fb : ∀ q, LBM o bu r bf f gp (D 3) h q → h1.1 q = h.1 q := fun q b => F q b.1.2.2.2
  have up : ∀ q, LBM o bu r bf f gp (D 3) h q → LBM o bu r bf f gp (D 3) h1 q := fun q b => ⟨b.1.up (by omega), b.2⟩
  have cpk : ∀ {g : Nat} {e : GE}, CPO o bu r bf f gp (D 3) T L h g e → CPO o bu r bf f gp (D 3) T L h1 g e := fun ⟨sa', pa', gs', gp2, F, y⟩ => ⟨sa', pa', gs', gp2, F.loc fb up, y⟩
  have obk : ∀ q, am_ob h q 8 → LBM o bu r bf f gp (D 3) h q → am_ob h1 q 8 := fun q ⟨a, b, c, e⟩ z => ⟨a, b, c, (fb q z).trans e⟩
  obtain ⟨sd, rc⟩ := id R
  have nr : r ≠ bf := fun e => by rw [e, c0] at rc; cases rc
  refine ⟨xL.kf k fun q z => ?_, xF.loc (fun q b => F q b.2.2.2) (fun q b => b.up (by omega)), xX, ⟨R.mv (F r nr), ⟨r1, by omega, r3⟩, ⟨f1, by omega, f3⟩⟩, ⟨fz, _, c1, fun j j0 j1 => ?_, fun j e he => ?_⟩, tr.mv fb up⟩
  · have z : q = bf := z
    subst z
    refine ⟨f1, Or.inr fun ci nn ff fg e => ?_⟩
    rw [c0] at e; cases e; decide
  · unfold am_uR
    by_cases q : j = 0
    · rw [if_pos q]; exact Or.inr ⟨g, rfl, obk g og bg, up g bg⟩
    · rw [if_neg q]
      unfold gx_sh
      rw [if_pos ⟨by omega, by omega⟩]
      exact (nb (j - 1) (by omega) (by omega)).imp id fun ⟨q, a, b, c⟩ => ⟨q, a, obk q b c, up q c⟩
  · cases j with
    | zero =>
      cases he
      exact ⟨g, by unfold am_uR; exact if_pos rfl, cpk cg⟩
    | succ j =>
      have he : (H1.take 7)[j]? = some e := he
      rw [List.getElem?_take] at he
      split at he
      · obtain ⟨g2, a, b⟩ := cp j e he
        refine ⟨g2, ?_, cpk b⟩
        unfold am_uR gx_sh
        rw [if_neg (by omega), if_pos ⟨by omega, by omega⟩, show ((j + 1 : Nat) : Int) - 1 = j by omega]
        exact a
      · cases he
/-- what the class alone has touched -/
theorem INV.ag (x : INV w o bu r bf f sa pa gs gp T L h D cm sc tx bl le Hs H1) (l : LC w h1 o bu D cm sc L tx bl le Hs) (k : KF h h1 (fun q => o ≤ q ∧ q < o + 256) c s) : INV w o bu r bf f sa pa gs gp T L h1 D cm sc tx bl le Hs H1 :=
  ⟨l, x.2.1.loc (fun q b => k.1 q b.1.2 (fun z => by have := b.1.1; omega)) (fun q b => b.up k.2.1.1), x.2.2.1, x.2.2.2.kf x.2.1 k (fun q z => Or.inl z) (fun q m => Or.inl m)⟩
theorem INV.agr (x : INV w o bu r bf f sa pa gs gp T L h D cm sc tx bl le Hs H1) : AE w m_L_agrees 76 [vr o, vr f] h (am_int (fun z h1 => z = 1 ∧ LC w h1 o bu D cm sc L tx bl le Hs ∧ KF h h1 (fun q => o ≤ q ∧ q < o + 256) 40 300)) :=
  c_L_agrees x.1 x.2.1 x.2.2.1 (FX.uq x.2.2.1 x.1.1.2.2.2.2.2.1.2.2.1) (fun k k0 k1 => (x.1.1.2.2.2.2.2.1.2.2.1 k k0 k1).2) (fun q b => b.1.2) x.2.2.2.2.2 (fun q b => b.1.1.2) (fun q b z => by have := b.1.1; omega) (fun q b z => by have := b.1.1.1; omega)
/-- at the loop's head -/
def LHD (w : am_w) (o bu r bf f sa : Nat) (gs : Int → Option Nat) (T : Option Nat) (L : GL) (h : AH) (tx : Int → Int) (bl le : Int) (dn : Int) : Prop := ∃ D cm Hs H1 R pa gp sc, INV w o bu r bf f sa pa gs gp T L h D cm sc tx bl le Hs H1 ∧ Hs = H1 ++ R ∧ 0 ≤ dn ∧ H1.length = min dn.toNat 8
end RND9

set_option maxRecDepth 4000 in
set_option maxHeartbeats 4000000 in
theorem sg_F {nm : String} {TT : List (Nat × Nat × Nat × Nat)} {w : am_w} {d b0 : Nat} {i9 dn n : Int} {Q : RV → AH → Prop} {h : AH} {o bu r bf f sa pa : Nat} {gs gp : Int → Option Nat} {T : Option Nat} {L : GL} {D cm : Int → Int} {sc : Nat} {tx : Int → Int} {bl le : Int} {Hs H1 : List GE} {R : List GE} (hd : 90 ≤ d) (hI : INV w o bu r bf f sa pa gs gp T L h D cm sc tx bl le Hs H1) (hH : Hs = H1 ++ R) (hn : 0 ≤ dn) (hN : 0 ≤ n ∧ n < 40) (hl : H1.length = min dn.toNat 8) (kk : ∀ h1 : AH, LHD w o bu r bf f sa gs T L h1 tx bl le dn → (h1.2.1 ≤ h.2.1 + 40 ∧ h1.2.2 ≤ h.2.2 + 300) → AQ w (mL nm TT) d 228 [(0, vr b0), (1, vi 1), (2, vi i9), (3, vr o), (4, vr bu), (5, vr r), (6, vr f), (7, vr bf), (8, vi dn), (9, vi (n + 1))] [] h1 Q)  : AQ w (mL nm TT) d 1164 [(0, vr b0), (1, vi 1), (2, vi i9), (3, vr o), (4, vr bu), (5, vr r), (6, vr f), (7, vr bf), (8, vi dn), (9, vi n)] [] h Q := by
  refine q_blk (lv2 := [(0, vr b0), (1, vi 1), (2, vi i9), (3, vr o), (4, vr bu), (5, vr r), (6, vr f), (7, vr bf), (8, vi dn), (9, vi n)]) (st2 := [vi 1]) kL_law_1164 rfl ?_
  refine AQ.of (AS.if_eq_f eL_law_1165 ⟨by decide, by decide⟩ (by decide) (by decide)) ?_
  refine q_blk (lv2 := [(0, vr b0), (1, vi 1), (2, vi i9), (3, vr o), (4, vr bu), (5, vr r), (6, vr f), (7, vr bf), (8, vi dn), (9, vi n)]) (st2 := [vr f, vr o]) kL_law_1168 rfl ?_
  refine AQ.callSi (av := [vr o, vr f]) (st := []) hI.agr lk_RL_247 (by omega) rfl rfl (Nat.le_of_ble_eq_true rfl) eL_law_1171 (fun z1 h3 e2 => ?_)
  obtain ⟨g4e, g4l, g4k⟩ := e2
  subst g4e
  have g4i := hI.ag g4l g4k
  obtain ⟨-, ⟨g4a, g4b⟩, g4y, g4z⟩ := id g4k
  refine AQ.of (AS.if_eq_f eL_law_1174 ⟨by decide, by decide⟩ (by decide) (by decide)) ?_
  refine q_blk (lv2 := [(0, vr b0), (1, vi 1), (2, vi i9), (3, vr o), (4, vr bu), (5, vr r), (6, vr f), (7, vr bf), (8, vi dn), (9, vi n)]) (st2 := [vi 1]) kL_law_1177 rfl ?_
  refine q_goto (tgt := 1182) eL_law_1178 (by decide) ?_
  refine q_blk (lv2 := [(0, vr b0), (1, vi 1), (2, vi i9), (3, vr o), (4, vr bu), (5, vr r), (6, vr f), (7, vr bf), (8, vi dn), (9, vi (n + 1))]) (st2 := []) kL_law_1182 rfl ?_
  refine q_goto (tgt := 228) eL_law_1186 (by decide) ?_
  exact kk h3 ⟨D, cm, Hs, H1, R, pa, gp, sc, g4i, hH, hn, hl⟩ ⟨by omega, by omega⟩

set_option maxRecDepth 4000 in
theorem sg_E {nm : String} {TT : List (Nat × Nat × Nat × Nat)} {w : am_w} {d b0 : Nat} {i9 dn n : Int} {Q : RV → AH → Prop} {h : AH} {o bu r bf f sa : Nat} {gs : Int → Option Nat} {T : Option Nat} {L : GL} {D cm : Int → Int} {sc : Nat} {tx : Int → Int} {bl le : Int} {Hs H1 R : List GE} {g9 : Nat} {ch : Int} (hd : 90 ≤ d) (x : RES w o bu r bf f sa gs T L h D cm sc tx bl le Hs H1 g9 ch) (hH : Hs = H1 ++ R) (hn : 0 ≤ dn ∧ dn < 40) (hN : 0 ≤ n ∧ n < 40) (hl : H1.length = min dn.toNat 8) (kk : ∀ (dn' : Int) (h1 : AH), (dn' = dn ∨ dn' = dn + 1) → LHD w o bu r bf f sa gs T L h1 tx bl le dn' → (h1.2.1 ≤ h.2.1 + 40 ∧ h1.2.2 ≤ h.2.2 + 300) → AQ w (mL nm TT) d 228 [(0, vr b0), (1, vi 1), (2, vi i9), (3, vr o), (4, vr bu), (5, vr r), (6, vr f), (7, vr bf), (8, vi dn'), (9, vi (n + 1))] [] h1 Q) : AQ w (mL nm TT) d 1123 [(0, vr b0), (1, vi 1), (2, vi i9), (3, vr o), (4, vr bu), (5, vr r), (6, vr f), (7, vr bf), (8, vi dn), (9, vi n), (10, vr g9), (11, vi ch)] [] h Q := by
  obtain ⟨E, cm', Hs', pa, gp, hI, ⟨cg, og, bg⟩, hch⟩ := x
  rcases hch with ⟨rfl, e⟩ | ⟨rfl, rfl⟩
  · refine q_blk (lv2 := [(0, vr b0), (1, vi 1), (2, vi i9), (3, vr o), (4, vr bu), (5, vr r), (6, vr f), (7, vr bf), (8, vi dn), (9, vi n), (10, vr g9), (11, vi 1)]) (st2 := [vi 1]) kL_law_1123 rfl ?_
    refine AQ.of (AS.if_eq_f eL_law_1125 ⟨by decide, by decide⟩ (by decide) (by decide)) ?_
    refine q_blk (lv2 := [(0, vr b0), (1, vi 1), (2, vi i9), (3, vr o), (4, vr bu), (5, vr r), (6, vr f), (7, vr bf), (8, vi dn), (9, vi n), (10, vr g9), (11, vi 1), (21, vi ((8 : Nat) : Int))]) (st2 := []) kL_law_1128 rfl ?_
    obtain ⟨fz, gb, c0, nb, cp⟩ := id hI.2.2.2.2.1
    refine sg_sh (gb := gb) ⟨by omega, by omega⟩ 8 h (Nat.le_refl _) (by rw [c0, show ((8 : Nat) : Int) = 8 from rfl, gx_sh_8]) (fun j j0 j1 => (nb j j0 j1).imp id fun ⟨q, a, b, _⟩ => ⟨q, a, b⟩) og (fun h1 c1 F t => ?_)
    have t1 : h1.2.1 = h.2.1 := congrArg Prod.fst t
    have t2 : h1.2.2 = h.2.2 := congrArg Prod.snd t
    refine q_sub (lv2 := [(0, vr b0), (1, vi 1), (2, vi i9), (3, vr o), (4, vr bu), (5, vr r), (6, vr f), (7, vr bf), (8, vi (dn + 1)), (9, vi n)]) [0, 1, 2, 3, 4, 5, 6, 7, 8, 9] rfl ?_
    refine sg_F (Hs := Hs') (R := R.take (7 - H1.length)) hd (hI.sh cg og bg c0 nb cp c1 F t) ?_ (by omega) hN ?_ (fun h2 a b => kk _ h2 (Or.inr rfl) a ⟨by omega, by omega⟩)
    · rw [e, hH, List.take_append]; rfl
    · rw [List.length_cons, List.length_take, hl]; omega
  · refine q_blk (lv2 := [(0, vr b0), (1, vi 1), (2, vi i9), (3, vr o), (4, vr bu), (5, vr r), (6, vr f), (7, vr bf), (8, vi dn), (9, vi n), (10, vr g9), (11, vi 0)]) (st2 := [vi 0]) kL_law_1123 rfl ?_
    refine AQ.of (AS.if_eq_t (tgt := 1164) eL_law_1125 (by decide) ⟨by decide, by decide⟩ (by decide)) ?_
    refine q_sub (lv2 := [(0, vr b0), (1, vi 1), (2, vi i9), (3, vr o), (4, vr bu), (5, vr r), (6, vr f), (7, vr bf), (8, vi dn), (9, vi n)]) [0, 1, 2, 3, 4, 5, 6, 7, 8, 9] rfl ?_
    exact sg_F hd hI hH hn.1 hN hl (fun h2 a b => kk _ h2 (Or.inl rfl) a b)
theorem sg_loop {nm : String} {TT : List (Nat × Nat × Nat × Nat)} {w : am_w} {d b0 : Nat} {i9 : Int} {Q : RV → AH → Prop} {o bu r bf f sa : Nat} {gs : Int → Option Nat} {T : Option Nat} {L : GL} {tx : Int → Int} {bl le : Int} (hd : 90 ≤ d) : ∀ (m : Nat) (dn n : Int) (h : AH), n = 40 - m → m ≤ 40 → dn ≤ n → LHD w o bu r bf f sa gs T L h tx bl le dn → (kk : ∀ (dn' n' : Int) (h1 : AH), dn' ≤ 40 → LHD w o bu r bf f sa gs T L h1 tx bl le dn' → h1.2.1 ≤ h.2.1 + 72 * m ∧ h1.2.2 ≤ h.2.2 + 370 * m → AQ w (mL nm TT) d 1189 [(0, vr b0), (1, vi 1), (2, vi i9), (3, vr o), (4, vr bu), (5, vr r), (6, vr f), (7, vr bf), (8, vi dn'), (9, vi n')] [] h1 Q) → AQ w (mL nm TT) d 228 [(0, vr b0), (1, vi 1), (2, vi i9), (3, vr o), (4, vr bu), (5, vr r), (6, vr f), (7, vr bf), (8, vi dn), (9, vi n)] [] h Q
  | 0, dn, n, h, hn, hm, hdn, x, kk => by
    refine q_blk (lv2 := [(0, vr b0), (1, vi 1), (2, vi i9), (3, vr o), (4, vr bu), (5, vr r), (6, vr f), (7, vr bf), (8, vi dn), (9, vi n)]) (st2 := [vi 40, vi n]) kL_law_228 rfl ?_
    refine AQ.of (AS.ic_ge_t (tgt := 1189) eL_law_232 (by decide) ⟨by omega, by omega⟩ ⟨by decide, by decide⟩ (by omega)) ?_
    exact kk _ _ h (by omega) x ⟨by omega, by omega⟩
  | m + 1, dn, n, h, hn, hm, hdn, x, kk => by
    obtain ⟨D, cm, Hs, H1, R, pa, gp, sc, hI, hH, hn0, hl⟩ := x
    refine q_blk (lv2 := [(0, vr b0), (1, vi 1), (2, vi i9), (3, vr o), (4, vr bu), (5, vr r), (6, vr f), (7, vr bf), (8, vi dn), (9, vi n)]) (st2 := [vi 40, vi n]) kL_law_228 rfl ?_
    refine AQ.of (AS.ic_ge_f eL_law_232 ⟨by omega, by omega⟩ ⟨by decide, by decide⟩ (by omega) (by decide)) ?_
    refine q_blk (lv2 := [(0, vr b0), (1, vi 1), (2, vi i9), (3, vr o), (4, vr bu), (5, vr r), (6, vr f), (7, vr bf), (8, vi dn), (9, vi n)]) (st2 := [vi 1]) kL_law_235 rfl ?_
    refine AQ.of (AS.if_eq_f eL_law_236 ⟨by decide, by decide⟩ (by decide) (by decide)) ?_
    refine sg_A hd hI (fun {g9 p x y} h1 i1 hp hx hy b1 => ?_)
    have fin : ∀ (g9 : Nat) (ch : Int) (h2 : AH), RES w o bu r bf f sa gs T L h2 D cm sc tx bl le Hs H1 g9 ch → h2.2.1 ≤ h.2.1 + 32 ∧ h2.2.2 ≤ h.2.2 + 70 → AQ w (mL nm TT) d 1123 [(0, vr b0), (1, vi 1), (2, vi i9), (3, vr o), (4, vr bu), (5, vr r), (6, vr f), (7, vr bf), (8, vi dn), (9, vi n), (10, vr g9), (11, vi ch)] [] h2 Q := fun g9 ch h2 rs b2 =>
      sg_E hd rs hH ⟨by omega, by omega⟩ ⟨by omega, by omega⟩ hl (fun dn' h3 hd3 x3 b3 => sg_loop hd m dn' (n + 1) h3 (by omega) (by omega) (by omega) x3 (fun dn2 n2 h4 q1 q2 q3 => kk dn2 n2 h4 q1 q2 ⟨by omega, by omega⟩))
    rcases (show p = D 3 ∨ p < D 3 by omega) with c | c
    · refine sg_B0 hd i1 c (fun {pl} h2 i2 hpl b2 => ?_)
      refine sg_S0 (pl := pl) (shq := 0) hd i2 (fun pc h3 hpc i3 b3 => ?_)
      have go : ∀ (h5 : AH) (ch : Int), RES w o bu r bf f sa gs T L h5 D cm sc tx bl le Hs H1 g9 ch → (h5.2.1 ≤ h3.2.1 + 16 ∧ h5.2.2 ≤ h3.2.2 + 40) → AQ w (mL nm TT) d 1123 [(0, vr b0), (1, vi 1), (2, vi i9), (3, vr o), (4, vr bu), (5, vr r), (6, vr f), (7, vr bf), (8, vi dn), (9, vi n), (10, vr g9), (11, vi ch)] [] h5 Q := fun h5 ch a b => fin g9 ch h5 a ⟨by omega, by omega⟩
      simp only [List.mem_cons, List.not_mem_nil, or_false] at hpc
      rcases hpc with rfl | rfl | rfl | rfl | rfl | rfl
      · exact sg_beg0 hd i3 c hpl hx hy (fun ch h5 a b => go h5 ch a b)
      · exact sg_clo0 hd i3 c hpl hx hy (fun ch h5 a b => go h5 ch a b)
      · exact sg_ben0 hd i3 c hpl hx hy (fun ch h5 a b => go h5 ch a b)
      · exact sg_out0 hd i3 c hpl hx hy (fun ch h5 a b => go h5 ch a b)
      · exact sg_rem0 hd i3 c hpl hx hy (fun ch h5 a b => go h5 ch a b)
      · exact sg_cor0 hd i3 c hpl hx hy (fun ch h5 a b => go h5 ch a b)
    · have hp1 : 0 ≤ p ∧ p < D 3 := ⟨hp.1, c⟩
      refine sg_B1 hd i1 hp1 (fun {pl shq} h2 hsq i2 hpl b2 => ?_)
      refine sg_S1 (pl := pl) (shq := shq) hd i2 (fun pc h3 hpc i3 b3 => ?_)
      have go : ∀ (h5 : AH) (ch : Int), RES w o bu r bf f sa gs T L h5 D cm sc tx bl le Hs H1 g9 ch → (h5.2.1 ≤ h3.2.1 + 16 ∧ h5.2.2 ≤ h3.2.2 + 40) → AQ w (mL nm TT) d 1123 [(0, vr b0), (1, vi 1), (2, vi i9), (3, vr o), (4, vr bu), (5, vr r), (6, vr f), (7, vr bf), (8, vi dn), (9, vi n), (10, vr g9), (11, vi ch)] [] h5 Q := fun h5 ch a b => fin g9 ch h5 a ⟨by omega, by omega⟩
      simp only [List.mem_cons, List.not_mem_nil, or_false] at hpc
      rcases hpc with rfl | rfl | rfl | rfl | rfl | rfl
      · exact sg_beg1 hd hsq i3 hp1 hpl hx hy (fun ch h5 a b => go h5 ch a b)
      · exact sg_clo1 hd hsq i3 hp1 hpl hx hy (fun ch h5 a b => go h5 ch a b)
      · exact sg_ben1 hd hsq i3 hp1 hpl hx hy (fun ch h5 a b => go h5 ch a b)
      · exact sg_out1 hd hsq i3 hp1 hpl hx hy (fun ch h5 a b => go h5 ch a b)
      · exact sg_rem1 hd hsq i3 hp1 hpl hx hy (fun ch h5 a b => go h5 ch a b)
      · exact sg_cor1 hd hsq i3 hp1 hpl hx hy (fun ch h5 a b => go h5 ch a b)
