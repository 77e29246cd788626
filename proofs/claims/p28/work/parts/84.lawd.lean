/-! The law: changes undone, the last checks. -/
section UND
variable {w : am_w} {o bu r bf f sa pa : Nat} {gs gp : Int → Option Nat} {T : Option Nat} {L : GL} {h h1 : AH} {D0 D cm : Int → Int} {sc : Nat} {tx : Int → Int} {bl le : Int} {Hs H1 : List GE} {c s : Nat}
def UDI (w : am_w) (o bu r bf f sa pa : Nat) (gs gp : Int → Option Nat) (T : Option Nat) (L : GL) (h : AH) (D0 D cm : Int → Int) (sc : Nat) (L2 : GL) (tx : Int → Int) (bl le : Int) (Hs H1 : List GE) : Prop := LC w h o bu D cm sc L2 tx bl le Hs ∧ FLD h (LB o bu r bf h) f sa pa gs gp T D0 ∧ OTH o bu r bf f gp (D0 3) T L h H1
theorem UDI.k {L2 L3 : GL} {E cm' : Int → Int} {sc' : Nat} {Hs' : List GE} (x : UDI w o bu r bf f sa pa gs gp T L h D0 D cm sc L2 tx bl le Hs H1) (l : LC w h1 o bu E cm' sc' L3 tx bl le Hs') (k : KF h h1 (fun q => o ≤ q ∧ q < o + 256) c s) : UDI w o bu r bf f sa pa gs gp T L h1 D0 E cm' sc' L3 tx bl le Hs' H1 :=
  ⟨l, x.2.1.loc (fun q b => k.1 q b.1.2 (fun z => by have := b.1.1; omega)) (fun q b => b.up k.2.1.1), x.2.2.kf x.2.1 k (fun q z => Or.inl z) (fun q m => Or.inl m)⟩
theorem UDI.agr {L2 : GL} {g : Nat} {e : GE} (x : UDI w o bu r bf f sa pa gs gp T L h D0 e.1 cm sc e.2.2.2 tx bl le Hs H1) (y : CPO o bu r bf f gp (D0 3) T L h g e) : AE w m_L_agrees 76 [vr o, vr g] h (am_int (fun z h1 => z = 1 ∧ LC w h1 o bu e.1 cm sc e.2.2.2 tx bl le Hs ∧ KF h h1 (fun q => o ≤ q ∧ q < o + 256) 40 300)) := by
  obtain ⟨sa', pa', gs', gp2, F, X, eL⟩ := y
  have hT : TRM h (LBM o bu r bf f gp (D0 3) h) T e.2.2.2 := by rw [eL]; exact x.2.2.2.2
  exact c_L_agrees x.1 F X (FX.uq X x.1.1.2.2.2.2.2.1.2.2.1) (fun k k0 k1 => (x.1.1.2.2.2.2.2.1.2.2.1 k k0 k1).2) (fun q b => b.1.1.2) hT (fun q b => b.1.1.2) (fun q b z => by have := b.1.1.1; omega) (fun q b z => by have := b.1.1.1; omega)
end UND

set_option maxRecDepth 4000 in
set_option maxHeartbeats 4000000 in
theorem sg_U {nm : String} {TT : List (Nat × Nat × Nat × Nat)} {w : am_w} {d b0 : Nat} {i9 dn n : Int} {Q : RV → AH → Prop} {h : AH} {o bu r bf f sa pa : Nat} {gs gp : Int → Option Nat} {T : Option Nat} {L : GL} {D0 D cm : Int → Int} {sc : Nat} {tx : Int → Int} {bl le : Int} {H1 : List GE} {L2 : GL} {e9 : GE} {R9 : List GE} (hd : 90 ≤ d) (hI : UDI w o bu r bf f sa pa gs gp T L h D0 D cm sc L2 tx bl le (e9 :: R9) H1) (hN : 0 ≤ n ∧ n < 8) (he : H1[n.toNat]? = some e9) (kk : ∀ (cm' : Int → Int) (h1 : AH), UDI w o bu r bf f sa pa gs gp T L h1 D0 e9.1 cm' e9.2.2.1 e9.2.2.2 tx bl le R9 H1 → (h1.2.1 ≤ h.2.1 + 40 ∧ h1.2.2 ≤ h.2.2 + 300) → AQ w (mL nm TT) d 1192 [(0, vr b0), (1, vi 1), (2, vi i9), (3, vr o), (4, vr bu), (5, vr r), (6, vr f), (7, vr bf), (8, vi dn), (9, vi (n + 1))] [] h1 Q)  : AQ w (mL nm TT) d 1210 [(0, vr b0), (1, vi 1), (2, vi i9), (3, vr o), (4, vr bu), (5, vr r), (6, vr f), (7, vr bf), (8, vi dn), (9, vi n)] [] h Q := by
  refine q_blk (lv2 := [(0, vr b0), (1, vi 1), (2, vi i9), (3, vr o), (4, vr bu), (5, vr r), (6, vr f), (7, vr bf), (8, vi dn), (9, vi n)]) (st2 := [vr o]) kL_law_1210 rfl ?_
  refine AQ.callVi (av := []) (st := []) (c_X8_undo hI.1.1) lk_RL_254 (by omega) rfl rfl hI.1.1.ob ⟨_, rfl, rfl⟩ (Nat.le_of_ble_eq_true rfl) eL_law_1211 (fun z1 h3 e2 => ?_)
  obtain ⟨hh9, go9⟩ := e2
  obtain ⟨e8, r8, q9, zz9, cm8, C8⟩ := hh9.resolve_left (fun z => by cases z.1)
  obtain ⟨q8, q7⟩ := List.cons.inj q9
  subst q8
  subst q7
  have l9 : R9.length ≤ 8 := by
    obtain ⟨_, _, _, _, y, -⟩ := hI.1.1.2.2.2.2.2.2.2.2.2.2.2.1
    rw [List.length_map, List.length_cons] at y
    omega
  have L8 := hI.1.go C8 go9 ⟨hI.1.2.2.2.2 e9 (List.mem_cons_self ..), fun e he => hI.1.2.2.2.2 e (List.mem_cons_of_mem _ he)⟩
  have U8 := hI.k L8 go9.kf
  obtain ⟨⟨t91, t92, t93, t94⟩, -⟩ := go9
  refine AQ.of (AS.if_lt_f eL_law_1214 (by first | assumption | exact ⟨by omega, by omega⟩ | exact ⟨by decide, by decide⟩) (by omega) (by decide)) ?_
  refine q_blk (lv2 := [(0, vr b0), (1, vi 1), (2, vi i9), (3, vr o), (4, vr bu), (5, vr r), (6, vr f), (7, vr bf), (8, vi dn), (9, vi n)]) (st2 := [vi n, vr bf, vr o]) kL_law_1217 rfl ?_
  obtain ⟨fz9, gb9, c9, -, cp9⟩ := id U8.2.2.2.1
  obtain ⟨k9, n9⟩ := Int.eq_ofNat_of_zero_le hN.1
  subst n9
  obtain ⟨g9, eg9, co9⟩ := cp9 k9 e9 (by simpa using he)
  refine q_aa eL_law_1222 c9 (by decide) (by omega) (by omega) eg9 ?_
  refine AQ.callSi (av := [vr o, vr g9]) (st := []) (U8.agr (L2 := L) co9) lk_RL_247 (by omega) rfl rfl (Nat.le_of_ble_eq_true rfl) eL_law_1223 (fun z5 h7 e6 => ?_)
  obtain ⟨g8e, g8l, g8k⟩ := e6
  subst g8e
  have g8i := U8.k g8l g8k
  obtain ⟨-, ⟨g8a, g8b⟩, g8y, g8z⟩ := id g8k
  refine AQ.of (AS.if_eq_f eL_law_1226 ⟨by decide, by decide⟩ (by decide) (by decide)) ?_
  refine q_blk (lv2 := [(0, vr b0), (1, vi 1), (2, vi i9), (3, vr o), (4, vr bu), (5, vr r), (6, vr f), (7, vr bf), (8, vi dn), (9, vi (k9 : Int))]) (st2 := [vi 1]) kL_law_1229 rfl ?_
  refine q_goto (tgt := 1234) eL_law_1230 (by decide) ?_
  refine q_blk (lv2 := [(0, vr b0), (1, vi 1), (2, vi i9), (3, vr o), (4, vr bu), (5, vr r), (6, vr f), (7, vr bf), (8, vi dn), (9, vi ((k9 : Int) + 1))]) (st2 := []) kL_law_1234 rfl ?_
  refine q_goto (tgt := 1192) eL_law_1238 (by decide) ?_
  exact kk _ h7 g8i ⟨by omega, by omega⟩

theorem sg_undo {nm : String} {TT : List (Nat × Nat × Nat × Nat)} {w : am_w} {d b0 : Nat} {i9 dn : Int} {Q : RV → AH → Prop} {o bu r bf f sa pa : Nat} {gs gp : Int → Option Nat} {T : Option Nat} {L : GL} {D0 : Int → Int} {tx : Int → Int} {bl le : Int} {H1 R : List GE} (hd : 90 ≤ d) (hn : 0 ≤ dn ∧ dn ≤ 40) (hl : H1.length = min dn.toNat 8) : ∀ (m : Nat) (n : Int) (h : AH) (D cm : Int → Int) (sc : Nat) (L2 : GL), n = 8 - m → m ≤ 8 → UDI w o bu r bf f sa pa gs gp T L h D0 D cm sc L2 tx bl le (H1.drop n.toNat ++ R) H1 → (kk : ∀ (n' : Int) (h1 : AH) (D cm : Int → Int) (sc : Nat) (L2 : GL) (Hs : List GE), LC w h1 o bu D cm sc L2 tx bl le Hs → h1.2.1 ≤ h.2.1 + 40 * m ∧ h1.2.2 ≤ h.2.2 + 300 * m → AQ w (mL nm TT) d 1241 [(0, vr b0), (1, vi 1), (2, vi i9), (3, vr o), (4, vr bu), (5, vr r), (6, vr f), (7, vr bf), (8, vi dn), (9, vi n')] [] h1 Q) → AQ w (mL nm TT) d 1192 [(0, vr b0), (1, vi 1), (2, vi i9), (3, vr o), (4, vr bu), (5, vr r), (6, vr f), (7, vr bf), (8, vi dn), (9, vi n)] [] h Q
  | 0, n, h, D, cm, sc, L2, e, hm, x, kk => by
    refine q_blk (lv2 := [(0, vr b0), (1, vi 1), (2, vi i9), (3, vr o), (4, vr bu), (5, vr r), (6, vr f), (7, vr bf), (8, vi dn), (9, vi n)]) (st2 := [vi 8, vi n]) kL_law_1192 rfl ?_
    refine AQ.of (AS.ic_ge_t (tgt := 1241) eL_law_1196 (by decide) ⟨by omega, by omega⟩ ⟨by decide, by decide⟩ (by omega)) ?_
    exact kk _ h _ _ _ _ _ x.1 ⟨by omega, by omega⟩
  | m + 1, n, h, D, cm, sc, L2, e, hm, x, kk => by
    refine q_blk (lv2 := [(0, vr b0), (1, vi 1), (2, vi i9), (3, vr o), (4, vr bu), (5, vr r), (6, vr f), (7, vr bf), (8, vi dn), (9, vi n)]) (st2 := [vi 8, vi n]) kL_law_1192 rfl ?_
    refine AQ.of (AS.ic_ge_f eL_law_1196 ⟨by omega, by omega⟩ ⟨by decide, by decide⟩ (by omega) (by decide)) ?_
    refine q_blk (lv2 := [(0, vr b0), (1, vi 1), (2, vi i9), (3, vr o), (4, vr bu), (5, vr r), (6, vr f), (7, vr bf), (8, vi dn), (9, vi n)]) (st2 := [vi dn, vi n]) kL_law_1199 rfl ?_
    refine AQ.ic_ge (tgt := 1241) eL_law_1203 (by decide) ⟨by omega, by omega⟩ ⟨by omega, by omega⟩ (fun c => ?_) (fun c => ?_)
    · exact kk _ h _ _ _ _ _ x.1 ⟨by omega, by omega⟩
    · refine q_blk (lv2 := [(0, vr b0), (1, vi 1), (2, vi i9), (3, vr o), (4, vr bu), (5, vr r), (6, vr f), (7, vr bf), (8, vi dn), (9, vi n)]) (st2 := [vi 1]) kL_law_1206 rfl ?_
      refine AQ.of (AS.if_eq_f eL_law_1207 ⟨by decide, by decide⟩ (by decide) (by decide)) ?_
      have ln : n.toNat < H1.length := by omega
      rw [List.drop_eq_getElem_cons ln, List.cons_append] at x
      refine sg_U hd x ⟨by omega, by omega⟩ (List.getElem?_eq_getElem ln) (fun cm' h1 y b => ?_)
      rw [show n.toNat + 1 = (n + 1).toNat by omega] at y
      exact sg_undo hd hn hl m (n + 1) h1 _ _ _ _ (by omega) (by omega) y (fun n' h2 D cm sc L2 Hs z q => kk n' h2 D cm sc L2 Hs z ⟨by omega, by omega⟩)

set_option maxRecDepth 4000 in
set_option maxHeartbeats 4000000 in
theorem sg_G {nm : String} {TT : List (Nat × Nat × Nat × Nat)} {w : am_w} {d b0 : Nat} {i9 dn n : Int} {Q : RV → AH → Prop} {h : AH} {o bu r bf f : Nat} {D cm : Int → Int} {sc : Nat} {L : GL} {tx : Int → Int} {le : Int} {Hs : List GE} (hd : 90 ≤ d) (hL : LC w h o bu D cm sc L tx 0 le Hs) (hi : 0 ≤ i9 ∧ i9 ≤ 2) (kk : ∀ h1 : AH, LC w h1 o bu D cm sc L tx 0 le Hs → (h1.2.1 ≤ h.2.1 + 5 ∧ h1.2.2 ≤ h.2.2 + 30) → AQ w (mL nm TT) d 4 [(0, vr b0), (1, vi 1), (2, vi (i9 + 1))] [] h1 Q)  : AQ w (mL nm TT) d 1241 [(0, vr b0), (1, vi 1), (2, vi i9), (3, vr o), (4, vr bu), (5, vr r), (6, vr f), (7, vr bf), (8, vi dn), (9, vi n)] [] h Q := by
  have d6 := hL.1.2.2.2.2.2.1.1.2.2.2.1
  refine q_blk (lv2 := [(0, vr b0), (1, vi 1), (2, vi i9), (3, vr o), (4, vr bu), (5, vr r), (6, vr f), (7, vr bf), (8, vi dn), (9, vi n)]) (st2 := [vi 1]) kL_law_1241 rfl ?_
  refine AQ.of (AS.if_eq_f eL_law_1242 ⟨by decide, by decide⟩ (by decide) (by decide)) ?_
  refine q_blk (lv2 := [(0, vr b0), (1, vi 1), (2, vi i9), (3, vr o), (4, vr bu), (5, vr r), (6, vr f), (7, vr bf), (8, vi dn), (9, vi n)]) (st2 := [vi 1, vr o]) kL_law_1245 rfl ?_
  refine AQ.callWi (av := [vr o, vi 1]) (st := []) (c_L_load (c_X8_load hL.1 hL.2.1.1 ⟨by decide, by decide⟩) hL.1.ob (fun k h1 q => by obtain ⟨_, e⟩ := q.1; cases e; rfl)) lkw_L_load (by omega) rfl rfl (Nat.le_of_ble_eq_true rfl) eL_law_1247 (fun z1 h3 e2 => ?_)
  obtain ⟨z1e, z1h⟩ : z1 = gx_thr 0 ∧ h3 = gm_thr h := by
    rcases e2 with q | ⟨k, q, y⟩
    · have := q.1; omega
    · obtain ⟨⟨_, e⟩, x⟩ := q; cases e; exact ⟨y, x⟩
  have z1k : KF h h3 NO 1 6 := by rw [z1h]; exact gm_thr_kf
  obtain rfl : z1 = (-2000000098) := z1e
  have z1L := hL.kf z1k (fun q z => z.elim)
  obtain ⟨-, ⟨z1a, z1b⟩, z1c, z1d⟩ := id z1k
  refine AQ.of (AS.ldc (z := (-2000000098)) eL_law_1250 (show Cond.constant RL 42 (Int32.ofInt (-2000000098)) ∈ GW from am_gw 1022 (by decide +kernel) (by decide +kernel))) ?_
  refine AQ.of (AS.ic_ne_f eL_law_1252 ⟨by decide, by decide⟩ ⟨by decide, by decide⟩ (by decide) (by decide)) ?_
  refine q_blk (lv2 := [(0, vr b0), (1, vi 1), (2, vi i9), (3, vr o), (4, vr bu), (5, vr r), (6, vr f), (7, vr bf), (8, vi dn), (9, vi n)]) (st2 := [vi 4, vr o]) kL_law_1255 rfl ?_
  refine AQ.callWi (av := [vr o, vi 4]) (st := []) (c_L_points (c_X8_points z1L.1 ⟨by decide, by decide⟩) z1L.1.ob (fun k h1 q => by rcases q.1 with ⟨_, e⟩ | ⟨_, e⟩ <;> first | (cases e; rfl) | exact e.elim)) lkw_L_points (by omega) rfl rfl (Nat.le_of_ble_eq_true rfl) eL_law_1257 (fun z4 h6 e5 => ?_)
  obtain ⟨z4e, z4h⟩ := gx_th (k0 := 0) (fun q => by rcases q.1 with ⟨_, e⟩ | ⟨a, _⟩ <;> first | cases e | omega) (fun k q => by rcases q with ⟨_, e⟩ | ⟨a, e⟩ <;> first | (cases e; rfl) | exact e.elim) e5
  have z4k : KF h3 h6 NO 1 6 := by rw [z4h]; exact gm_thr_kf
  obtain rfl : z4 = (-2000000098) := z4e
  have z4L := z1L.kf z4k (fun q z => z.elim)
  obtain ⟨-, ⟨z4a, z4b⟩, z4c, z4d⟩ := id z4k
  refine AQ.of (AS.ldc (z := (-2000000098)) eL_law_1260 (show Cond.constant RL 42 (Int32.ofInt (-2000000098)) ∈ GW from am_gw 1022 (by decide +kernel) (by decide +kernel))) ?_
  refine AQ.of (AS.ic_ne_f eL_law_1262 ⟨by decide, by decide⟩ ⟨by decide, by decide⟩ (by decide) (by decide)) ?_
  refine q_blk (lv2 := [(0, vr b0), (1, vi 1), (2, vi i9), (3, vr o), (4, vr bu), (5, vr r), (6, vr f), (7, vr bf), (8, vi dn), (9, vi n)]) (st2 := [vi (-1), vr o]) kL_law_1265 rfl ?_
  refine AQ.callWi (av := [vr o, vi (-1)]) (st := []) (c_L_area (c_X8_area z4L.1 ⟨by decide, by decide⟩) z4L.1.ob (fun k h1 q => by rcases q.1 with ⟨_, e⟩ | ⟨_, (⟨_, e⟩ | ⟨_, ⟨_, _, e⟩⟩)⟩ <;> cases e <;> first | exact Or.inl rfl | exact Or.inr rfl)) lkw_L_area (by omega) rfl rfl (Nat.le_of_ble_eq_true rfl) eL_law_1267 (fun z7 h9 e8 => ?_)
  obtain ⟨z7e, z7k⟩ := gx_at (k0 := 2) (fun r q => by rcases q with ⟨_, e⟩ | ⟨a, _⟩ <;> first | exact e | omega) e8
  obtain rfl : z7 = (-2000000097) := z7e
  have z7L := z4L.kf z7k (fun q z => z.elim)
  obtain ⟨-, ⟨z7a, z7b⟩, z7c, z7d⟩ := id z7k
  refine AQ.of (AS.ldc (z := (-2000000097)) eL_law_1270 (show Cond.constant RL 58 (Int32.ofInt (-2000000097)) ∈ GW from am_gw 1087 (by decide +kernel) (by decide +kernel))) ?_
  refine AQ.of (AS.ic_ne_f eL_law_1272 ⟨by decide, by decide⟩ ⟨by decide, by decide⟩ (by decide) (by decide)) ?_
  refine q_blk (lv2 := [(0, vr b0), (1, vi 1), (2, vi i9), (3, vr o), (4, vr bu), (5, vr r), (6, vr f), (7, vr bf), (8, vi dn), (9, vi n)]) (st2 := [vi 9, vi (-1), vr o]) kL_law_1275 rfl ?_
  refine AQ.callWi (av := [vr o, vi (-1), vi 9]) (st := []) (c_L_stone (c_X8_stone z7L.1 ⟨by decide, by decide⟩ ⟨by decide, by decide⟩) z7L.1.ob (fun k h1 q => by rcases q.1 with ⟨_, e⟩ | ⟨_, (⟨_, e⟩ | ⟨_, e⟩ | ⟨_, e⟩ | ⟨_, e⟩ | ⟨_, e⟩)⟩ <;> cases e <;> first | exact Or.inl rfl | exact Or.inr rfl)) lkw_L_stone (by omega) rfl rfl (Nat.le_of_ble_eq_true rfl) eL_law_1279 (fun z10 h12 e11 => ?_)
  obtain ⟨z10e, z10k⟩ := gx_at (k0 := 1) (fun r q => by rcases q with ⟨_, e⟩ | ⟨a, _⟩ <;> first | exact e | omega) e11
  obtain rfl : z10 = (-2000000100) := z10e
  have z10L := z7L.kf z10k (fun q z => z.elim)
  obtain ⟨-, ⟨z10a, z10b⟩, z10c, z10d⟩ := id z10k
  refine AQ.of (AS.ldc (z := (-2000000100)) eL_law_1282 (show Cond.constant RL 52 (Int32.ofInt (-2000000100)) ∈ GW from am_gw 1052 (by decide +kernel) (by decide +kernel))) ?_
  refine AQ.of (AS.ic_ne_f eL_law_1284 ⟨by decide, by decide⟩ ⟨by decide, by decide⟩ (by decide) (by decide)) ?_
  refine q_blk (lv2 := [(0, vr b0), (1, vi 1), (2, vi i9), (3, vr o), (4, vr bu), (5, vr r), (6, vr f), (7, vr bf), (8, vi dn), (9, vi n)]) (st2 := [vi 0, vi (-1), vi 6, vr o]) kL_law_1287 rfl ?_
  refine AQ.callWi (av := [vr o, vi 6, vi (-1), vi 0]) (st := []) (c_L_reason (c_X8_reason z10L.1 ⟨by decide, by decide⟩ ⟨by decide, by decide⟩ ⟨by decide, by decide⟩) z10L.1.ob (fun k h1 q => by rcases q.1 with ⟨_, e⟩ | ⟨_, (⟨_, e⟩ | ⟨_, e⟩)⟩ <;> first | (cases e; first | exact Or.inl rfl | exact Or.inr rfl) | exact e.elim)) lkw_L_reason (by omega) rfl rfl (Nat.le_of_ble_eq_true rfl) eL_law_1292 (fun z13 h15 e14 => ?_)
  obtain ⟨z13e, z13h⟩ := gx_th (k0 := 2) (fun q => by rcases q.1 with ⟨_, e⟩ | ⟨a, _⟩ <;> first | cases e | omega) (fun k q => by rcases q with ⟨_, e⟩ | ⟨a, e⟩ <;> first | (cases e; rfl) | omega) e14
  have z13k : KF h12 h15 NO 1 6 := by rw [z13h]; exact gm_thr_kf
  obtain rfl : z13 = (-2000000097) := z13e
  have z13L := z10L.kf z13k (fun q z => z.elim)
  obtain ⟨-, ⟨z13a, z13b⟩, z13c, z13d⟩ := id z13k
  refine AQ.of (AS.ldc (z := (-2000000097)) eL_law_1295 (show Cond.constant RL 58 (Int32.ofInt (-2000000097)) ∈ GW from am_gw 1087 (by decide +kernel) (by decide +kernel))) ?_
  refine AQ.of (AS.ic_ne_f eL_law_1297 ⟨by decide, by decide⟩ ⟨by decide, by decide⟩ (by decide) (by decide)) ?_
  refine q_blk (lv2 := [(0, vr b0), (1, vi 1), (2, vi i9), (3, vr o), (4, vr bu), (5, vr r), (6, vr f), (7, vr bf), (8, vi dn), (9, vi n)]) (st2 := [vi 1]) kL_law_1300 rfl ?_
  refine q_goto (tgt := 1305) eL_law_1301 (by decide) ?_
  refine q_blk (lv2 := [(0, vr b0), (1, vi 1), (2, vi (i9 + 1)), (3, vr o), (4, vr bu), (5, vr r), (6, vr f), (7, vr bf), (8, vi dn), (9, vi n)]) (st2 := []) kL_law_1305 rfl ?_
  refine q_goto (tgt := 4) eL_law_1309 (by decide) ?_
  refine q_sub (lv2 := [(0, vr b0), (1, vi 1), (2, vi (i9 + 1))]) [0, 1, 2] rfl ?_
  exact kk h15 z13L ⟨by omega, by omega⟩
