/-! Lookups of the law's own methods without handlers (by program), and static calls between classes of one nest. -/
/-- what a static call's entry of the pool must be, where the method is private to another class of the nest -/
def am_lkN (own : String) (idx : Nat) (y2 : YR) (n : Nat) : Prop := am_lk y2 n ∧ (∃ host : String, Cond.methodLinkNest own idx y2.1 host ∈ am_NW) ∧ Cond.static y2.1 ∈ GW
section ACALLN
variable {w : am_w} {y y2 : YR} {d d2 pc idx n b : Nat} {lv : List (Nat × AV)} {av st stk : List AV} {h h1 h' : AH} {r1 r : RV} {Q : RV → AH → Prop}
theorem AW.callSN (hM : AM w y2 d2 av h r1 h1) (kk : am_next w y d pc lv st r1 h1 r h') (hlk : am_lkN y.1.cls idx y2 n) (hdd : d2 + 1 ≤ d) (hst : stk = av.reverse ++ st) (hn : av.length = n) (h8 : am_cat8 st ≤ 8) (hd : decode y.2.1 pc = .ok (.invokestatic idx, 3)) : AW w y d pc lv stk h r h' := by
  subst hst
  obtain ⟨m1, m2, m3, m4⟩ := hM
  obtain ⟨l1, l2⟩ := am_next_le kk
  refine ⟨Nat.le_trans m1 l1, Nat.le_trans m2 l2, fun p l e R s m args below meth c H locs cells slots Q ls hC hKS hKH hR hl hv hcl2 hsl hE => ?_⟩
  refine am_after m1 m2 kk hC hKS hl hv hcl2 hsl hE (a := (am_st av).toArray) ?_
  obtain ⟨⟨hwf, hhh, hini, hy, hpl, hnl⟩, ⟨host, hml⟩, hst⟩ := hlk
  have hts := hC.2.2.2.2.1
  have hcw : am_cw y2 = Cond.code y2.1 y2.2.1 y2.2.2.1 y2.2.2.2.1 := by unfold am_cw; rw [if_pos hhh]
  have h5 := hC.2.2.2.2.2.2.2.2.1
  have h6 := hC.2.2.2.2.2.2.2.2.2.1
  rw [am_rs]
  exact vx_runSN (Ts := GW) ⟨hC.1, hC.2.1, hC.2.2.1, hC.2.2.2.1, hts⟩ (m4 l hC.2.2.2.2.2.2.2.1)
    ⟨⟨⟨rfl, rfl, by show d2 + 1 ≤ R.frames; omega, by show 8 + (y2.2.2.1 + 11) + 48 * d2 ≤ R.locals; omega, am_pay hC hwf, by rw [← hcw]; exact List.mem_cons_self⟩, by rw [← hcw]; exact hts _ hwf.1, hts _ hini, hy, am_plen hpl, (hKS.1 _ hml).use rfl⟩, hts _ hst, trivial⟩
    ⟨am_blind, fun U hU hW => ⟨rfl, hKS.warm hW, by rw [hU]; exact hKH.moved hW.alike, by rw [hU]; exact hR.moved hW.alike⟩⟩
    rfl (by rw [← hn]; simp [am_st]) hv.1 rfl (lv_room (by rw [am_cat_ok]; exact h8)) hd ⟨by omega, by omega⟩
theorem q_SNi {P : Int → Prop} (hE : AE w y2 d2 av h (am_intp h P)) (hlk : am_lkN y.1.cls idx y2 n) (hdd : d2 + 1 ≤ d) (hst : stk = av.reverse ++ st) (hn : av.length = n) (h8 : am_cat8 st ≤ 8) (hd : decode y.2.1 pc = .ok (.invokestatic idx, 3)) (kk : ∀ z, P z → AQ w y d (pc + 3) lv (vi z :: st) h Q) : AQ w y d pc lv stk h Q := by
  obtain ⟨r1, h1, hM, z, rfl, hp, rfl⟩ := hE
  obtain ⟨r, h', k1, k2⟩ := kk z hp
  exact ⟨r, h', AW.callSN hM (r := r) k1 hlk hdd hst hn h8 hd, k2⟩
end ACALLN
theorem lk_RX9_51 : am_lkN RX9 51 m_L_common 2 := ⟨lk_L_common, ⟨"CornerClaimsLaw", am_nw 548 (by decide +kernel) (by decide +kernel)⟩, im_L_common⟩
theorem lk_RX12_29 : am_lkN RX12 29 m_L_common 2 := ⟨lk_L_common, ⟨"CornerClaimsLaw", am_nw 1557 (by decide +kernel) (by decide +kernel)⟩, im_L_common⟩
theorem lk_RL_7 : am_lkS RL 7 m_L_flush 2 := ⟨lk_L_flush, am_gw 1232 (by decide +kernel) (by decide +kernel), im_L_flush⟩
theorem lk_RL_33 : am_lkS RL 33 m_L_put 3 := ⟨lk_L_put, am_gw 1229 (by decide +kernel) (by decide +kernel), im_L_put⟩
theorem lk_RL_117 : am_lkS RL 117 m_L_common 2 := ⟨lk_L_common, am_gw 552 (by decide +kernel) (by decide +kernel), im_L_common⟩
theorem lk_RL_120 : am_lkS RL 120 m_L_write 3 := ⟨lk_L_write, am_gw 1224 (by decide +kernel) (by decide +kernel), im_L_write⟩
theorem lk_RL_126 : am_lkS RL 126 m_L_writeNumber 3 := ⟨lk_L_writeNumber, am_gw 1244 (by decide +kernel) (by decide +kernel), im_L_writeNumber⟩
theorem lk_RL_146 : am_lkS RL 146 m_L_writeNumbers 4 := ⟨lk_L_writeNumbers, am_gw 1221 (by decide +kernel) (by decide +kernel), im_L_writeNumbers⟩
theorem lk_RL_183 : am_lkS RL 183 m_L_put_ 3 := ⟨lk_L_put_, am_gw 1211 (by decide +kernel) (by decide +kernel), im_L_put_⟩
theorem lk_RL_218 : am_lkS RL 218 m_L_loadText 2 := ⟨lk_L_loadText, am_gw 1503 (by decide +kernel) (by decide +kernel), im_L_loadText⟩
theorem lk_RL_247 : am_lkS RL 247 m_L_agrees 2 := ⟨lk_L_agrees, am_gw 1506 (by decide +kernel) (by decide +kernel), im_L_agrees⟩
theorem lk_RL_267 : am_lkS RL 267 m_L_randomField 3 := ⟨lk_L_randomField, am_gw 1217 (by decide +kernel) (by decide +kernel), im_L_randomField⟩
theorem lk_RL_283 : am_lkS RL 283 m_L_drop 2 := ⟨lk_L_drop, am_gw 1214 (by decide +kernel) (by decide +kernel), im_L_drop⟩
