/-! The class and the model answer alike. -/
theorem gm_os_own {D : Int → Int} (hD : VD D) {p : Int} (p0 : 0 ≤ p) (p1 : p < D 3) : gm_os (pN D p) (pN D p) (pX D p) (pY D p) (pX D p 0) (pY D p 0) := by
  have v := (hD.2.2.2.2.2 p p0 p1).2.1
  refine ⟨0, by decide, by omega, ?_, ?_⟩
  · rw [Int.sub_self, Int.sub_self, Int.zero_mul, Int.zero_mul]; decide
  · rw [Int.sub_self, Int.sub_self, Int.mul_zero, Int.mul_zero]
/-- a polygon's corner isn't within it -/
theorem gm_smb_own {D : Int → Int} (hD : VD D) {p : Int} (p0 : 0 ≤ p) (p1 : p < D 3) : ∀ {m : Nat} {z : Int}, gm_smb D (pX D p 0) (pY D p 0) p m z → gm_sma D (pX D p 0) (pY D p 0) m z
  | 0, _, h => h
  | m + 1, z, ⟨b, h1, h2⟩ => by
    refine ⟨b, gm_smb_own hD p0 p1 h1, ?_⟩
    rcases h2 with ⟨-, a, e⟩ | ⟨a, e⟩
    · exact Or.inl ⟨a, e⟩
    · refine Or.inr ⟨fun q => ?_, e⟩
      by_cases c : (m : Int) = p
      · rw [c] at q
        exact q.2.1.1 (gm_os_own hD p0 p1)
      · exact a ⟨c, q⟩
section AGR
variable {D cm : Int → Int} {L : GL}
theorem gm_fg_eq (hD : VD D) (hE : VE D) (hG : GV D) {p : Int} (p0 : 0 ≤ p) (p1 : p < D 3) (hc : pC D p = 1) : gm_fg D cm p = gm_fgm D cm p := by
  funext i
  unfold gm_fg gm_fgm
  rw [(gm_pick_D hD hE hG p0 p1 hc).2]
theorem gm_sc_eq (hD : VD D) (hE : VE D) (hG : GV D) {p : Int} (p0 : 0 ≤ p) (p1 : p < D 3) (hc : pC D p = 1) : gm_sc D cm L p = gm_msc D cm L p := by
  unfold gm_sc gm_msc
  rw [gm_fg_eq hD hE hG p0 p1 hc]
theorem gm_pt_eq (hD : VD D) (hE : VE D) (hG : GV D) : gm_pt D cm L = gm_mpt D cm L := by
  funext pl
  have d3 := hD.2.2.2.1
  refine gm_sm_c fun p p0 p1 => ?_
  unfold gm_pp gm_mpp
  by_cases c : pC D p = 1 ∧ pO D p = pl
  · rw [if_pos c, if_pos c]
    exact gm_sc_eq hD hE hG p0 (by omega) c.1
  · rw [if_neg c, if_neg c]
end AGR
theorem gm_rB_one {D : Int → Int} {p k x y z z' : Int} (h : gm_rB D p k x y z) (h' : gm_rB D p k x y z') : z = z' := by
  rcases h with ⟨a, e⟩ | ⟨a, ⟨b, e⟩ | ⟨b, ⟨c, e⟩ | ⟨c, z1, g, k⟩⟩⟩ <;> rcases h' with ⟨a', e'⟩ | ⟨a', ⟨b', e'⟩ | ⟨b', ⟨c', e'⟩ | ⟨c', z1', g', k'⟩⟩⟩ <;> first | omega | contradiction | skip
  have := gm_lr_one g g'
  subst this
  rcases k with ⟨k1, k2⟩ | ⟨k1, k2⟩ <;> rcases k' with ⟨k1', k2'⟩ | ⟨k1', k2'⟩
  · omega
  · contradiction
  · contradiction
  · exact gm_lr_one k2 k2'
theorem gm_rT_one {D : Int → Int} {p k z z' : Int} (h : gm_rT D p k z) (h' : gm_rT D p k z') : z = z' := by
  rcases h with ⟨a, e⟩ | ⟨a, ⟨b, e⟩ | ⟨b, e⟩⟩ <;> rcases h' with ⟨a', e'⟩ | ⟨a', ⟨b', e'⟩ | ⟨b', e'⟩⟩ <;> first | omega | exact gm_lr_one e e'
/-! the changes: one answer each, and sides stay apart -/
section ONE
variable {D E F : Int → Int} {p k x y z z' : Int}
theorem gR_beg_one (h : gR_beg D p x y z E) (h' : gR_beg D p x y z' F) : z = z' ∧ E = F := by
  rcases h with ⟨a, b, c⟩ | ⟨a, b, c⟩ <;> rcases h' with ⟨a', b', c'⟩ | ⟨a', b', c'⟩
  · exact ⟨b.trans b'.symm, c.trans c'.symm⟩
  · exact absurd a a'
  · exact absurd a' a
  · exact ⟨b.trans b'.symm, c.trans c'.symm⟩
theorem gR_cor_one (h : gR_cor D p x y z E) (h' : gR_cor D p x y z' F) : z = z' ∧ E = F := by
  obtain ⟨q, r, h⟩ := h
  obtain ⟨q', r', h'⟩ := h'
  cases gm_rC_one r r'
  rcases h with ⟨a, b, c⟩ | ⟨a, b, c⟩ <;> rcases h' with ⟨a', b', c'⟩ | ⟨a', b', c'⟩
  · exact ⟨b.trans b'.symm, c.trans c'.symm⟩
  · exact absurd a' a
  · exact absurd a a'
  · exact ⟨b.trans b'.symm, c.trans c'.symm⟩
theorem gR_ben_one (h : gR_ben D p k x y z E) (h' : gR_ben D p k x y z' F) : z = z' ∧ E = F := by
  obtain ⟨q, r, h⟩ := h
  obtain ⟨q', r', h'⟩ := h'
  cases gm_rB_one r r'
  rcases h with ⟨a, b, c⟩ | ⟨a, b, c⟩ <;> rcases h' with ⟨a', b', c'⟩ | ⟨a', b', c'⟩
  · exact ⟨b.trans b'.symm, c.trans c'.symm⟩
  · exact absurd a' a
  · exact absurd a a'
  · have e := c.trans c'.symm
    subst e
    exact ⟨b.trans b'.symm, rfl⟩
theorem gR_out_one (h : gR_out D p k z E) (h' : gR_out D p k z' F) : z = z' ∧ E = F := by
  obtain ⟨q, r, h⟩ := h
  obtain ⟨q', r', h'⟩ := h'
  cases gm_rT_one r r'
  rcases h with ⟨a, b, c⟩ | ⟨a, b, c⟩ <;> rcases h' with ⟨a', b', c'⟩ | ⟨a', b', c'⟩
  · exact ⟨b.trans b'.symm, c.trans c'.symm⟩
  · exact absurd a' a
  · exact absurd a a'
  · have e := c.trans c'.symm
    subst e
    exact ⟨b.trans b'.symm, rfl⟩
theorem gm_cm_one {cm cm' : Int → Int} (h : CMS D cm) (h' : CMS D cm') {k : Int} (k0 : 0 ≤ k) (k1 : k < D 2) : cm k = cm' k := gm_sma_one (h k k0 k1).1 (h' k k0 k1).1
theorem gm_if_one {cm cm' : Int → Int} (h : CMS D cm) (h' : CMS D cm') (hD : VD D) {f : Int → Int} : gm_sm (gm_if cm p f) (D 2).toNat = gm_sm (gm_if cm' p f) (D 2).toNat := by
  have d2 := hD.2.2.1
  refine gm_sm_c fun k k0 k1 => ?_
  unfold gm_if
  rw [gm_cm_one h h' k0 (by omega)]
theorem gm_nf_one {cm cm' : Int → Int} (h : CMS D cm) (h' : CMS D cm') (hD : VD D) : gm_sm (gm_nf cm) (D 2).toNat = gm_sm (gm_nf cm') (D 2).toNat := by
  have d2 := hD.2.2.1
  refine gm_sm_c fun k k0 k1 => ?_
  unfold gm_nf
  rw [gm_cm_one h h' k0 (by omega)]
theorem gR_clo_one {cm cm' : Int → Int} (h : gR_clo D p z E cm) (h' : gR_clo D p z' F cm') (hc : CMS E cm) (hc' : CMS F cm') (hD : VD E) : z = z' ∧ E = F := by
  obtain ⟨q, r, h⟩ := h
  obtain ⟨q', r', h'⟩ := h'
  cases gm_rL_one r r'
  rcases h with ⟨a, b, c⟩ | ⟨a, b, c⟩ <;> rcases h' with ⟨a', b', c'⟩ | ⟨a', b', c'⟩
  · exact ⟨b.trans b'.symm, c.trans c'.symm⟩
  · exact absurd a' a
  · exact absurd a a'
  · have e := c.trans c'.symm
    subst e
    exact ⟨b.trans ((gm_if_one hc hc' hD).trans b'.symm), rfl⟩
theorem gR_beg_v (hD : VD D) (hG : GV D) (h : gR_beg D p x y z E) : GV E := by
  rcases h with ⟨a, b, rfl⟩ | ⟨a, b, rfl⟩
  · exact hG
  · exact hG.stP hD
theorem gR_cor_v (hD : VD D) (hG : GV D) (p0 : 0 ≤ p) (p1 : p < D 3) (h : gR_cor D p x y z E) : GV E := by
  obtain ⟨q, r, ⟨a, b, rfl⟩ | ⟨rfl, b, rfl⟩⟩ := h
  · exact hG
  · exact hG.adC hD p0 p1 r
theorem gR_clo_v {cm : Int → Int} (hD : VD D) (hG : GV D) (p0 : 0 ≤ p) (p1 : p < D 3) (h : gR_clo D p z E cm) : GV E := by
  obtain ⟨q, r, ⟨a, b, rfl⟩ | ⟨rfl, b, rfl⟩⟩ := h
  · exact hG
  · exact hG.clP hD p0 p1 r
theorem gR_ben_v (hD : VD D) (hE : VE D) (hG : GV D) (p0 : 0 ≤ p) (p1 : p < D 3) (k0 : 0 ≤ k) (k1 : k < pN D p) (h : gR_ben D p k x y z E) : GV E := by
  obtain ⟨q, r, ⟨a, b, rfl⟩ | ⟨rfl, b, rfl⟩⟩ := h
  · exact hG
  · exact hG.bnD hD hE p0 p1 k0 k1 r
theorem gR_out_v (hD : VD D) (hG : GV D) (p0 : 0 ≤ p) (p1 : p < D 3) (k0 : 0 ≤ k) (k1 : k < pN D p) (h : gR_out D p k z E) : GV E := by
  obtain ⟨q, r, ⟨a, b, rfl⟩ | ⟨rfl, b, rfl⟩⟩ := h
  · exact hG
  · exact hG.toD hD p0 p1 k0 k1 r
end ONE
/-! the text that is kept -/
theorem gm_by_m (w s : Int) : gm_by w s % 256 = w / s % 256 := by unfold gm_by; omega
theorem gm_pw_o {tx : Int → Int} {bl w i : Int} (h : i < bl ∨ bl + 4 ≤ i) : gm_pw tx bl w i = tx i := by
  unfold gm_pw am_uI
  rw [if_neg (by omega), if_neg (by omega), if_neg (by omega), if_neg (by omega)]
theorem gm_pw_i {tx : Int → Int} {bl w k : Int} (k0 : 0 ≤ k) (k1 : k < 4) : gm_pw tx bl w (bl + k) = gm_by w ((2 ^ (24 - 8 * k).toNat : Nat) : Int) := by
  have : k = 0 ∨ k = 1 ∨ k = 2 ∨ k = 3 := by omega
  unfold gm_pw am_uI
  rcases this with rfl | rfl | rfl | rfl
  · rw [if_neg (by omega), if_neg (by omega), if_neg (by omega), if_pos (by omega)]; rfl
  · rw [if_neg (by omega), if_neg (by omega), if_pos (by omega)]; rfl
  · rw [if_neg (by omega), if_pos (by omega)]; rfl
  · rw [if_pos (by omega)]; rfl
theorem BX.app {bf bf' tx : Int → Int} {bl w0 w1 w2 w3 w4 : Int} (h : BX bf tx bl) (e1 : ∀ i, i < bl → bf' i = bf i) (e2 : ∀ k, 0 ≤ k → k < 20 → bf' (bl + k) = gm_W w0 w1 w2 w3 w4 k / ((2 ^ (24 - 8 * Int.tmod k 4).toNat : Nat) : Int) % 256) : BX bf' (gm_pw (gm_pw (gm_pw (gm_pw (gm_pw tx bl w0) (bl + 4) w1) (bl + 8) w2) (bl + 12) w3) (bl + 16) w4) (bl + 20) := by
  intro k k0 k1
  by_cases c : k < bl
  · rw [e1 k c, gm_pw_o (by omega), gm_pw_o (by omega), gm_pw_o (by omega), gm_pw_o (by omega), gm_pw_o (by omega)]
    exact h k k0 c
  · obtain ⟨j, rfl⟩ : ∃ j, k = bl + j := ⟨k - bl, by omega⟩
    have fin : ∀ (w t : Int), 0 ≤ t → t < 4 → gm_W w0 w1 w2 w3 w4 j = w → Int.tmod j 4 = t → (gm_pw (gm_pw (gm_pw (gm_pw (gm_pw tx bl w0) (bl + 4) w1) (bl + 8) w2) (bl + 12) w3) (bl + 16) w4) (bl + j) = gm_by w ((2 ^ (24 - 8 * t).toNat : Nat) : Int) → bf' (bl + j) = (gm_pw (gm_pw (gm_pw (gm_pw (gm_pw tx bl w0) (bl + 4) w1) (bl + 8) w2) (bl + 12) w3) (bl + 16) w4) (bl + j) % 256 ∧ -128 ≤ (gm_pw (gm_pw (gm_pw (gm_pw (gm_pw tx bl w0) (bl + 4) w1) (bl + 8) w2) (bl + 12) w3) (bl + 16) w4) (bl + j) ∧ (gm_pw (gm_pw (gm_pw (gm_pw (gm_pw tx bl w0) (bl + 4) w1) (bl + 8) w2) (bl + 12) w3) (bl + 16) w4) (bl + j) ≤ 127 := by
      intro w t t0 t1 hw ht e
      rw [e, e2 j (by omega) (by omega), hw, ht, gm_by_m]
      exact ⟨rfl, gm_by_r _ _⟩
    have td : Int.tmod j 4 = j % 4 := Int.tmod_eq_emod_of_nonneg (by omega)
    by_cases c1 : j < 4
    · refine fin w0 j (by omega) c1 (if_pos c1) (by rw [td]; omega) ?_
      rw [gm_pw_o (by omega), gm_pw_o (by omega), gm_pw_o (by omega), gm_pw_o (by omega), gm_pw_i (by omega) c1]
    · by_cases c2 : j < 8
      · refine fin w1 (j - 4) (by omega) (by omega) (by unfold gm_W; rw [if_neg c1, if_pos c2]) (by rw [td]; omega) ?_
        rw [gm_pw_o (by omega), gm_pw_o (by omega), gm_pw_o (by omega), show bl + j = bl + 4 + (j - 4) by omega, gm_pw_i (by omega) (by omega)]
      · by_cases c3 : j < 12
        · refine fin w2 (j - 8) (by omega) (by omega) (by unfold gm_W; rw [if_neg c1, if_neg c2, if_pos c3]) (by rw [td]; omega) ?_
          rw [gm_pw_o (by omega), gm_pw_o (by omega), show bl + j = bl + 8 + (j - 8) by omega, gm_pw_i (by omega) (by omega)]
        · by_cases c4 : j < 16
          · refine fin w3 (j - 12) (by omega) (by omega) (by unfold gm_W; rw [if_neg c1, if_neg c2, if_neg c3, if_pos c4]) (by rw [td]; omega) ?_
            rw [gm_pw_o (by omega), show bl + j = bl + 12 + (j - 12) by omega, gm_pw_i (by omega) (by omega)]
          · refine fin w4 (j - 16) (by omega) (by omega) (by unfold gm_W; rw [if_neg c1, if_neg c2, if_neg c3, if_neg c4]) (by rw [td]; omega) ?_
            rw [show bl + j = bl + 16 + (j - 16) by omega, gm_pw_i (by omega) (by omega)]
/-- a text read: the board is sound, its sides apart -/
theorem rD_ok {tx kd st vl : Int → Int} {len : Int} (hl : len ≤ 800) (h0 : 0 ≤ len) (hT : TKA kd st vl (gm_to tx len 801 0)) {D : Int → Int} {L : Option GL} (h : rD kd st vl = .inr (D, L)) : VD D ∧ VE D ∧ GV D := by
  obtain ⟨N, ⟨n0, n1⟩, hN, -⟩ := TG.mk hl h0 hT
  have kn : kd N = 0 := by
    rcases hN N n0 (Int.le_refl _) with ⟨-, a, -⟩ | ⟨a, -⟩
    · exact a
    · omega
  exact rD_v n0 (by omega) kn hT.2.1 hT.2.2 h
/-- the code that is kept -/
theorem CO.ld {E : Int → Int} {L : Option GL} (h4 : E 4 = gm_hs L) (hC : CE E (gm_ed (L.getD []))) (hl : (gm_ed (L.getD [])).length ≤ 1300) (hw : gm_wf (gm_cod L) 0) : CO E (gm_cod L) := by
  cases L with
  | none => exact Or.inl ⟨h4, hC.1, rfl⟩
  | some l => exact Or.inr ⟨h4, hC.1, hl, hw, hC.2⟩
