/-! The law's random field: all of it. -/
theorem RFS.sm {w : am_w} {h : AH} {o bu r f sa pa bs : Nat} {gs gp : Int → Option Nat} {T : Option Nat} {D E D0 cm : Int → Int} {sc : Nat} {L : GL} {le : Int} {Hs : List GE} {Z : List Int} (x : RFS w o bu r f sa pa bs gs gp T h D D0 cm sc L le Hs Z) (hX : FX E) (e : ∀ i, 0 ≤ i → i < 66 + 27 * D 3 → E i = D i) : RFS w o bu r f sa pa bs gs gp T h E D0 cm sc L le Hs Z := ⟨x.1, x.2.1, ⟨x.2.2.1.1.sm x.2.2.1.2.1 e, hX⟩, x.2.2.2⟩
theorem gx_xp_e {E E' : Int → Int} {p : Int} : ∀ n : Nat, (∀ k : Int, 0 ≤ k → k < n → pX E' p k = pX E p k ∧ pY E' p k = pY E p k) → gx_xp E' p n = gx_xp E p n
  | 0, _ => rfl
  | n + 1, h => by
    have e := h n (by omega) (by omega)
    rw [gx_xp, gx_xp, gx_xp_e n (fun k k0 k1 => h k k0 (by omega)), show gx_xy E' p n = gx_xy E p n from funext fun i => by unfold gx_xy; rw [e.1, e.2]]
/-- a polygon being made over the data D -/
def FEP (D E : Int → Int) (k : Int) : Prop := RPK D E ∧ (E 0 = D 0 ∧ E 1 = D 1 ∧ E 3 = D 3 + 1) ∧ (∀ i, 0 ≤ i → i < 66 + 27 * D 3 → i ≠ 3 → E i = D i) ∧ pC E (D 3) = 0 ∧ 1 ≤ pN E (D 3) ∧ pN E (D 3) ≤ 1 + k
theorem FEP.st {D : Int → Int} (h3 : 0 ≤ D 3 ∧ D 3 < 6) {o x y : Int} (ho : 0 ≤ o ∧ o ≤ 3) (hx : 0 ≤ x ∧ x ≤ D 0) (hy : 0 ≤ y ∧ y ≤ D 1) (hn : ¬ gm_oc D x y) : FEP D (gm_stP D o x y) 0 := by
  obtain ⟨-, p2, p3, -, -⟩ := gm_stP_p (o := o) (x := x) (y := y) h3.1
  exact ⟨RPK.st h3 ho hx hy hn, ⟨gm_stP_o (by omega) (by omega), gm_stP_o (by omega) (by omega), gm_stP_3⟩, fun i i0 i1 i3 => gm_stP_o i3 (by omega), p3, by rw [p2]; decide, by rw [p2]; decide⟩
theorem FEP.ad {D E : Int → Int} {k x y : Int} (h : FEP D E k) (h3 : 0 ≤ D 3) (hk : 0 ≤ k ∧ k ≤ 6) (hx : 0 ≤ x ∧ x ≤ D 0) (hy : 0 ≤ y ∧ y ≤ D 1) (hr : gm_rC E (D 3) x y 0) : FEP D (gm_adC E (D 3) x y) (k + 1) := by
  obtain ⟨r, ⟨e0, e1, e3⟩, ei, c, n1, n2⟩ := h
  have o : ∀ i, i < 67 + 27 * D 3 → gm_adC E (D 3) x y i = E i := fun i z => gm_setP_o (Or.inl z)
  have en : pN (gm_adC E (D 3) x y) (D 3) = pN E (D 3) + 1 := gm_setP_n
  exact ⟨r.ad ⟨e0, e1⟩ hx hy ⟨n1, by omega⟩ hr, ⟨(o 0 (by omega)).trans e0, (o 1 (by omega)).trans e1, (o 3 (by omega)).trans e3⟩, fun i i0 i1 i3 => (o i (by omega)).trans (ei i i0 i1 i3), gm_setP_c.trans c, by omega, by omega⟩
theorem FEP.up {D E : Int → Int} {k : Int} (h : FEP D E k) : FEP D E (k + 1) := ⟨h.1, h.2.1, h.2.2.1, h.2.2.2.1, h.2.2.2.2.1, by have := h.2.2.2.2.2; omega⟩

set_option maxRecDepth 4000 in
theorem rg_stones {w : am_w} {d : Nat} {Q : RV → AH → Prop} {o bu r bs : Nat} {D0 cm : Int → Int} {sc : Nat} {L : GL} {le : Int} {Hs : List GE} {f pa : Nat} {gp : Int → Option Nat} (hd : 80 ≤ d) : ∀ (m : Nat) (n : Int) (h : AH) {sa : Nat} {gs : Int → Option Nat} {D : Int → Int} {Z : List Int} {j : Nat}, n = m → m ≤ 5 → RFS w o bu r f sa pa bs gs gp none h D D0 cm sc L le Hs Z → RDS Z D none j → (D 3 = 0 ∧ D 2 ≤ 5 - n) → ((Z.length : Int) ≤ 120 - 20 * n ∧ (j : Int) ≤ 5 - n) → (kk : ∀ {sa' : Nat} {gs' : Int → Option Nat} {D' : Int → Int} {Z' : List Int} {j' : Nat} (n' : Int) (h1 : AH), RFS w o bu r f sa' pa bs gs' gp none h1 D' D0 cm sc L le Hs Z' → RDS Z' D' none j' → D' 3 = 0 → Z'.length ≤ 120 ∧ j' ≤ 5 → h1.2.1 ≤ h.2.1 + 2 * m ∧ h1.2.2 ≤ h.2.2 + 24 * m → AQ w m_L_randomField d 251 [(0, vr o), (1, vr bu), (2, vr r), (3, vr f), (4, vi n')] [] h1 Q) → AQ w m_L_randomField d 97 [(0, vr o), (1, vr bu), (2, vr r), (3, vr f), (4, vi n)] [] h Q
  | 0, n, h, sa, gs, D, Z, j, hn, hm, x, hR, hc, hl, kk => by
    refine q_blk (lv2 := [(0, vr o), (1, vr bu), (2, vr r), (3, vr f), (4, vi n)]) (st2 := [vi n]) kL_randomField_97 rfl ?_
    refine AQ.of (AS.if_le_t (tgt := 251) eL_randomField_99 (by decide) ⟨by omega, by omega⟩ (by omega)) ?_
    exact kk _ h x hR hc.1 ⟨by omega, by omega⟩ ⟨by omega, by omega⟩
  | m + 1, n, h, sa, gs, D, Z, j, hn, hm, x, hR, hc, hl, kk => by
    have d2 := x.2.2.1.2.1.2.2.1
    have dd := x.2.2.1.2.1
    refine q_blk (lv2 := [(0, vr o), (1, vr bu), (2, vr r), (3, vr f), (4, vi n)]) (st2 := [vi n]) kL_randomField_97 rfl ?_
    refine AQ.of (AS.if_le_f eL_randomField_99 ⟨by omega, by omega⟩ (by omega) (by decide)) ?_
    have back : ∀ {sa' : Nat} {gs' : Int → Option Nat} {D' : Int → Int} {Z' : List Int} {j' : Nat} (h1 : AH), RFS w o bu r f sa' pa bs gs' gp none h1 D' D0 cm sc L le Hs Z' → RDS Z' D' none j' → (D' 3 = 0 ∧ D' 2 ≤ D 2 + 1) → (Z'.length ≤ Z.length + 20 ∧ j' ≤ j + 1) → (h1.2.1 ≤ h.2.1 + 2 ∧ h1.2.2 ≤ h.2.2 + 24) → AQ w m_L_randomField d 245 [(0, vr o), (1, vr bu), (2, vr r), (3, vr f), (4, vi n)] [] h1 Q := fun h1 y rd c l b => by
      refine q_blk (lv2 := [(0, vr o), (1, vr bu), (2, vr r), (3, vr f), (4, vi (n + (-1)))]) (st2 := []) kL_randomField_245 rfl ?_
      refine q_goto (tgt := 97) eL_randomField_248 (by decide) ?_
      exact rg_stones hd m _ h1 (by omega) (by omega) y rd ⟨c.1, by omega⟩ ⟨by omega, by omega⟩ (fun n' h2 a1 a2 a3 a4 a5 => kk n' h2 a1 a2 a3 a4 ⟨by omega, by omega⟩)
    refine rg_S1 hd x (fun h1 y b => back h1 y hR ⟨hc.1, by omega⟩ ⟨by omega, by omega⟩ ⟨by omega, by omega⟩) (fun px py h1 hx hy hs y b => ?_)
    refine rg_S2 hd y (by omega) (fun {t gk} h2 ct ft hg K => ?_)
    refine rg_S3 hd y (by omega) hc.1 hx hy (by omega) ct ft hg K (fun g {sa' gs'} h3 hv z gl b3 => ?_)
    have no : ¬ gm_oc D (g 0) (g 1) := by
      rw [hv.1, hv.2.1]
      rintro ((q | ⟨p, p0, p1, -⟩) | ⟨p, p0, p1, -⟩)
      · exact hs q
      · have := hc.1; omega
      · have := hc.1; omega
    have e3 : gm_addS D (g 0) (g 1) (g 2) 3 = D 3 := gm_addS_o (by omega) (by omega)
    have e2 : gm_addS D (g 0) (g 1) (g 2) 2 = D 2 + 1 := gm_addS_2
    have a21 : (gm_lit 21).length = 5 := by rw [gx_l21]; rfl
    have a20 : (gm_lit 20).length = 1 := by rw [gx_l20]; rfl
    exact back h3 z (hR.stone (by omega) (by omega) (by rw [hv.1]; exact hx) (by rw [hv.2.1]; exact hy) ⟨dd.1.2, dd.2.1.2⟩ hv.2.2 no) ⟨by rw [e3]; exact hc.1, by omega⟩ ⟨by simp only [List.length_append]; omega, by omega⟩ ⟨by omega, by omega⟩

set_option maxRecDepth 4000 in
theorem rg_corners {w : am_w} {d : Nat} {Q : RV → AH → Prop} {o bu r bs : Nat} {D0 cm : Int → Int} {sc : Nat} {L : GL} {le : Int} {Hs : List GE} {Z : List Int} {f sa pa : Nat} {gs gp : Int → Option Nat} {D : Int → Int} {n : Int} (hd : 80 ≤ d) (h3 : 0 ≤ D 3 ∧ D 3 < 6) : ∀ (m : Nat) (k x y : Int) (h : AH) {E : Int → Int}, k = 6 - m → m ≤ 6 → RFS w o bu r f sa pa bs gs gp none h E D0 cm sc L le Hs Z → FEP D E k → (kk : ∀ (k' x' y' : Int) {E' : Int → Int} (h1 : AH), RFS w o bu r f sa pa bs gs gp none h1 E' D0 cm sc L le Hs Z → FEP D E' 6 → h1.2.1 ≤ h.2.1 + m ∧ h1.2.2 ≤ h.2.2 + 12 * m → AQ w m_L_randomField d 438 [(0, vr o), (1, vr bu), (2, vr r), (3, vr f), (4, vi n), (5, vi x'), (6, vi y'), (7, vi (D 3)), (8, vi k')] [] h1 Q) → AQ w m_L_randomField d 346 [(0, vr o), (1, vr bu), (2, vr r), (3, vr f), (4, vi n), (5, vi x), (6, vi y), (7, vi (D 3)), (8, vi k)] [] h Q
  | 0, k, x, y, h, E, hk, hm, z, fe, kk => by
    refine q_blk (lv2 := [(0, vr o), (1, vr bu), (2, vr r), (3, vr f), (4, vi n), (5, vi x), (6, vi y), (7, vi (D 3)), (8, vi k)]) (st2 := [vi 6, vi k]) kL_randomField_346 rfl ?_
    refine AQ.of (AS.ic_ge_t (tgt := 438) eL_randomField_350 (by decide) ⟨by omega, by omega⟩ ⟨by decide, by decide⟩ (by omega)) ?_
    exact kk _ _ _ h z (by rw [show (6 : Int) = k by omega]; exact fe) ⟨by omega, by omega⟩
  | m + 1, k, x, y, h, E, hk, hm, z, fe, kk => by
    refine q_blk (lv2 := [(0, vr o), (1, vr bu), (2, vr r), (3, vr f), (4, vi n), (5, vi x), (6, vi y), (7, vi (D 3)), (8, vi k)]) (st2 := [vi 6, vi k]) kL_randomField_346 rfl ?_
    refine AQ.of (AS.ic_ge_f eL_randomField_350 ⟨by omega, by omega⟩ ⟨by decide, by decide⟩ (by omega) (by decide)) ?_
    have e3 := fe.2.1.2.2
    refine rg_P3 hd z ⟨h3.1, by omega⟩ (fun x' y' {E'} h1 q c b => ?_)
    refine q_blk (lv2 := [(0, vr o), (1, vr bu), (2, vr r), (3, vr f), (4, vi n), (5, vi x'), (6, vi y'), (7, vi (D 3)), (8, vi (k + 1))]) (st2 := []) kL_randomField_432 rfl ?_
    refine q_goto (tgt := 346) eL_randomField_435 (by decide) ?_
    have fe2 : FEP D E' (k + 1) := by
      rcases c with rfl | ⟨a1, a2, a3, rfl⟩
      · exact fe.up
      · exact fe.ad h3.1 ⟨by omega, by omega⟩ (by rw [← fe.2.1.1]; exact a1) (by rw [← fe.2.1.2.1]; exact a2) a3
    exact rg_corners hd h3 m (k + 1) x' y' h1 (by omega) (by omega) q fe2 (fun k' x2 y2 {E2} h2 a1 a2 a3 => kk k' x2 y2 h2 a1 a2 ⟨by omega, by omega⟩)

set_option maxRecDepth 4000 in
set_option maxHeartbeats 1000000 in
theorem rg_polys {w : am_w} {d : Nat} {Q : RV → AH → Prop} {o bu r bs : Nat} {D0 cm : Int → Int} {sc : Nat} {L : GL} {le : Int} {Hs : List GE} {f sa : Nat} {gs : Int → Option Nat} (hd : 80 ≤ d) : ∀ (m : Nat) (n : Int) (h : AH) {pa : Nat} {gp : Int → Option Nat} {D : Int → Int} {Z : List Int} {j : Nat}, n = m → m ≤ 3 → RFS w o bu r f sa pa bs gs gp none h D D0 cm sc L le Hs Z → RDS Z D none j → D 3 ≤ 3 - n → ((Z.length : Int) ≤ 420 - 100 * n ∧ (j : Int) ≤ 8 - n) → (kk : ∀ {pa' : Nat} {gp' : Int → Option Nat} {D' : Int → Int} {Z' : List Int} {j' : Nat} (n' : Int) (h1 : AH), RFS w o bu r f sa pa' bs gs gp' none h1 D' D0 cm sc L le Hs Z' → RDS Z' D' none j' → Z'.length ≤ 420 ∧ j' ≤ 8 → h1.2.1 ≤ h.2.1 + 40 * m ∧ h1.2.2 ≤ h.2.2 + 200 * m → AQ w m_L_randomField d 569 [(0, vr o), (1, vr bu), (2, vr r), (3, vr f), (4, vi n')] [] h1 Q) → AQ w m_L_randomField d 258 [(0, vr o), (1, vr bu), (2, vr r), (3, vr f), (4, vi n)] [] h Q
  | 0, n, h, pa, gp, D, Z, j, hn, hm, x, hR, hc, hl, kk => by
    refine q_blk (lv2 := [(0, vr o), (1, vr bu), (2, vr r), (3, vr f), (4, vi n)]) (st2 := [vi n]) kL_randomField_258 rfl ?_
    refine AQ.of (AS.if_le_t (tgt := 569) eL_randomField_260 (by decide) ⟨by omega, by omega⟩ (by omega)) ?_
    exact kk _ h x hR ⟨by omega, by omega⟩ ⟨by omega, by omega⟩
  | m + 1, n, h, pa, gp, D, Z, j, hn, hm, x, hR, hc, hl, kk => by
    have hX := x.2.2.1.2
    have d3 := hX.1.2.2.2.1
    refine q_blk (lv2 := [(0, vr o), (1, vr bu), (2, vr r), (3, vr f), (4, vi n)]) (st2 := [vi n]) kL_randomField_258 rfl ?_
    refine AQ.of (AS.if_le_f eL_randomField_260 ⟨by omega, by omega⟩ (by omega) (by decide)) ?_
    have back : ∀ {pa' : Nat} {gp' : Int → Option Nat} {D' : Int → Int} {Z' : List Int} {j' : Nat} (h1 : AH), RFS w o bu r f sa pa' bs gs gp' none h1 D' D0 cm sc L le Hs Z' → RDS Z' D' none j' → D' 3 ≤ D 3 + 1 → (Z'.length ≤ Z.length + 100 ∧ j' ≤ j + 1) → (h1.2.1 ≤ h.2.1 + 40 ∧ h1.2.2 ≤ h.2.2 + 200) → AQ w m_L_randomField d 563 [(0, vr o), (1, vr bu), (2, vr r), (3, vr f), (4, vi n)] [] h1 Q := fun h1 y rd c l b => by
      refine q_blk (lv2 := [(0, vr o), (1, vr bu), (2, vr r), (3, vr f), (4, vi (n + (-1)))]) (st2 := []) kL_randomField_563 rfl ?_
      refine q_goto (tgt := 258) eL_randomField_566 (by decide) ?_
      exact rg_polys hd m _ h1 (by omega) (by omega) y rd (by omega) ⟨by omega, by omega⟩ (fun n' h2 a1 a2 a3 a4 => kk n' h2 a1 a2 a3 ⟨by omega, by omega⟩)
    refine rg_P1 hd x (fun h1 y b => back h1 y hR (by omega) ⟨by omega, by omega⟩ ⟨by omega, by omega⟩) (fun px py h1 hx hy ho y b => ?_)
    refine rg_P2 hd y (by omega) hx hy ho (fun {pa' gp'} ow h2 how z b2 => ?_)
    refine rg_corners hd ⟨d3.1, by omega⟩ 6 0 px py h2 (by decide) (by decide) z (FEP.st ⟨d3.1, by omega⟩ how hx hy ho) (fun k' x' y' {E} h3 q fe b3 => ?_)
    obtain ⟨rk, ⟨e0, e1, e3⟩, ei, ec, n1, n2⟩ := fe
    have eX := q.2.2.1.2
    refine rg_P4 hd q ⟨d3.1, by omega⟩ (fun {pa2 gp2} h4 u b4 => ?_) (fun hL => ?_)
    · have dr3 : gm_drP E (D 3) 3 = E 3 - 1 := if_pos rfl
      refine back h4 (u.sm hX fun i i0 i1 => ?_) hR (by omega) ⟨by omega, by omega⟩ ⟨by omega, by omega⟩
      rw [dr3] at i1
      by_cases c : i = 3
      · subst c; omega
      · unfold gm_drP
        rw [if_neg c, if_neg (by omega)]
        exact (ei i i0 (by omega) c).symm
    · refine rg_P5 hd q ⟨d3.1, by omega⟩ hL (fun h4 u b4 => ?_)
      have c3 : gm_clP E (D 3) 3 = E 3 := gm_setP_o (by omega)
      have cn : pN (gm_clP E (D 3)) (D 3) = pN E (D 3) := gm_setP_n
      have co : pO (gm_clP E (D 3)) (D 3) = pO E (D 3) := gm_setP_w
      have v := eX.1.2.2.2.2.2 (D 3) d3.1 (by omega)
      have w0 := eX.1.1
      have w1 := eX.1.2.1
      refine rg_P6 hd u ⟨d3.1, by omega⟩ (by omega) (fun g h5 g0 t gl xl b5 => ?_)
      have a22 : (gm_lit 22).length = 7 := by rw [gx_l22]; rfl
      have a24 : (gm_lit 24).length = 2 := by rw [gx_l24]; rfl
      have ex : gx_xp (gm_clP E (D 3)) (D 3) (pN E (D 3)).toNat = gx_xp E (D 3) (pN E (D 3)).toNat := gx_xp_e _ (fun k k0 k1 => gm_setP_x k0 (by omega))
      rw [cn, ex] at t xl
      exact back h5 t (hR.poly (by omega) rk hL (g0.trans co) v.1 ⟨by omega, by omega⟩ (fun k k0 k1 => by have := v.2.2.2 k k0 k1; omega)) (by omega) ⟨by simp only [List.length_append]; omega, by omega⟩ ⟨by omega, by omega⟩

set_option maxRecDepth 4000 in
set_option maxHeartbeats 1000000 in
theorem c_L_randomField {w : am_w} {h : AH} {o bu r : Nat} {D0 cm : Int → Int} {sc : Nat} {L : GL} {tx : Int → Int} {le : Int} {Hs : List GE} (hL : LC w h o bu D0 cm sc L tx 0 le Hs) {W : Int → Int} (hB : TB h bu 0 W) (hW : ∀ i, W i = 0) (hR : RND h r) (hr : o + 256 ≤ r ∧ r < h.2.1 ∧ r ≠ bu) : AE w m_L_randomField 80 [vr o, vr bu, vr r] h (am_ref (fun q h1 => RFD w o bu r D0 cm sc L Hs h1 q ∧ h1.2.1 ≤ h.2.1 + 602 ∧ h1.2.2 ≤ h.2.2 + 301600)) := by
  refine AE.of wf_L_randomField (Nat.le_of_ble_eq_true rfl) (am_ok_r) ?_
  obtain ⟨bs, ⟨hX, -⟩, hbs⟩ := hL.2.1.2
  have hT : TXS w h o bu D0 cm sc L le Hs [] := ⟨⟨tx, hL, fun k k0 k1 => by have k1 : k < 0 := k1; omega⟩, by obtain ⟨fb, c0, c1, c2⟩ := hB; exact ⟨fb, c0, c1, fun i i0 i1 => (c2 i i0 i1).trans ((hW i).trans (gx_wk_o (by show (0 : Int) ≤ 20 * (0 / 20) + 4 * i; omega)).symm)⟩, (fun c hc => by cases hc), by decide⟩
  refine rg_R0 (d := 80) (by decide) hT hR hr hX hbs (fun {f sa pa gs gp} h1 x1 b1 => ?_)
  refine rg_R1 ⟨by decide, by decide⟩ ⟨by decide, by decide⟩ (by decide) x1 (fun a h2 ha x2 b2 => ?_)
  refine rg_R2 ha ⟨by decide, by decide⟩ (by decide) x2 (fun b h3 hb x3 b3 => ?_)
  refine rg_R3 (by decide) x3 (by decide) (fun g h4 g0 g1 x4 gl b4 => ?_)
  have g0 : g 0 = a := g0
  have g1 : g 1 = b := g1
  have rf := RDS.field (f := g) (by rw [g0]; exact ha) (by rw [g1]; exact hb)
  rw [g0, g1] at rf
  have a18 : (gm_lit 18).length = 5 := by rw [gx_l18]; rfl
  have a20 : (gm_lit 20).length = 1 := by rw [gx_l20]; rfl
  have zl : ([] ++ gm_lit 18 ++ gx_nums g (2 : Int).toNat ++ gm_lit 20).length ≤ 12 := by simp only [List.length_append, List.length_nil]; omega
  generalize [] ++ gm_lit 18 ++ gx_nums g (2 : Int).toNat ++ gm_lit 20 = Z4 at x4 rf zl
  refine rg_R4 (by decide) x4 (fun n h5 hn x5 b5 => ?_)
  refine rg_stones (by decide) n.toNat n h5 (by omega) (by omega) x5 rf ⟨rfl, by show (0 : Int) ≤ _; omega⟩ ⟨by omega, by omega⟩ (fun {sa1 gs1 D1 Z1 j1} n1 h6 x6 r6 c6 l6 b6 => ?_)
  refine rg_R5 (by decide) x6 (fun n2 h7 hn2 x7 b7 => ?_)
  refine rg_polys (by decide) n2.toNat n2 h7 (by omega) (by omega) x7 r6 (by omega) ⟨by omega, by omega⟩ (fun {pa1 gp1 D2 Z2 j2} n3 h8 x8 r8 l8 b8 => ?_)
  refine rg_T1 (by decide) x8 (by omega) (fun h9 x9 b9 => ?_) (fun {tq N9 L9 X9} h9 px hN x9 xl tr b9 => ?_)
  · exact rg_T2 (Lo := none) (h0 := h) (by decide) x9 r8 (Or.inl ⟨rfl, rfl⟩) (by omega) (by omega)
  · exact rg_T2 (h0 := h) (by decide) x9 (r8.score (by omega) (by omega) px) tr (by omega) (by omega)
