/-! Pure: what depends on corners only; claims that stay. -/
theorem gm_sm_ci {f g : Int → Int} {n : Int} (h : ∀ k, 0 ≤ k → k < n → f k = g k) : gm_sm f n.toNat = gm_sm g n.toNat := gm_sm_c fun k k0 k1 => h k k0 (by omega)
/-- the same corners -/
def gm_ec (n : Int) (xs ys xs' ys' : Int → Int) : Prop := ∀ k, 0 ≤ k → k < n → xs' k = xs k ∧ ys' k = ys k
section EC
variable {n : Int} {xs ys xs' ys' : Int → Int}
theorem gm_ec.nx (h : gm_ec n xs ys xs' ys') {k : Int} (h0 : 0 ≤ k) (h1 : k < n) : xs' (gm_nx n k) = xs (gm_nx n k) ∧ ys' (gm_nx n k) = ys (gm_nx n k) := h _ (gm_nx_r h0 h1).1 (gm_nx_r h0 h1).2
theorem gm_ec.pv (h : gm_ec n xs ys xs' ys') {k : Int} (h0 : 0 ≤ k) (h1 : k < n) : xs' (gm_pv n k) = xs (gm_pv n k) ∧ ys' (gm_pv n k) = ys (gm_pv n k) := h _ (gm_pv_r h0 h1).1 (gm_pv_r h0 h1).2
theorem gm_ar_c (h : gm_ec n xs ys xs' ys') : gm_ar n xs' ys' = gm_ar n xs ys := gm_sm_ci fun k k0 k1 => by
  unfold gm_cr2
  rw [(h k k0 k1).1, (h k k0 k1).2, (h.nx k0 k1).1, (h.nx k0 k1).2]
theorem gm_bo_c (h : gm_ec n xs ys xs' ys') : gm_bo n xs' ys' = gm_bo n xs ys := gm_sm_ci fun k k0 k1 => by
  unfold gm_st
  rw [(h k k0 k1).1, (h k k0 k1).2, (h.nx k0 k1).1, (h.nx k0 k1).2]
theorem gm_de_c (h : gm_ec n xs ys xs' ys') : gm_de n xs' ys' = gm_de n xs ys := gm_sm_ci fun k k0 k1 => by
  unfold gm_de1 gm_tn
  rw [gm_ar_c h, (h k k0 k1).1, (h k k0 k1).2, (h.nx k0 k1).1, (h.nx k0 k1).2, (h.pv k0 k1).1, (h.pv k0 k1).2]
theorem gm_inn_c (h : gm_ec n xs ys xs' ys') : gm_inn n xs' ys' = gm_inn n xs ys := by
  unfold gm_inn
  rw [gm_ar_c h, gm_bo_c h]
theorem gm_sd_c (h : gm_ec n xs ys xs' ys') {x y k : Int} (k0 : 0 ≤ k) (k1 : k < n) : gm_sd n xs' ys' x y k ↔ gm_sd n xs ys x y k := by
  unfold gm_sd
  rw [(h k k0 k1).1, (h k k0 k1).2, (h.nx k0 k1).1, (h.nx k0 k1).2]
theorem gm_cx_c (h : gm_ec n xs ys xs' ys') {x y k : Int} (k0 : 0 ≤ k) (k1 : k < n) : gm_cx n xs' ys' x y k ↔ gm_cx n xs ys x y k := by
  unfold gm_cx
  rw [(h k k0 k1).1, (h k k0 k1).2, (h.nx k0 k1).1, (h.nx k0 k1).2]
theorem gm_os_c (h : gm_ec n xs ys xs' ys') {m x y : Int} (hm : m ≤ n) : gm_os m n xs' ys' x y ↔ gm_os m n xs ys x y :=
  ⟨fun ⟨k, k0, k1, q⟩ => ⟨k, k0, k1, (gm_sd_c h k0 (by omega)).mp q⟩, fun ⟨k, k0, k1, q⟩ => ⟨k, k0, k1, (gm_sd_c h k0 (by omega)).mpr q⟩⟩
theorem gm_od_c (h : gm_ec n xs ys xs' ys') {x y : Int} : ∀ {m : Nat}, (m : Int) ≤ n → (gm_od n xs' ys' x y m ↔ gm_od n xs ys x y m)
  | 0, _ => Iff.rfl
  | m + 1, hm => by
    unfold gm_od
    rw [gm_od_c h (m := m) (by omega), gm_cx_c h (k := (m : Int)) (by omega) (by omega)]
theorem gm_si_c (h : gm_ec n xs ys xs' ys') {z x y : Int} (n0 : 0 ≤ n) : gm_si z n xs' ys' x y ↔ gm_si z n xs ys x y := by
  unfold gm_si
  rw [gm_os_c h (Int.le_refl n), gm_od_c h (m := n.toNat) (by omega)]
end EC
/-- polygon p is the same in both -/
def gm_sp (D D' : Int → Int) (p : Int) : Prop := pN D' p = pN D p ∧ pC D' p = pC D p ∧ gm_ec (pN D p) (pX D p) (pY D p) (pX D' p) (pY D' p)
theorem gm_arD_c {D D' : Int → Int} {p : Int} (h : gm_sp D D' p) : gm_arD D' p = gm_arD D p := by
  unfold gm_arD
  rw [h.1, gm_ar_c h.2.2]
theorem gm_inD_c {D D' : Int → Int} {p x y : Int} (h : gm_sp D D' p) (n0 : 0 ≤ pN D p) : gm_inD D' p x y ↔ gm_inD D p x y := by
  unfold gm_inD
  rw [h.1, gm_os_c h.2.2 (Int.le_refl _), gm_od_c h.2.2 (by omega)]
theorem gm_sma_cl {D : Int → Int} {x y : Int} : ∀ {m : Nat} {z : Int}, gm_sma D x y m z → z = -1 ∨ pC D z = 1
  | 0, z, h => Or.inl h
  | m + 1, z, ⟨b, h1, h2⟩ => by
    rcases h2 with ⟨q, e⟩ | ⟨q, e⟩
    · subst e; exact Or.inr q.1
    · subst e; exact gm_sma_cl h1
/-- polygons that are the same, or open in both -/
theorem gm_sma_c {D D' : Int → Int} {x y : Int} : ∀ {m : Nat} {z : Int}, (∀ p, 0 ≤ p → p < (m : Int) → (gm_sp D D' p ∧ 0 ≤ pN D p) ∨ (pC D p = 0 ∧ pC D' p = 0)) → gm_sma D x y m z → gm_sma D' x y m z
  | 0, z, _, h => h
  | m + 1, z, hp, ⟨b, h1, h2⟩ => by
    have ih := gm_sma_c (fun p p0 p1 => hp p p0 (by omega)) h1
    have hb := gm_sma_r h1
    have hc := gm_sma_cl h1
    have hs : gm_sP D' x y b m ↔ gm_sP D x y b m := by
      unfold gm_sP
      rcases hp m (by omega) (by omega) with ⟨k, k0⟩ | ⟨k, k'⟩
      · rw [k.2.1, gm_inD_c k k0, gm_arD_c k]
        by_cases e0 : b = -1
        · subst e0; simp
        · have e := hc.resolve_left e0
          rcases hp b (by omega) (by omega) with ⟨k2, -⟩ | ⟨k2, -⟩
          · rw [gm_arD_c k2]
          · omega
      · constructor
        · intro q; have := q.1; omega
        · intro q; have := q.1; omega
    exact ⟨b, ih, h2.imp (fun q => ⟨hs.mpr q.1, q.2⟩) (fun q => ⟨fun w => q.1 (hs.mp w), q.2⟩)⟩
theorem CMS.c {D D' cm : Int → Int} (h : CMS D cm) (hD : VD D) (e2 : D' 2 = D 2) (e3 : D' 3 = D 3) (hs : ∀ k, 0 ≤ k → k < D 2 → sX D' k = sX D k ∧ sY D' k = sY D k) (hp : ∀ p, 0 ≤ p → p < D 3 → gm_sp D D' p ∨ (pC D p = 0 ∧ pC D' p = 0)) : CMS D' cm := by
  intro k k0 k1
  rw [e2] at k1
  obtain ⟨h1, h2⟩ := h k k0 k1
  rw [e3, (hs k k0 k1).1, (hs k k0 k1).2]
  have d3 := hD.2.2.2.1
  exact ⟨gm_sma_c (fun p p0 p1 => (hp p p0 (by omega)).imp (fun q => ⟨q, by have := (hD.2.2.2.2.2 p p0 (by omega)).2.1; omega⟩) id) h1, h2⟩
theorem CMS.stP {D cm : Int → Int} (h : CMS D cm) (hD : VD D) {o x y : Int} (h3 : D 3 < 6) : CMS (gm_stP D o x y) cm := by
  have d3 := hD.2.2.2.1
  have d2 := hD.2.2.1
  intro k k0 k1
  rw [gm_stP_o (i := 2) (by omega) (by omega)] at k1
  obtain ⟨h1, h2⟩ := h k k0 k1
  have e1 : sX (gm_stP D o x y) k = sX D k := gm_stP_o (by omega) (by omega)
  have e2 : sY (gm_stP D o x y) k = sY D k := gm_stP_o (by omega) (by omega)
  rw [e1, e2, gm_stP_3]
  obtain ⟨p1, p2, p3, p4, p5⟩ := gm_stP_p (D := D) d3.1 (o := o) (x := x) (y := y)
  refine ⟨gm_sma_f d3.1 (gm_sma_c (fun p p0 p1 => Or.inl ⟨⟨gm_stP_o (by omega) (by omega), gm_stP_o (by omega) (by omega), fun k k0 k1 => ?_⟩, ?_⟩) h1) (fun q => by have := q.1; omega), h2⟩
  · have := (hD.2.2.2.2.2 p p0 (by omega)).2.1
    exact ⟨gm_stP_o (by omega) (by omega), gm_stP_o (by omega) (by omega)⟩
  · have := (hD.2.2.2.2.2 p p0 (by omega)).2.1
    omega
theorem CMS.adC {D cm : Int → Int} (h : CMS D cm) (hD : VD D) {p x y : Int} (p0 : 0 ≤ p) (p1 : p < D 3) (hc : pC D p = 0) : CMS (gm_adC D p x y) cm := by
  refine h.c hD (gm_setP_o (by omega)) (gm_setP_o (by omega)) (fun k k0 k1 => ⟨gm_setP_o (by have := hD.2.2.1; omega), gm_setP_o (by have := hD.2.2.1; omega)⟩) (fun q q0 q1 => ?_)
  by_cases e : q = p
  · subst e; exact Or.inr ⟨hc, gm_setP_c.trans hc⟩
  · obtain ⟨a1, a2, a3, a4⟩ := gm_setP_q (D := D) (n := pN D p + 1) (c := pC D p) (xs := gm_in (pN D p) x (pX D p)) (ys := gm_in (pN D p) y (pY D p)) e
    exact Or.inl ⟨a1, a2, fun k k0 k1 => a4 k k0 (by have := (hD.2.2.2.2.2 q q0 q1).2.1; omega)⟩
