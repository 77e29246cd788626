/-! The texts' world; an expression's text. -/
/-- a String with these letters -/
def STL (h : AH) (q v : Nat) (X : List Int) : Prop := ∃ b, STR h q v X.length b ∧ ∀ (k : Nat) (c : Int), X[k]? = some c → b k = c
/-- a StringBuilder with these letters -/
def SBL (h : AH) (s v : Nat) (X : List Int) : Prop := ∃ cap fb, SBD h s v cap X.length fb ∧ ∀ (k : Nat) (c : Int), X[k]? = some c → fb k = c
theorem STL.mv {h h1 : AH} {q v : Nat} {X : List Int} (hS : STL h q v X) (t : h.2.1 ≤ h1.2.1) (e1 : h1.1 q = h.1 q) (e2 : h1.1 v = h.1 v) : STL h1 q v X := by
  obtain ⟨b, a, c⟩ := hS
  exact ⟨b, a.mv t e1 e2, c⟩
theorem SBL.mv {h h1 : AH} {s v : Nat} {X : List Int} (hB : SBL h s v X) (t : h.2.1 ≤ h1.2.1) (e1 : h1.1 s = h.1 s) (e2 : h1.1 v = h.1 v) : SBL h1 s v X := by
  obtain ⟨cap, fb, a, c⟩ := hB
  exact ⟨cap, fb, a.mv t e1 e2, c⟩
theorem STL.b {h : AH} {q v : Nat} {X : List Int} (hS : STL h q v X) : (q < h.2.1 ∧ v < h.2.1) ∧ X.length ≤ 1000 ∧ ∃ nn f, h.1 q = some (112, nn, f, am_G [some v]) := by
  obtain ⟨b, ⟨a, ⟨nn, f, c⟩, -, ⟨-, d⟩, -⟩, -⟩ := hS
  exact ⟨a, by omega, nn, f, c⟩
theorem SBL.b {h : AH} {s v : Nat} {X : List Int} (hB : SBL h s v X) : (s < h.2.1 ∧ v < h.2.1) ∧ ∃ n, h.1 s = some (13, 4, am_L [0, 0, 0, n], am_G [some v, none, none, none]) := by
  obtain ⟨cap, fb, ⟨a, c, -⟩, -⟩ := hB
  exact ⟨a, _, c⟩
/-- the constants, the names, the digits: all below b -/
def LIT (w : am_w) (h : AH) (b : Nat) : Prop := ∀ i, i < am_STR.length → (w.2 i < b ∧ w.2 (200 + i) < b) ∧ (∃ nn f, h.1 (w.2 i) = some (112, nn, f, am_G [some (w.2 (200 + i))])) ∧ ∃ g, h.1 (w.2 (200 + i)) = some (111, (am_len i : Int), (fun j => am_byt i j.toNat), g)
def VRS (h : AH) (b : Nat) : Prop := ∃ a r, ∃ (nn : Int) (ff f2 : Int → Int) (g : Int → Option Nat), (a < b ∧ r < b) ∧ h.1 a = some (122, nn, ff, am_G [some r]) ∧ h.1 r = some (113, 5, f2, g) ∧ ∀ k, 0 ≤ k → k ≤ 4 → ∃ q v, g k = some q ∧ (q < b ∧ v < b) ∧ STL h q v (gm_vn k)
def TXW (w : am_w) (h : AH) (b : Nat) : Prop := b ≤ h.2.1 ∧ LIT w h b ∧ VRS h b ∧ DIG h b
theorem TXW.mv {w : am_w} {h h1 : AH} {b : Nat} (hT : TXW w h b) (t : h.2.1 ≤ h1.2.1) (F : ∀ q, q < b → h1.1 q = h.1 q) : TXW w h1 b := by
  obtain ⟨t0, l, ⟨a, r, nn, ff, f2, g, ⟨b1, b2⟩, c1, c2, v⟩, ⟨d0, a', o', t', nn', ff', f1', f2', g1', g2', ⟨e1, e2, e3⟩, k0, k1, k2, k3, k4⟩⟩ := hT
  refine ⟨by omega, fun i hi => ?_, ⟨a, r, nn, ff, f2, g, ⟨b1, b2⟩, (F _ b1).trans c1, (F _ b2).trans c2, fun k k0 k1 => ?_⟩, ⟨by omega, a', o', t', nn', ff', f1', f2', g1', g2', ⟨e1, e2, e3⟩, (F _ e1).trans k0, (F _ e2).trans k1, (F _ e3).trans k2, k3, k4⟩⟩
  · obtain ⟨⟨p1, p2⟩, ⟨nn, f, p3⟩, ⟨g, p4⟩⟩ := l i hi
    exact ⟨⟨p1, p2⟩, ⟨nn, f, (F _ p1).trans p3⟩, ⟨g, (F _ p2).trans p4⟩⟩
  · obtain ⟨q, v9, g9, ⟨q1, q2⟩, s⟩ := v k k0 k1
    exact ⟨q, v9, g9, ⟨q1, q2⟩, s.mv t (F _ q1) (F _ q2)⟩
/-- a constant's letters -/
def gm_lit (i : Nat) : List Int := (am_txt i).2.2.toList.map fun c => (c.toNat : Int)
theorem gm_lit_r : ∀ i, i < am_STR.length → am_len i < 100 ∧ ∀ j, j < am_len i → 0 ≤ am_byt i j ∧ am_byt i j < 128 := am_byt_r
theorem gm_lit_l (i : Nat) : (gm_lit i).length = am_len i := by unfold gm_lit am_len; rw [List.length_map]
theorem gm_lit_k {i k : Nat} {c : Int} (h : (gm_lit i)[k]? = some c) : am_byt i k = c := by
  unfold gm_lit at h
  rw [List.getElem?_map] at h
  unfold am_byt
  rw [List.getD_eq_getElem?_getD]
  cases e : (am_txt i).2.2.toList[k]? with
  | none => rw [e] at h; cases h
  | some x => rw [e] at h; cases h; rfl
theorem LIT.st {w : am_w} {h : AH} {b i : Nat} (hL : LIT w h b) (hb : b ≤ h.2.1) (hi : i < am_STR.length) : STL h (w.2 i) (w.2 (200 + i)) (gm_lit i) := by
  obtain ⟨⟨a1, a2⟩, ⟨nn, f, c⟩, ⟨g, c2⟩⟩ := hL i hi
  have r := am_byt_r i hi
  refine ⟨fun j => am_byt i j.toNat, ⟨⟨by omega, by omega⟩, ⟨nn, f, c⟩, ⟨111, g, Or.inr rfl, ?_⟩, ?_, fun j j0 j1 => ?_⟩, fun k c hk => ?_⟩
  · rw [gm_lit_l]; exact c2
  · rw [gm_lit_l]; omega
  · rw [gm_lit_l] at j1
    exact r.2 j.toNat (by omega)
  · show am_byt i (Int.toNat (k : Int)) = c
    rw [Int.toNat_natCast]
    exact gm_lit_k hk
section TXC
variable {w : am_w} {h : AH}
theorem gm_app_g {X Y : List Int} {f b : Int → Int} {f' : Int → Int} (hX : ∀ (k : Nat) (c : Int), X[k]? = some c → f k = c) (hY : ∀ (k : Nat) (c : Int), Y[k]? = some c → b k = c) (h1 : ∀ j, 0 ≤ j → j < (X.length : Int) → f' j = f j) (h2 : ∀ j, 0 ≤ j → j < (Y.length : Int) → f' (X.length + j) = b j) : ∀ (k : Nat) (c : Int), (X ++ Y)[k]? = some c → f' k = c := by
  intro k c hk
  by_cases q : k < X.length
  · rw [List.getElem?_append_left q] at hk
    rw [h1 k (by omega) (by omega)]
    exact hX k c hk
  · rw [List.getElem?_append_right (by omega)] at hk
    have l := (List.getElem?_eq_some_iff.mp hk).1
    have := h2 ((k - X.length : Nat) : Int) (by omega) (by omega)
    rw [show (X.length : Int) + ((k - X.length : Nat) : Int) = k by omega] at this
    rw [this]
    exact hY _ c hk
/-- a text appended to a text -/
theorem c_appS {s v q vq : Nat} {X Y : List Int} (hB : SBL h s v X) (hS : STL h q vq Y) (hne : v ≠ vq) (hl : X.length + Y.length ≤ 1000) : AE w m_J4_append_15ec4 6 [vr s, vr q] h (am_ref (fun z h1 => z = s ∧ (∃ v', SBL h1 s v' (X ++ Y) ∧ (v' = v ∨ h.2.1 ≤ v')) ∧ KF h h1 (fun q => q = s ∨ q = v) 1 3000)) := by
  obtain ⟨cap, fb, B, bx⟩ := hB
  obtain ⟨b, S, by'⟩ := hS
  refine (c_J4_appendS B S hne (by omega)).mono fun r h1 => ?_
  rintro ⟨z, rfl, rfl, ⟨v', cap', fb', B', k1, k2, n⟩, K⟩
  exact ⟨z, rfl, rfl, ⟨v', ⟨cap', fb', by rw [List.length_append]; exact B', gm_app_g bx by' k1 k2⟩, n⟩, K⟩
theorem gm_dl_l {n : Int} : ((gm_dl n).length : Int) = gm_dz n := by
  unfold gm_dl gm_dz
  split
  · rfl
  · split
    · rfl
    · split <;> rfl
theorem gm_dl_k {n : Int} (n0 : 0 ≤ n) (n1 : n < 10000) {k : Nat} {c : Int} (h : (gm_dl n)[k]? = some c) : gm_dgt n (gm_dz n - 1 - k) = c := by
  unfold gm_dl at h
  split at h
  · have hz : gm_dz n = 1 := by unfold gm_dz; rw [if_pos (by omega)]
    rw [hz]
    unfold gm_dgt
    match k, h with
    | 0, h => cases h; repeat (first | rw [if_pos (by omega)] | rw [if_neg (by omega)])
              omega
  · split at h
    · have hz : gm_dz n = 2 := by unfold gm_dz; rw [if_neg (by omega), if_pos (by omega)]
      rw [hz]
      unfold gm_dgt
      match k, h with
      | 0, h => cases h; repeat (first | rw [if_pos (by omega)] | rw [if_neg (by omega)])
                omega
      | 1, h => cases h; repeat (first | rw [if_pos (by omega)] | rw [if_neg (by omega)])
    · split at h
      · have hz : gm_dz n = 3 := by unfold gm_dz; rw [if_neg (by omega), if_neg (by omega), if_pos (by omega)]
        rw [hz]
        unfold gm_dgt
        match k, h with
        | 0, h => cases h; repeat (first | rw [if_pos (by omega)] | rw [if_neg (by omega)])
                  omega
        | 1, h => cases h; repeat (first | rw [if_pos (by omega)] | rw [if_neg (by omega)])
        | 2, h => cases h; repeat (first | rw [if_pos (by omega)] | rw [if_neg (by omega)])
      · have hz : gm_dz n = 4 := by unfold gm_dz; rw [if_neg (by omega), if_neg (by omega), if_neg (by omega)]
        rw [hz]
        unfold gm_dgt
        match k, h with
        | 0, h => cases h; repeat (first | rw [if_pos (by omega)] | rw [if_neg (by omega)])
                  omega
        | 1, h => cases h; repeat (first | rw [if_pos (by omega)] | rw [if_neg (by omega)])
        | 2, h => cases h; repeat (first | rw [if_pos (by omega)] | rw [if_neg (by omega)])
        | 3, h => cases h; repeat (first | rw [if_pos (by omega)] | rw [if_neg (by omega)])
theorem c_appI {s v bd : Nat} {X : List Int} {n : Int} (hB : SBL h s v X) (hG : DIG h bd) (n0 : 0 ≤ n) (n1 : n < 10000) (hl : X.length ≤ 900) : AE w m_J4_append_bf812 6 [vr s, vi n] h (am_ref (fun z h1 => z = s ∧ (∃ v', SBL h1 s v' (X ++ gm_dl n) ∧ (v' = v ∨ h.2.1 ≤ v')) ∧ KF h h1 (fun q => q = s ∨ q = v) 1 3000)) := by
  obtain ⟨cap, fb, B, bx⟩ := hB
  have dl := gm_dl_l (n := n)
  have dz := gm_dz_r n0
  refine (c_J4_appendI B hG n0 n1 (by omega)).mono fun r h1 => ?_
  rintro ⟨z, rfl, rfl, ⟨v', cap', fb', B', k1, k2, m⟩, K⟩
  refine ⟨z, rfl, rfl, ⟨v', ⟨cap', fb', by rw [List.length_append]; rw [show ((X.length + (gm_dl n).length : Nat) : Int) = X.length + gm_dz n by omega]; exact B', ?_⟩, m⟩, K⟩
  refine gm_app_g (b := fun j => gm_dgt n (gm_dz n - 1 - j)) bx (fun k c hk => gm_dl_k n0 n1 hk) k1 fun j j0 j1 => ?_
  have := k2 (gm_dz n - 1 - j) (by omega) (by omega)
  rw [show (X.length : Int) + gm_dz n - 1 - (gm_dz n - 1 - j) = X.length + j by omega] at this
  exact this
theorem c_toS {s v : Nat} {X : List Int} (hB : SBL h s v X) (hl : X.length ≤ 1000) : AE w m_J4_toString_0e30d 6 [vr s] h (am_ref (fun q h1 => (∃ vq, STL h1 q vq X ∧ h.2.1 ≤ q ∧ h.2.1 ≤ vq) ∧ KF h h1 NO 2 3004)) := by
  obtain ⟨cap, fb, B, bx⟩ := hB
  refine (c_J4_toString B (by omega)).mono fun r h1 => ?_
  rintro ⟨z, rfl, ⟨vq, b, S, e, f1, f2⟩, K⟩
  refine ⟨z, rfl, ⟨vq, ⟨b, S, fun k c hk => ?_⟩, f1, f2⟩, K⟩
  have l := (List.getElem?_eq_some_iff.mp hk).1
  rw [e k (by omega) (by omega)]
  exact bx k c hk
end TXC
/-- how long such a text is at most; what making it takes -/
def gm_tl : Nat → Nat
  | 0 => 7
  | d + 1 => 2 * gm_tl d + 5
def gm_tc : Nat → Nat
  | 0 => 6
  | d + 1 => 2 * gm_tc d + 14
theorem gm_wrp_l (o l : Int) (X : List Int) : (gm_wrp o l X).length ≤ X.length + 2 := by
  unfold gm_wrp
  split
  · rw [List.length_cons, List.length_append]; simp
  · omega
theorem gm_opt_l (k : Int) : (gm_opt k).length ≤ 3 := by
  unfold gm_opt
  split
  · decide
  · split
    · decide
    · split <;> decide
theorem NT.len {h : AH} {B : Nat → Prop} : ∀ {d q : Nat} {L : GL} {X : Int → List Int}, NT h B d q L X → ∀ l, (X l).length ≤ gm_tl d := by
  have leaf : ∀ {q : Nat} {L : GL} {X : Int → List Int}, NLF h B q L X → ∀ l, (X l).length ≤ 7 := by
    rintro q L X ⟨-, k, nb, c, ⟨-, n0, n1, -, rfl⟩ | ⟨-, n0, n1, -, rfl⟩⟩ l
    · have := gm_dl_l (n := nb)
      have := gm_dz_r n0
      show (gm_dl nb).length ≤ 7
      omega
    · show (gm_vn nb).length ≤ 7
      unfold gm_vn
      split
      · decide
      · split
        · decide
        · split
          · decide
          · split <;> decide
  intro d
  induction d with
  | zero => intro q L X hN l; exact leaf hN l
  | succ d ih =>
    intro q L X hN l
    rcases hN with hN | ⟨b, k, nb, l', r, L1, L2, X1, X2, hk, c, n1, n2, -, rfl⟩
    · have := leaf hN l
      have : 7 ≤ gm_tl (d + 1) := by
        have : ∀ d, 7 ≤ gm_tl d := fun d => by induction d with
          | zero => exact Nat.le_refl 7
          | succ d ih => unfold gm_tl; omega
        exact this _
      omega
    · have a := ih n1 (gm_own k)
      have b := ih n2 (gm_own k + 1)
      have c := gm_wrp_l (gm_own k) l (X1 (gm_own k) ++ gm_opt k ++ X2 (gm_own k + 1))
      have e := gm_opt_l k
      rw [List.length_append, List.length_append] at c
      show (gm_wrp _ _ _).length ≤ 2 * gm_tl d + 5
      omega

set_option maxRecDepth 4000 in
set_option maxHeartbeats 4000000 in
theorem c_X10_text0 {w : am_w} {h : AH} {bs : Nat} (hT : TXW w h bs) {N q : Nat} {nb l : Int} (c0 : h.1 q = some (9, 4, am_L [0, nb, 0, 0], am_G [none, none, none, none])) (bq : q < h.2.1) (n0 : 0 ≤ nb) (n1 : nb ≤ 9999)  : AE w m_X10_text (N + 8) [vr q, vi l] h (am_ref (fun z h1 => (∃ vz, STL h1 z vz (gm_dl nb) ∧ (vz < bs ∨ h.2.1 ≤ vz) ∧ (z < bs ∨ h.2.1 ≤ z)) ∧ KF h h1 NO (gm_tc N) (3100 * gm_tc N))) := by
  refine AE.of wf_X10_text (Nat.le_of_ble_eq_true rfl) (am_ok_r) ?_
  have hbs := hT.1
  obtain ⟨va9, vr9, vnn, vff, vf2, vg, ⟨va9b, vr9b⟩, V1, V2, V3⟩ := hT.2.2.1
  have gt : 6 ≤ gm_tc N := by cases N <;> (unfold gm_tc; omega)
  refine q_blk (lv2 := [(0, vr q), (1, vi l)]) (st2 := [vr q]) kX10_text_0 rfl ?_
  refine q_gi eX10_text_1 fl_RX10_16 (Or.inl rfl) c0 (z := 0) rfl ?_
  refine AQ.of (AS.if_ne_f eX10_text_4 ⟨by decide, by decide⟩ (by decide) (by decide)) ?_
  obtain ⟨t1, e3t⟩ : ∃ q : Nat, h.2.1 = q := ⟨_, rfl⟩
  refine q_no (ci := 13) e3t eX10_text_7 rfl (am_gw 1282 (by decide +kernel) (by decide +kernel)) (am_gw 1283 (by decide +kernel) (by decide +kernel)) in_RJ4 (fun h2 e3c e3f e3z => ?_)
  have k4 := (e3f q (by omega)).trans c0
  have e3u : h2.2.1 = t1 + 1 := by rw [e3z]
  have e3v : h2.2.2 = h.2.2 + 4 := by rw [e3z]
  have F5 : ∀ q, q < h.2.1 → ¬ NO q → h2.1 q = h.1 q := fun q q0 q1 => (e3f q (by omega)).trans ((fun _ _ _ => rfl) q q0 q1)
  refine q_blk (lv2 := [(0, vr q), (1, vi l)]) (st2 := [vr t1, vr t1]) kX10_text_10 rfl ?_
  refine AQ.callIv (av := []) (st := [vr t1]) (c_J4_init e3c (by omega)) lk_RX10_36 (by omega) rfl rfl (Nat.le_of_ble_eq_true rfl) eX10_text_11 (fun h8 e7 => ?_)
  obtain ⟨⟨v9, v9b, v9f⟩, g10f, ⟨g10a, g10b⟩, g10c, g10d⟩ := e7
  have v9g := v9b.1.2
  have k11 := (g10f q (by omega) (by show ¬ _ = _; omega)).trans k4
  have F12 : ∀ q, q < h.2.1 → ¬ NO q → h8.1 q = h.1 q := fun q q0 q1 => (g10f q (by omega) (by show ¬ _ = _; omega)).trans (F5 q q0 q1)
  have B13 : SBL h8 t1 v9 [] := ⟨16, am_Z, v9b, fun k c q => by simp at q⟩
  refine AQ.of (AS.ldcS (i := 26) (by decide) (by decide) eX10_text_14) ?_
  have L14 := hT.2.1.st (i := 26) hT.1 (by decide)
  have L14b := (hT.2.1 26 (by decide)).1
  have L14c := L14b.1
  have L14d := L14b.2
  refine AQ.callVr (av := [vr (w.2 26)]) (st := []) (c_appS B13 (L14.mv (h1 := h8) (by omega) (F12 (w.2 26) (by omega) id) (F12 (w.2 (200 + 26)) (by omega) id)) (by omega) (by decide)) lk_RX10_39 (by omega) rfl rfl ⟨_, _, _, B13.b.2.choose_spec⟩ ⟨_, rfl, rfl⟩ (Nat.le_of_ble_eq_true rfl) eX10_text_16 (fun z15 h17 e16 => ?_)
  obtain ⟨z15e, ⟨v18, v18b, v18n⟩, g19f, ⟨g19a, g19b⟩, g19c, g19d⟩ := e16
  obtain rfl := z15e.symm
  have v18g := v18b.b.1.2
  have k20 := (g19f q (by omega) (by show ¬ (_ = _ ∨ _ = _); omega)).trans k11
  have F21 : ∀ q, q < h.2.1 → ¬ NO q → h17.1 q = h.1 q := fun q q0 q1 => (g19f q (by omega) (by show ¬ (_ = _ ∨ _ = _); omega)).trans (F12 q q0 q1)
  refine q_blk (lv2 := [(0, vr q), (1, vi l)]) (st2 := [vr q, vr t1]) kX10_text_19 rfl ?_
  refine q_gi eX10_text_20 fl_RX10_20 (Or.inl rfl) k20 (z := nb) rfl ?_
  refine AQ.callVr (av := [vi nb]) (st := []) (c_appI v18b (TXW.mv (h1 := h17) hT (by omega) (fun q hq => F21 q (by have := hT.1; omega) id)).2.2.2 n0 (by omega) (by decide)) lk_RX10_43 (by omega) rfl rfl ⟨_, _, _, v18b.b.2.choose_spec⟩ ⟨_, rfl, rfl⟩ (Nat.le_of_ble_eq_true rfl) eX10_text_23 (fun z22 h24 e23 => ?_)
  obtain ⟨z22e, ⟨v25, v25b, v25n⟩, g26f, ⟨g26a, g26b⟩, g26c, g26d⟩ := e23
  obtain rfl := z22e.symm
  have v25g := v25b.b.1.2
  have k27 := (g26f q (by omega) (by show ¬ (_ = _ ∨ _ = _); omega)).trans k20
  have F28 : ∀ q, q < h.2.1 → ¬ NO q → h24.1 q = h.1 q := fun q q0 q1 => (g26f q (by omega) (by show ¬ (_ = _ ∨ _ = _); omega)).trans (F21 q q0 q1)
  refine AQ.callVr (av := []) (st := []) (c_toS v25b (by have := gm_dl_l (n := nb); have := gm_dz_r n0; simp only [List.length_append, gm_lit_l]; have : am_len 26 = 0 := rfl; simp only [List.length_nil]; omega)) lk_RX10_46 (by omega) rfl rfl ⟨_, _, _, v25b.b.2.choose_spec⟩ ⟨_, rfl, rfl⟩ (Nat.le_of_ble_eq_true rfl) eX10_text_26 (fun z29 h31 e30 => ?_)
  obtain ⟨⟨z29v, z29t, z29a, z29b⟩, g32f, ⟨g32a, g32b⟩, g32c, g32d⟩ := e30
  have z29g := z29t.b.1
  have z29h := z29g.1
  have z29i := z29g.2
  have k33 := (g32f q (by omega) id).trans k27
  have F34 : ∀ q, q < h.2.1 → ¬ NO q → h31.1 q = h.1 q := fun q q0 q1 => (g32f q (by omega) id).trans (F28 q q0 q1)
  exact q_ra rfl eX10_text_29 ⟨z29, rfl, ⟨z29v, (by have t9 := z29t; have z9 : gm_lit 26 = [] := rfl; rw [z9] at t9; simp only [List.nil_append] at t9; exact t9), Or.inr (by omega), Or.inr (by omega)⟩, ⟨F34, ⟨by omega, by omega⟩, by omega, by omega⟩⟩

set_option maxRecDepth 4000 in
set_option maxHeartbeats 4000000 in
theorem c_X10_text1 {w : am_w} {h : AH} {bs : Nat} (hT : TXW w h bs) {N q : Nat} {nb l : Int} (c0 : h.1 q = some (9, 4, am_L [1, nb, 0, 0], am_G [none, none, none, none])) (n0 : 0 ≤ nb) (n1 : nb ≤ 4)  : AE w m_X10_text (N + 8) [vr q, vi l] h (am_ref (fun z h1 => (∃ vz, STL h1 z vz (gm_vn nb) ∧ (vz < bs ∨ h.2.1 ≤ vz) ∧ (z < bs ∨ h.2.1 ≤ z)) ∧ KF h h1 NO (gm_tc N) (3100 * gm_tc N))) := by
  refine AE.of wf_X10_text (Nat.le_of_ble_eq_true rfl) (am_ok_r) ?_
  have hbs := hT.1
  obtain ⟨va9, vr9, vnn, vff, vf2, vg, ⟨va9b, vr9b⟩, V1, V2, V3⟩ := hT.2.2.1
  refine q_blk (lv2 := [(0, vr q), (1, vi l)]) (st2 := [vr q]) kX10_text_0 rfl ?_
  refine q_gi eX10_text_1 fl_RX10_16 (Or.inl rfl) c0 (z := 1) rfl ?_
  refine AQ.of (AS.if_ne_t (tgt := 30) eX10_text_4 (by decide) ⟨by decide, by decide⟩ (by decide)) ?_
  refine q_blk (lv2 := [(0, vr q), (1, vi l)]) (st2 := [vr q]) kX10_text_30 rfl ?_
  refine q_gi eX10_text_31 fl_RX10_16 (Or.inl rfl) c0 (z := 1) rfl ?_
  refine q_blk (lv2 := [(0, vr q), (1, vi l)]) (st2 := [vi 1, vi 1]) kX10_text_34 rfl ?_
  refine AQ.of (AS.ic_ne_f eX10_text_35 ⟨by decide, by decide⟩ ⟨by decide, by decide⟩ (by decide) (by decide)) ?_
  refine AQ.of (AS.getSV eX10_text_38 V1 (Or.inr ⟨"CornerClaimsLaw", am_nw 1494 (by decide +kernel) (by decide +kernel)⟩)) ?_
  refine q_blk (lv2 := [(0, vr q), (1, vi l)]) (st2 := [vr q, vr vr9]) kX10_text_41 rfl ?_
  refine q_gi eX10_text_42 fl_RX10_20 (Or.inl rfl) c0 (z := nb) rfl ?_
  refine AQ.of (AS.aaldF eX10_text_45 V2 (by omega) (by omega)) ?_
  obtain ⟨q9, v9, g9, ⟨q9b, v9b⟩, S9⟩ := V3 nb (by omega) (by omega)
  rw [g9]
  exact q_ra rfl eX10_text_46 ⟨q9, rfl, ⟨v9, S9, Or.inl (by omega), Or.inl (by omega)⟩, ⟨(fun _ _ _ => rfl), ⟨by omega, by omega⟩, by omega, by omega⟩⟩
