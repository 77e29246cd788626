/-! The texts' world; an expression's text. -/
/-- a String with these letters -/
def STL (h : AH) (q v : Nat) (X : List Int) : Prop := ∃ b, STR h q v X.length b ∧ ∀ (k : Nat) (c : Int), X[k]? = some c → b k = c
/-- a StringBuilder with these letters -/
def SBL (h : AH) (s v : Nat) (X : List Int) : Prop := ∃ cap fb, SBD h s v cap X.length fb ∧ ∀ (k : Nat) (c : Int), X[k]? = some c → fb k = c
theorem STL.mv {h h1 : AH} {q v : Nat} {X : List Int} (hS : STL h q v X) (t : h.2.1 ≤ h1.2.1) (e1 : h1.1 q = h.1 q) (e2 : h1.1 v = h.1 v) : STL h1 q v X := by
  obtain ⟨b, a, c⟩ := hS
  exact ⟨b, a.mv t e1 e2, c⟩
theorem SBL.mv {h h1 : AH} {s v : Nat} {X : List Int} (hB : SBL h s v X) (t : h.2.1 ≤ h1.2.1) (e1 : h1.1 s = h.1 s) (e2 : h1.1 v = h.1 v) : SBL h1 s v X := by
  obtain ⟨cap, fb, a, c⟩ := hB
  exact ⟨cap, fb, a.mv t e1 e2, c⟩
theorem STL.b {h : AH} {q v : Nat} {X : List Int} (hS : STL h q v X) : (q < h.2.1 ∧ v < h.2.1) ∧ X.length ≤ 1000 ∧ ∃ nn f, h.1 q = some (112, nn, f, am_G [some v]) := by
  obtain ⟨b, ⟨a, ⟨nn, f, c⟩, -, ⟨-, d⟩, -⟩, -⟩ := hS
  exact ⟨a, by omega, nn, f, c⟩
theorem SBL.b {h : AH} {s v : Nat} {X : List Int} (hB : SBL h s v X) : (s < h.2.1 ∧ v < h.2.1) ∧ ∃ n, h.1 s = some (13, 4, am_L [0, 0, 0, n], am_G [some v, none, none, none]) := by
  obtain ⟨cap, fb, ⟨a, c, -⟩, -⟩ := hB
  exact ⟨a, _, c⟩
/-- the constants, the names, the digits: all below b -/
def LIT (w : am_w) (h : AH) (b : Nat) : Prop := ∀ i, i < am_STR.length → (w.2 i < b ∧ w.2 (200 + i) < b) ∧ (∃ nn f, h.1 (w.2 i) = some (112, nn, f, am_G [some (w.2 (200 + i))])) ∧ ∃ g, h.1 (w.2 (200 + i)) = some (111, (am_len i : Int), (fun j => am_byt i j.toNat), g)
def VRS (h : AH) (b : Nat) : Prop := ∃ a r, ∃ (nn : Int) (ff f2 : Int → Int) (g : Int → Option Nat), (a < b ∧ r < b) ∧ h.1 a = some (122, nn, ff, am_G [some r]) ∧ h.1 r = some (113, 5, f2, g) ∧ ∀ k, 0 ≤ k → k ≤ 4 → ∃ q v, g k = some q ∧ (q < b ∧ v < b) ∧ STL h q v (gm_vn k)
def TXW (w : am_w) (h : AH) (b : Nat) : Prop := b ≤ h.2.1 ∧ LIT w h b ∧ VRS h b ∧ DIG h b
theorem TXW.mv {w : am_w} {h h1 : AH} {b : Nat} (hT : TXW w h b) (t : h.2.1 ≤ h1.2.1) (F : ∀ q, q < b → h1.1 q = h.1 q) : TXW w h1 b := by
  obtain ⟨t0, l, ⟨a, r, nn, ff, f2, g, ⟨b1, b2⟩, c1, c2, v⟩, ⟨d0, a', o', t', nn', ff', f1', f2', g1', g2', ⟨e1, e2, e3⟩, k0, k1, k2, k3, k4⟩⟩ := hT
  refine ⟨by omega, fun i hi => ?_, ⟨a, r, nn, ff, f2, g, ⟨b1, b2⟩, (F _ b1).trans c1, (F _ b2).trans c2, fun k k0 k1 => ?_⟩, ⟨by omega, a', o', t', nn', ff', f1', f2', g1', g2', ⟨e1, e2, e3⟩, (F _ e1).trans k0, (F _ e2).trans k1, (F _ e3).trans k2, k3, k4⟩⟩
  · obtain ⟨⟨p1, p2⟩, ⟨nn, f, p3⟩, ⟨g, p4⟩⟩ := l i hi
    exact ⟨⟨p1, p2⟩, ⟨nn, f, (F _ p1).trans p3⟩, ⟨g, (F _ p2).trans p4⟩⟩
  · obtain ⟨q, v9, g9, ⟨q1, q2⟩, s⟩ := v k k0 k1
    exact ⟨q, v9, g9, ⟨q1, q2⟩, s.mv t (F _ q1) (F _ q2)⟩
/-- a constant's letters -/
def gm_lit (i : Nat) : List Int := (am_txt i).2.2.toList.map fun c => (c.toNat : Int)
theorem gm_lit_r : ∀ i, i < am_STR.length → am_len i < 100 ∧ ∀ j, j < am_len i → 0 ≤ am_byt i j ∧ am_byt i j < 128 := am_byt_r
theorem gm_lit_l (i : Nat) : (gm_lit i).length = am_len i := by unfold gm_lit am_len; rw [List.length_map]
theorem gm_lit_k {i k : Nat} {c : Int} (h : (gm_lit i)[k]? = some c) : am_byt i k = c := by
  unfold gm_lit at h
  rw [List.getElem?_map] at h
  unfold am_byt
  rw [List.getD_eq_getElem?_getD]
  cases e : (am_txt i).2.2.toList[k]? with
  | none => rw [e] at h; cases h
  | some x => rw [e] at h; cases h; rfl
theorem LIT.st {w : am_w} {h : AH} {b i : Nat} (hL : LIT w h b) (hb : b ≤ h.2.1) (hi : i < am_STR.length) : STL h (w.2 i) (w.2 (200 + i)) (gm_lit i) := by
  obtain ⟨⟨a1, a2⟩, ⟨nn, f, c⟩, ⟨g, c2⟩⟩ := hL i hi
  have r := am_byt_r i hi
  refine ⟨fun j => am_byt i j.toNat, ⟨⟨by omega, by omega⟩, ⟨nn, f, c⟩, ⟨111, g, Or.inr rfl, ?_⟩, ?_, fun j j0 j1 => ?_⟩, fun k c hk => ?_⟩
  · rw [gm_lit_l]; exact c2
  · rw [gm_lit_l]; omega
  · rw [gm_lit_l] at j1
    exact r.2 j.toNat (by omega)
  · show am_byt i (Int.toNat (k : Int)) = c
    rw [Int.toNat_natCast]
    exact gm_lit_k hk
section TXC
variable {w : am_w} {h : AH}
theorem gm_app_g {X Y : List Int} {f b : Int → Int} {f' : Int → Int} (hX : ∀ (k : Nat) (c : Int), X[k]? = some c → f k = c) (hY : ∀ (k : Nat) (c : Int), Y[k]? = some c → b k = c) (h1 : ∀ j, 0 ≤ j → j < (X.length : Int) → f' j = f j) (h2 : ∀ j, 0 ≤ j → j < (Y.length : Int) → f' (X.length + j) = b j) : ∀ (k : Nat) (c : Int), (X ++ Y)[k]? = some c → f' k = c := by
  intro k c hk
  by_cases q : k < X.length
  · rw [List.getElem?_append_left q] at hk
    rw [h1 k (by omega) (by omega)]
    exact hX k c hk
  · rw [List.getElem?_append_right (by omega)] at hk
    have l := (List.getElem?_eq_some_iff.mp hk).1
    have := h2 ((k - X.length : Nat) : Int) (by omega) (by omega)
    rw [show (X.length : Int) + ((k - X.length : Nat) : Int) = k by omega] at this
    rw [this]
    exact hY _ c hk
/-- a text appended to a text -/
theorem c_appS {s v q vq : Nat} {X Y : List Int} (hB : SBL h s v X) (hS : STL h q vq Y) (hne : v ≠ vq) (hl : X.length + Y.length ≤ 1000) : AE w m_J4_append_15ec4 6 [vr s, vr q] h (am_ref (fun z h1 => z = s ∧ (∃ v', SBL h1 s v' (X ++ Y) ∧ (v' = v ∨ h.2.1 ≤ v')) ∧ KF h h1 (fun q => q = s ∨ q = v) 1 3000)) := by
  obtain ⟨cap, fb, B, bx⟩ := hB
  obtain ⟨b, S, by'⟩ := hS
  refine (c_J4_appendS B S hne (by omega)).mono fun r h1 => ?_
  rintro ⟨z, rfl, rfl, ⟨v', cap', fb', B', k1, k2, n⟩, K⟩
  exact ⟨z, rfl, rfl, ⟨v', ⟨cap', fb', by rw [List.length_append]; exact B', gm_app_g bx by' k1 k2⟩, n⟩, K⟩
theorem gm_dl_l {n : Int} : ((gm_dl n).length : Int) = gm_dz n := by
  unfold gm_dl gm_dz
  split
  · rfl
  · split
    · rfl
    · split <;> rfl
theorem gm_dl_k {n : Int} (n0 : 0 ≤ n) (n1 : n < 10000) {k : Nat} {c : Int} (h : (gm_dl n)[k]? = some c) : gm_dgt n (gm_dz n - 1 - k) = c := by
  unfold gm_dl at h
  split at h
  · have hz : gm_dz n = 1 := by unfold gm_dz; rw [if_pos (by omega)]
    rw [hz]
    unfold gm_dgt
    match k, h with
    | 0, h => cases h; repeat (first | rw [if_pos (by omega)] | rw [if_neg (by omega)])
              omega
  · split at h
    · have hz : gm_dz n = 2 := by unfold gm_dz; rw [if_neg (by omega), if_pos (by omega)]
      rw [hz]
      unfold gm_dgt
      match k, h with
      | 0, h => cases h; repeat (first | rw [if_pos (by omega)] | rw [if_neg (by omega)])
                omega
      | 1, h => cases h; repeat (first | rw [if_pos (by omega)] | rw [if_neg (by omega)])
    · split at h
      · have hz : gm_dz n = 3 := by unfold gm_dz; rw [if_neg (by omega), if_neg (by omega), if_pos (by omega)]
        rw [hz]
        unfold gm_dgt
        match k, h with
        | 0, h => cases h; repeat (first | rw [if_pos (by omega)] | rw [if_neg (by omega)])
                  omega
        | 1, h => cases h; repeat (first | rw [if_pos (by omega)] | rw [if_neg (by omega)])
        | 2, h => cases h; repeat (first | rw [if_pos (by omega)] | rw [if_neg (by omega)])
      · have hz : gm_dz n = 4 := by unfold gm_dz; rw [if_neg (by omega), if_neg (by omega), if_neg (by omega)]
        rw [hz]
        unfold gm_dgt
        match k, h with
        | 0, h => cases h; repeat (first | rw [if_pos (by omega)] | rw [if_neg (by omega)])
                  omega
        | 1, h => cases h; repeat (first | rw [if_pos (by omega)] | rw [if_neg (by omega)])
        | 2, h => cases h; repeat (first | rw [if_pos (by omega)] | rw [if_neg (by omega)])
        | 3, h => cases h; repeat (first | rw [if_pos (by omega)] | rw [if_neg (by omega)])
theorem c_appI {s v bd : Nat} {X : List Int} {n : Int} (hB : SBL h s v X) (hG : DIG h bd) (n0 : 0 ≤ n) (n1 : n < 10000) (hl : X.length ≤ 900) : AE w m_J4_append_bf812 6 [vr s, vi n] h (am_ref (fun z h1 => z = s ∧ (∃ v', SBL h1 s v' (X ++ gm_dl n) ∧ (v' = v ∨ h.2.1 ≤ v')) ∧ KF h h1 (fun q => q = s ∨ q = v) 1 3000)) := by
  obtain ⟨cap, fb, B, bx⟩ := hB
  have dl := gm_dl_l (n := n)
  have dz := gm_dz_r n0
  refine (c_J4_appendI B hG n0 n1 (by omega)).mono fun r h1 => ?_
  rintro ⟨z, rfl, rfl, ⟨v', cap', fb', B', k1, k2, m⟩, K⟩
  refine ⟨z, rfl, rfl, ⟨v', ⟨cap', fb', by rw [List.length_append]; rw [show ((X.length + (gm_dl n).length : Nat) : Int) = X.length + gm_dz n by omega]; exact B', ?_⟩, m⟩, K⟩
  refine gm_app_g (b := fun j => gm_dgt n (gm_dz n - 1 - j)) bx (fun k c hk => gm_dl_k n0 n1 hk) k1 fun j j0 j1 => ?_
  have := k2 (gm_dz n - 1 - j) (by omega) (by omega)
  rw [show (X.length : Int) + gm_dz n - 1 - (gm_dz n - 1 - j) = X.length + j by omega] at this
  exact this
theorem c_toS {s v : Nat} {X : List Int} (hB : SBL h s v X) (hl : X.length ≤ 1000) : AE w m_J4_toString_0e30d 6 [vr s] h (am_ref (fun q h1 => (∃ vq, STL h1 q vq X ∧ h.2.1 ≤ q ∧ h.2.1 ≤ vq) ∧ KF h h1 NO 2 3004)) := by
  obtain ⟨cap, fb, B, bx⟩ := hB
  refine (c_J4_toString B (by omega)).mono fun r h1 => ?_
  rintro ⟨z, rfl, ⟨vq, b, S, e, f1, f2⟩, K⟩
  refine ⟨z, rfl, ⟨vq, ⟨b, S, fun k c hk => ?_⟩, f1, f2⟩, K⟩
  have l := (List.getElem?_eq_some_iff.mp hk).1
  rw [e k (by omega) (by omega)]
  exact bx k c hk
end TXC
/-- how long such a text is at most; what making it takes -/
def gm_tl : Nat → Nat
  | 0 => 7
  | d + 1 => 2 * gm_tl d + 5
def gm_tc : Nat → Nat
  | 0 => 6
  | d + 1 => 2 * gm_tc d + 14
theorem gm_wrp_l (o l : Int) (X : List Int) : (gm_wrp o l X).length ≤ X.length + 2 := by
  unfold gm_wrp
  split
  · rw [List.length_cons, List.length_append]; simp
  · omega
theorem gm_opt_l (k : Int) : (gm_opt k).length ≤ 3 := by
  unfold gm_opt
  split
  · decide
  · split
    · decide
    · split <;> decide
theorem NT.len {h : AH} {B : Nat → Prop} : ∀ {d q : Nat} {L : GL} {X : Int → List Int}, NT h B d q L X → ∀ l, (X l).length ≤ gm_tl d := by
  have leaf : ∀ {q : Nat} {L : GL} {X : Int → List Int}, NLF h B q L X → ∀ l, (X l).length ≤ 7 := by
    rintro q L X ⟨-, k, nb, c, ⟨-, n0, n1, -, rfl⟩ | ⟨-, n0, n1, -, rfl⟩⟩ l
    · have := gm_dl_l (n := nb)
      have := gm_dz_r n0
      show (gm_dl nb).length ≤ 7
      omega
    · show (gm_vn nb).length ≤ 7
      unfold gm_vn
      split
      · decide
      · split
        · decide
        · split
          · decide
          · split <;> decide
  intro d
  induction d with
  | zero => intro q L X hN l; exact leaf hN l
  | succ d ih =>
    intro q L X hN l
    rcases hN with hN | ⟨b, k, nb, l', r, L1, L2, X1, X2, hk, c, n1, n2, -, rfl⟩
    · have := leaf hN l
      have : 7 ≤ gm_tl (d + 1) := by
        have : ∀ d, 7 ≤ gm_tl d := fun d => by induction d with
          | zero => exact Nat.le_refl 7
          | succ d ih => unfold gm_tl; omega
        exact this _
      omega
    · have a := ih n1 (gm_own k)
      have b := ih n2 (gm_own k + 1)
      have c := gm_wrp_l (gm_own k) l (X1 (gm_own k) ++ gm_opt k ++ X2 (gm_own k + 1))
      have e := gm_opt_l k
      rw [List.length_append, List.length_append] at c
      show (gm_wrp _ _ _).length ≤ 2 * gm_tl d + 5
      omega

set_option maxRecDepth 4000 in
set_option maxHeartbeats 4000000 in
theorem c_X10_text0 {w : am_w} {h : AH} {bs : Nat} (hT : TXW w h bs) {N q : Nat} {nb l : Int} (c0 : h.1 q = some (9, 4, am_L [0, nb, 0, 0], am_G [none, none, none, none])) (bq : q < h.2.1) (n0 : 0 ≤ nb) (n1 : nb ≤ 9999)  : AE w m_X10_text (N + 8) [vr q, vi l] h (am_ref (fun z h1 => (∃ vz, STL h1 z vz (gm_dl nb) ∧ (vz < bs ∨ h.2.1 ≤ vz) ∧ (z < bs ∨ h.2.1 ≤ z)) ∧ KF h h1 NO (gm_tc N) (3100 * gm_tc N))) := by
  refine AE.of wf_X10_text (Nat.le_of_ble_eq_true rfl) (am_ok_r) ?_
  have hbs := hT.1
  obtain ⟨va9, vr9, vnn, vff, vf2, vg, ⟨va9b, vr9b⟩, V1, V2, V3⟩ := hT.2.2.1
  have gt : 6 ≤ gm_tc N := by cases N <;> (unfold gm_tc; omega)
  refine q_blk (lv2 := [(0, vr q), (1, vi l)]) (st2 := [vr q]) kX10_text_0 rfl ?_
  refine q_gi eX10_text_1 fl_RX10_16 (Or.inl rfl) c0 (z := 0) rfl ?_
  refine AQ.of (AS.if_ne_f eX10_text_4 ⟨by decide, by decide⟩ (by decide) (by decide)) ?_
  obtain ⟨t1, e3t⟩ : ∃ q : Nat, h.2.1 = q := ⟨_, rfl⟩
  refine q_no (ci := 13) e3t eX10_text_7 rfl (am_gw 1282 (by decide +kernel) (by decide +kernel)) (am_gw 1283 (by decide +kernel) (by decide +kernel)) in_RJ4 (fun h2 e3c e3f e3z => ?_)
  have k4 := (e3f q (by omega)).trans c0
  have e3u : h2.2.1 = t1 + 1 := by rw [e3z]
  have e3v : h2.2.2 = h.2.2 + 4 := by rw [e3z]
  have F5 : ∀ q, q < h.2.1 → ¬ NO q → h2.1 q = h.1 q := fun q q0 q1 => (e3f q (by omega)).trans ((fun _ _ _ => rfl) q q0 q1)
  refine q_blk (lv2 := [(0, vr q), (1, vi l)]) (st2 := [vr t1, vr t1]) kX10_text_10 rfl ?_
  refine AQ.callIv (av := []) (st := [vr t1]) (c_J4_init e3c (by omega)) lk_RX10_36 (by omega) rfl rfl (Nat.le_of_ble_eq_true rfl) eX10_text_11 (fun h8 e7 => ?_)
  obtain ⟨⟨v9, v9b, v9f⟩, g10f, ⟨g10a, g10b⟩, g10c, g10d⟩ := e7
  have v9g := v9b.1.2
  have k11 := (g10f q (by omega) (by show ¬ _ = _; omega)).trans k4
  have F12 : ∀ q, q < h.2.1 → ¬ NO q → h8.1 q = h.1 q := fun q q0 q1 => (g10f q (by omega) (by show ¬ _ = _; omega)).trans (F5 q q0 q1)
  have B13 : SBL h8 t1 v9 [] := ⟨16, am_Z, v9b, fun k c q => by simp at q⟩
  refine AQ.of (AS.ldcS (i := 26) (by decide) (by decide) eX10_text_14) ?_
  have L14 := hT.2.1.st (i := 26) hT.1 (by decide)
  have L14b := (hT.2.1 26 (by decide)).1
  have L14c := L14b.1
  have L14d := L14b.2
  refine AQ.callVr (av := [vr (w.2 26)]) (st := []) (c_appS B13 (L14.mv (h1 := h8) (by omega) (F12 (w.2 26) (by omega) id) (F12 (w.2 (200 + 26)) (by omega) id)) (by omega) (by decide)) lk_RX10_39 (by omega) rfl rfl ⟨_, _, _, B13.b.2.choose_spec⟩ ⟨_, rfl, rfl⟩ (Nat.le_of_ble_eq_true rfl) eX10_text_16 (fun z15 h17 e16 => ?_)
  obtain ⟨z15e, ⟨v18, v18b, v18n⟩, g19f, ⟨g19a, g19b⟩, g19c, g19d⟩ := e16
  obtain rfl := z15e.symm
  have v18g := v18b.b.1.2
  have k20 := (g19f q (by omega) (by show ¬ (_ = _ ∨ _ = _); omega)).trans k11
  have F21 : ∀ q, q < h.2.1 → ¬ NO q → h17.1 q = h.1 q := fun q q0 q1 => (g19f q (by omega) (by show ¬ (_ = _ ∨ _ = _); omega)).trans (F12 q q0 q1)
  refine q_blk (lv2 := [(0, vr q), (1, vi l)]) (st2 := [vr q, vr t1]) kX10_text_19 rfl ?_
  refine q_gi eX10_text_20 fl_RX10_20 (Or.inl rfl) k20 (z := nb) rfl ?_
  refine AQ.callVr (av := [vi nb]) (st := []) (c_appI v18b (TXW.mv (h1 := h17) hT (by omega) (fun q hq => F21 q (by have := hT.1; omega) id)).2.2.2 n0 (by omega) (by decide)) lk_RX10_43 (by omega) rfl rfl ⟨_, _, _, v18b.b.2.choose_spec⟩ ⟨_, rfl, rfl⟩ (Nat.le_of_ble_eq_true rfl) eX10_text_23 (fun z22 h24 e23 => ?_)
  obtain ⟨z22e, ⟨v25, v25b, v25n⟩, g26f, ⟨g26a, g26b⟩, g26c, g26d⟩ := e23
  obtain rfl := z22e.symm
  have v25g := v25b.b.1.2
  have k27 := (g26f q (by omega) (by show ¬ (_ = _ ∨ _ = _); omega)).trans k20
  have F28 : ∀ q, q < h.2.1 → ¬ NO q → h24.1 q = h.1 q := fun q q0 q1 => (g26f q (by omega) (by show ¬ (_ = _ ∨ _ = _); omega)).trans (F21 q q0 q1)
  refine AQ.callVr (av := []) (st := []) (c_toS v25b (by have := gm_dl_l (n := nb); have := gm_dz_r n0; simp only [List.length_append, gm_lit_l]; have : am_len 26 = 0 := rfl; simp only [List.length_nil]; omega)) lk_RX10_46 (by omega) rfl rfl ⟨_, _, _, v25b.b.2.choose_spec⟩ ⟨_, rfl, rfl⟩ (Nat.le_of_ble_eq_true rfl) eX10_text_26 (fun z29 h31 e30 => ?_)
  obtain ⟨⟨z29v, z29t, z29a, z29b⟩, g32f, ⟨g32a, g32b⟩, g32c, g32d⟩ := e30
  have z29g := z29t.b.1
  have z29h := z29g.1
  have z29i := z29g.2
  have k33 := (g32f q (by omega) id).trans k27
  have F34 : ∀ q, q < h.2.1 → ¬ NO q → h31.1 q = h.1 q := fun q q0 q1 => (g32f q (by omega) id).trans (F28 q q0 q1)
  exact q_ra rfl eX10_text_29 ⟨z29, rfl, ⟨z29v, (by have t9 := z29t; have z9 : gm_lit 26 = [] := rfl; rw [z9] at t9; simp only [List.nil_append] at t9; exact t9), Or.inr (by omega), Or.inr (by omega)⟩, ⟨F34, ⟨by omega, by omega⟩, by omega, by omega⟩⟩

set_option maxRecDepth 4000 in
set_option maxHeartbeats 4000000 in
theorem c_X10_text1 {w : am_w} {h : AH} {bs : Nat} (hT : TXW w h bs) {N q : Nat} {nb l : Int} (c0 : h.1 q = some (9, 4, am_L [1, nb, 0, 0], am_G [none, none, none, none])) (n0 : 0 ≤ nb) (n1 : nb ≤ 4)  : AE w m_X10_text (N + 8) [vr q, vi l] h (am_ref (fun z h1 => (∃ vz, STL h1 z vz (gm_vn nb) ∧ (vz < bs ∨ h.2.1 ≤ vz) ∧ (z < bs ∨ h.2.1 ≤ z)) ∧ KF h h1 NO (gm_tc N) (3100 * gm_tc N))) := by
  refine AE.of wf_X10_text (Nat.le_of_ble_eq_true rfl) (am_ok_r) ?_
  have hbs := hT.1
  obtain ⟨va9, vr9, vnn, vff, vf2, vg, ⟨va9b, vr9b⟩, V1, V2, V3⟩ := hT.2.2.1
  refine q_blk (lv2 := [(0, vr q), (1, vi l)]) (st2 := [vr q]) kX10_text_0 rfl ?_
  refine q_gi eX10_text_1 fl_RX10_16 (Or.inl rfl) c0 (z := 1) rfl ?_
  refine AQ.of (AS.if_ne_t (tgt := 30) eX10_text_4 (by decide) ⟨by decide, by decide⟩ (by decide)) ?_
  refine q_blk (lv2 := [(0, vr q), (1, vi l)]) (st2 := [vr q]) kX10_text_30 rfl ?_
  refine q_gi eX10_text_31 fl_RX10_16 (Or.inl rfl) c0 (z := 1) rfl ?_
  refine q_blk (lv2 := [(0, vr q), (1, vi l)]) (st2 := [vi 1, vi 1]) kX10_text_34 rfl ?_
  refine AQ.of (AS.ic_ne_f eX10_text_35 ⟨by decide, by decide⟩ ⟨by decide, by decide⟩ (by decide) (by decide)) ?_
  refine AQ.of (AS.getSV eX10_text_38 V1 (Or.inr ⟨"CornerClaimsLaw", am_nw 1494 (by decide +kernel) (by decide +kernel)⟩)) ?_
  refine q_blk (lv2 := [(0, vr q), (1, vi l)]) (st2 := [vr q, vr vr9]) kX10_text_41 rfl ?_
  refine q_gi eX10_text_42 fl_RX10_20 (Or.inl rfl) c0 (z := nb) rfl ?_
  refine AQ.of (AS.aaldF eX10_text_45 V2 (by omega) (by omega)) ?_
  obtain ⟨q9, v9, g9, ⟨q9b, v9b⟩, S9⟩ := V3 nb (by omega) (by omega)
  rw [g9]
  exact q_ra rfl eX10_text_46 ⟨q9, rfl, ⟨v9, S9, Or.inl (by omega), Or.inl (by omega)⟩, ⟨(fun _ _ _ => rfl), ⟨by omega, by omega⟩, by omega, by omega⟩⟩

set_option maxRecDepth 4000 in
set_option maxHeartbeats 4000000 in
theorem c_X10_textO2 {w : am_w} {h : AH} {bs : Nat} {B : Nat → Prop} {N q lq rq : Nat} {nb l : Int} {L1 L2 : GL} {X1 X2 : Int → List Int} (hT : TXW w h bs) (hBt : ∀ q, B q → q < h.2.1) (bq : B q) (c0 : h.1 q = some (9, 4, am_L [2, nb, 0, 0], am_G [none, none, some lq, some rq])) (n1 : NT h B N lq L1 X1) (n2 : NT h B N rq L2 X2) (hl : gm_tl (N + 1) ≤ 900) (hr : -100 ≤ l ∧ l ≤ 100) (ih : ∀ {h : AH} {q : Nat} {L : GL} {X : Int → List Int} {l : Int}, TXW w h bs → NT h B N q L X → (∀ q, B q → q < h.2.1) → (-100 ≤ l ∧ l ≤ 100) → AE w m_X10_text (N + 8) [vr q, vi l] h (am_ref (fun z h1 => (∃ vz, STL h1 z vz (X l) ∧ (vz < bs ∨ h.2.1 ≤ vz) ∧ (z < bs ∨ h.2.1 ≤ z)) ∧ KF h h1 NO (gm_tc N) (3100 * gm_tc N))))  : AE w m_X10_text (N + 9) [vr q, vi l] h (am_ref (fun z h1 => (∃ vz, STL h1 z vz (gm_xop 2 X1 X2 l) ∧ (vz < bs ∨ h.2.1 ≤ vz) ∧ (z < bs ∨ h.2.1 ≤ z)) ∧ KF h h1 NO (gm_tc (N + 1)) (3100 * gm_tc (N + 1)))) := by
  refine AE.of wf_X10_text (Nat.le_of_ble_eq_true rfl) (am_ok_r) ?_
  have hbs := hT.1
  obtain ⟨va9, vr9, vnn, vff, vf2, vg, ⟨va9b, vr9b⟩, V1, V2, V3⟩ := hT.2.2.1
  have bq9 := hBt q bq
  have gt : gm_tc (N + 1) = 2 * gm_tc N + 14 := rfl
  have gl : gm_tl (N + 1) = 2 * gm_tl N + 5 := rfl
  have l1 := n1.len 1
  have l2 := n2.len (1 + 1)
  have a28 : am_len 28 = (gm_opt 2).length := rfl
  have a29 := gm_opt_l 2
  have a32 : am_len 32 = 1 := rfl
  have a33 : am_len 33 = 1 := rfl
  refine q_blk (lv2 := [(0, vr q), (1, vi l)]) (st2 := [vr q]) kX10_text_0 rfl ?_
  refine q_gi eX10_text_1 fl_RX10_16 (Or.inl rfl) c0 (z := 2) rfl ?_
  refine AQ.of (AS.if_ne_t (tgt := 30) eX10_text_4 (by decide) ⟨by decide, by decide⟩ (by decide)) ?_
  refine q_blk (lv2 := [(0, vr q), (1, vi l)]) (st2 := [vr q]) kX10_text_30 rfl ?_
  refine q_gi eX10_text_31 fl_RX10_16 (Or.inl rfl) c0 (z := 2) rfl ?_
  refine q_blk (lv2 := [(0, vr q), (1, vi l)]) (st2 := [vi 1, vi 2]) kX10_text_34 rfl ?_
  refine AQ.of (AS.ic_ne_t (tgt := 47) eX10_text_35 (by decide) ⟨by decide, by decide⟩ ⟨by decide, by decide⟩ (by decide)) ?_
  refine q_blk (lv2 := [(0, vr q), (1, vi l)]) (st2 := [vr q]) kX10_text_47 rfl ?_
  refine q_gi eX10_text_48 fl_RX10_16 (Or.inl rfl) c0 (z := 2) rfl ?_
  refine q_blk (lv2 := [(0, vr q), (1, vi l)]) (st2 := [vi 4, vi 2]) kX10_text_51 rfl ?_
  refine AQ.of (AS.ic_ge_f eX10_text_52 ⟨by decide, by decide⟩ ⟨by decide, by decide⟩ (by decide) (by decide)) ?_
  refine q_blk (lv2 := [(0, vr q), (1, vi l)]) (st2 := [vi 1]) kX10_text_55 rfl ?_
  refine q_goto (tgt := 60) eX10_text_56 (by decide) ?_
  refine q_blk (lv2 := [(0, vr q), (1, vi l), (2, vi 1)]) (st2 := []) kX10_text_60 rfl ?_
  obtain ⟨t1, e3t⟩ : ∃ q : Nat, h.2.1 = q := ⟨_, rfl⟩
  refine q_no (ci := 13) e3t eX10_text_61 rfl (am_gw 1282 (by decide +kernel) (by decide +kernel)) (am_gw 1283 (by decide +kernel) (by decide +kernel)) in_RJ4 (fun h2 e3c e3f e3z => ?_)
  have k4 := (e3f q (by omega)).trans c0
  have e3u : h2.2.1 = t1 + 1 := by rw [e3z]
  have e3v : h2.2.2 = h.2.2 + 4 := by rw [e3z]
  have F5 : ∀ q, q < h.2.1 → ¬ NO q → h2.1 q = h.1 q := fun q q0 q1 => (e3f q (by omega)).trans ((fun _ _ _ => rfl) q q0 q1)
  refine q_blk (lv2 := [(0, vr q), (1, vi l), (2, vi 1)]) (st2 := [vr t1, vr t1]) kX10_text_64 rfl ?_
  refine AQ.callIv (av := []) (st := [vr t1]) (c_J4_init e3c (by omega)) lk_RX10_36 (by omega) rfl rfl (Nat.le_of_ble_eq_true rfl) eX10_text_65 (fun h8 e7 => ?_)
  obtain ⟨⟨v9, v9b, v9f⟩, g10f, ⟨g10a, g10b⟩, g10c, g10d⟩ := e7
  have v9g := v9b.1.2
  have k11 := (g10f q (by omega) (by show ¬ _ = _; omega)).trans k4
  have F12 : ∀ q, q < h.2.1 → ¬ NO q → h8.1 q = h.1 q := fun q q0 q1 => (g10f q (by omega) (by show ¬ _ = _; omega)).trans (F5 q q0 q1)
  have B13 : SBL h8 t1 v9 [] := ⟨16, am_Z, v9b, fun k c q => by simp at q⟩
  refine q_blk (lv2 := [(0, vr q), (1, vi l), (2, vi 1)]) (st2 := [vr q, vr t1]) kX10_text_68 rfl ?_
  refine q_gr eX10_text_69 fl_RX10_27 (Or.inl ⟨_, rfl⟩) k11 rfl ?_
  refine q_blk (lv2 := [(0, vr q), (1, vi l), (2, vi 1)]) (st2 := [vi 1, vr lq, vr t1]) kX10_text_72 rfl ?_
  refine AQ.callVr (av := [vi 1]) (st := [vr t1]) (ih (hT.mv (h1 := h8) (by omega) (fun q hq => F12 q (by omega) id)) (n1.mv (h1 := h8) (fun q b => F12 q (hBt q b) id) (fun q b => b)) (fun q b => by have := hBt q b; omega) ⟨by decide, by decide⟩) lk_RX10_56 (by omega) rfl rfl (n1.mv (h1 := h8) (fun q b => F12 q (hBt q b) id) (fun q b => b)).b.2 ⟨_, rfl, rfl⟩ (Nat.le_of_ble_eq_true rfl) eX10_text_73 (fun z14 h16 e15 => ?_)
  obtain ⟨⟨z14v, z14t, z14a, z14b⟩, g17f, ⟨g17a, g17b⟩, g17c, g17d⟩ := e15
  have z14g := z14t.b.1
  have z14h := z14g.1
  have z14i := z14g.2
  have k18 := (g17f q (by omega) id).trans k11
  have F19 : ∀ q, q < h.2.1 → ¬ NO q → h16.1 q = h.1 q := fun q q0 q1 => (g17f q (by omega) id).trans (F12 q q0 q1)
  have B20 := B13.mv (h1 := h16) (by omega) (g17f t1 (by omega) id) (g17f v9 (by omega) id)
  refine AQ.callVr (av := [vr z14]) (st := []) (c_appS B20 z14t (by omega) (by simp only [List.length_append, gm_lit_l, List.length_nil]; omega)) lk_RX10_39 (by omega) rfl rfl ⟨_, _, _, B20.b.2.choose_spec⟩ ⟨_, rfl, rfl⟩ (Nat.le_of_ble_eq_true rfl) eX10_text_76 (fun z21 h23 e22 => ?_)
  obtain ⟨z21e, ⟨v24, v24b, v24n⟩, g25f, ⟨g25a, g25b⟩, g25c, g25d⟩ := e22
  obtain rfl := z21e.symm
  have v24g := v24b.b.1.2
  have k26 := (g25f q (by omega) (by show ¬ (_ = _ ∨ _ = _); omega)).trans k18
  have F27 : ∀ q, q < h.2.1 → ¬ NO q → h23.1 q = h.1 q := fun q q0 q1 => (g25f q (by omega) (by show ¬ (_ = _ ∨ _ = _); omega)).trans (F19 q q0 q1)
  have T28 := z14t.mv (h1 := h23) (by omega) (g25f z14 (by omega) (by show ¬ (_ = _ ∨ _ = _); omega)) (g25f z14v (by omega) (by show ¬ (_ = _ ∨ _ = _); omega))
  refine q_blk (lv2 := [(0, vr q), (1, vi l), (2, vi 1)]) (st2 := [vr q, vr t1]) kX10_text_79 rfl ?_
  refine q_gi eX10_text_80 fl_RX10_16 (Or.inl rfl) k26 (z := 2) rfl ?_
  refine q_blk (lv2 := [(0, vr q), (1, vi l), (2, vi 1)]) (st2 := [vi 2, vi 2, vr t1]) kX10_text_83 rfl ?_
  refine AQ.of (AS.ic_ne_f eX10_text_84 ⟨by decide, by decide⟩ ⟨by decide, by decide⟩ (by decide) (by decide)) ?_
  refine AQ.of (AS.ldcS (i := 28) (by decide) (by decide) eX10_text_87) ?_
  have L29 := hT.2.1.st (i := 28) hT.1 (by decide)
  have L29b := (hT.2.1 28 (by decide)).1
  have L29c := L29b.1
  have L29d := L29b.2
  refine q_goto (tgt := 120) eX10_text_89 (by decide) ?_
  refine AQ.callVr (av := [vr (w.2 28)]) (st := []) (c_appS v24b (L29.mv (h1 := h23) (by omega) (F27 (w.2 28) (by omega) id) (F27 (w.2 (200 + 28)) (by omega) id)) (by omega) (by simp only [List.length_append, gm_lit_l, List.length_nil]; omega)) lk_RX10_39 (by omega) rfl rfl ⟨_, _, _, v24b.b.2.choose_spec⟩ ⟨_, rfl, rfl⟩ (Nat.le_of_ble_eq_true rfl) eX10_text_120 (fun z30 h32 e31 => ?_)
  obtain ⟨z30e, ⟨v33, v33b, v33n⟩, g34f, ⟨g34a, g34b⟩, g34c, g34d⟩ := e31
  obtain rfl := z30e.symm
  have v33g := v33b.b.1.2
  have k35 := (g34f q (by omega) (by show ¬ (_ = _ ∨ _ = _); omega)).trans k26
  have F36 : ∀ q, q < h.2.1 → ¬ NO q → h32.1 q = h.1 q := fun q q0 q1 => (g34f q (by omega) (by show ¬ (_ = _ ∨ _ = _); omega)).trans (F27 q q0 q1)
  have T37 := T28.mv (h1 := h32) (by omega) (g34f z14 (by omega) (by show ¬ (_ = _ ∨ _ = _); omega)) (g34f z14v (by omega) (by show ¬ (_ = _ ∨ _ = _); omega))
  refine q_blk (lv2 := [(0, vr q), (1, vi l), (2, vi 1)]) (st2 := [vr q, vr t1]) kX10_text_123 rfl ?_
  refine q_gr eX10_text_124 fl_RX10_31 (Or.inl ⟨_, rfl⟩) k35 rfl ?_
  refine q_blk (lv2 := [(0, vr q), (1, vi l), (2, vi 1)]) (st2 := [vi (1 + 1), vr rq, vr t1]) kX10_text_127 rfl ?_
  refine AQ.callVr (av := [vi (1 + 1)]) (st := [vr t1]) (ih (hT.mv (h1 := h32) (by omega) (fun q hq => F36 q (by omega) id)) (n2.mv (h1 := h32) (fun q b => F36 q (hBt q b) id) (fun q b => b)) (fun q b => by have := hBt q b; omega) ⟨by decide, by decide⟩) lk_RX10_56 (by omega) rfl rfl (n2.mv (h1 := h32) (fun q b => F36 q (hBt q b) id) (fun q b => b)).b.2 ⟨_, rfl, rfl⟩ (Nat.le_of_ble_eq_true rfl) eX10_text_130 (fun z38 h40 e39 => ?_)
  obtain ⟨⟨z38v, z38t, z38a, z38b⟩, g41f, ⟨g41a, g41b⟩, g41c, g41d⟩ := e39
  have z38g := z38t.b.1
  have z38h := z38g.1
  have z38i := z38g.2
  have k42 := (g41f q (by omega) id).trans k35
  have F43 : ∀ q, q < h.2.1 → ¬ NO q → h40.1 q = h.1 q := fun q q0 q1 => (g41f q (by omega) id).trans (F36 q q0 q1)
  have T44 := T37.mv (h1 := h40) (by omega) (g41f z14 (by omega) id) (g41f z14v (by omega) id)
  have B45 := v33b.mv (h1 := h40) (by omega) (g41f t1 (by omega) id) (g41f v33 (by omega) id)
  refine AQ.callVr (av := [vr z38]) (st := []) (c_appS B45 z38t (by omega) (by simp only [List.length_append, gm_lit_l, List.length_nil]; omega)) lk_RX10_39 (by omega) rfl rfl ⟨_, _, _, B45.b.2.choose_spec⟩ ⟨_, rfl, rfl⟩ (Nat.le_of_ble_eq_true rfl) eX10_text_133 (fun z46 h48 e47 => ?_)
  obtain ⟨z46e, ⟨v49, v49b, v49n⟩, g50f, ⟨g50a, g50b⟩, g50c, g50d⟩ := e47
  obtain rfl := z46e.symm
  have v49g := v49b.b.1.2
  have k51 := (g50f q (by omega) (by show ¬ (_ = _ ∨ _ = _); omega)).trans k42
  have F52 : ∀ q, q < h.2.1 → ¬ NO q → h48.1 q = h.1 q := fun q q0 q1 => (g50f q (by omega) (by show ¬ (_ = _ ∨ _ = _); omega)).trans (F43 q q0 q1)
  have T53 := T44.mv (h1 := h48) (by omega) (g50f z14 (by omega) (by show ¬ (_ = _ ∨ _ = _); omega)) (g50f z14v (by omega) (by show ¬ (_ = _ ∨ _ = _); omega))
  have T54 := z38t.mv (h1 := h48) (by omega) (g50f z38 (by omega) (by show ¬ (_ = _ ∨ _ = _); omega)) (g50f z38v (by omega) (by show ¬ (_ = _ ∨ _ = _); omega))
  refine AQ.callVr (av := []) (st := []) (c_toS v49b (by simp only [List.length_append, gm_lit_l, List.length_nil]; omega)) lk_RX10_46 (by omega) rfl rfl ⟨_, _, _, v49b.b.2.choose_spec⟩ ⟨_, rfl, rfl⟩ (Nat.le_of_ble_eq_true rfl) eX10_text_136 (fun z55 h57 e56 => ?_)
  obtain ⟨⟨z55v, z55t, z55a, z55b⟩, g58f, ⟨g58a, g58b⟩, g58c, g58d⟩ := e56
  have z55g := z55t.b.1
  have z55h := z55g.1
  have z55i := z55g.2
  have k59 := (g58f q (by omega) id).trans k51
  have F60 : ∀ q, q < h.2.1 → ¬ NO q → h57.1 q = h.1 q := fun q q0 q1 => (g58f q (by omega) id).trans (F52 q q0 q1)
  have T61 := T53.mv (h1 := h57) (by omega) (g58f z14 (by omega) id) (g58f z14v (by omega) id)
  have T62 := T54.mv (h1 := h57) (by omega) (g58f z38 (by omega) id) (g58f z38v (by omega) id)
  refine q_blk (lv2 := [(0, vr q), (1, vi l), (2, vi 1), (3, vr z55)]) (st2 := [vi l, vi 1]) kX10_text_139 rfl ?_
  refine AQ.ic_ge (tgt := 172) eX10_text_142 (by decide) ⟨by decide, by decide⟩ (by first | assumption | exact ⟨by omega, by omega⟩ | exact ⟨by decide, by decide⟩) (fun br63 => ?_) (fun br63 => ?_)
  · skip
    refine q_blk (lv2 := [(0, vr q), (1, vi l), (2, vi 1), (3, vr z55)]) (st2 := [vr z55]) kX10_text_172 rfl ?_
    exact q_ra rfl eX10_text_173 ⟨z55, rfl, ⟨z55v, (by have t9 := z55t; have e9 : ((([] ++ (X1 1)) ++ (gm_lit 28)) ++ (X2 (1 + 1))) = gm_xop 2 X1 X2 l := (by unfold gm_xop gm_wrp; rw [if_neg (show ¬ gm_own 2 < l by rw [show gm_own 2 = 1 from rfl]; omega), show gm_lit 28 = gm_opt 2 from rfl, show gm_own 2 = 1 from rfl]; simp only [List.nil_append, List.append_assoc, List.cons_append]); rw [e9] at t9; exact t9), Or.inr (by omega), Or.inr (by omega)⟩, ⟨F60, ⟨by omega, by omega⟩, by omega, by omega⟩⟩
  · skip
    obtain ⟨t64, e66t⟩ : ∃ q : Nat, h57.2.1 = q := ⟨_, rfl⟩
    refine q_no (ci := 13) e66t eX10_text_145 rfl (am_gw 1282 (by decide +kernel) (by decide +kernel)) (am_gw 1283 (by decide +kernel) (by decide +kernel)) in_RJ4 (fun h65 e66c e66f e66z => ?_)
    have k67 := (e66f q (by omega)).trans k59
    have e66u : h65.2.1 = t64 + 1 := by rw [e66z]
    have e66v : h65.2.2 = h57.2.2 + 4 := by rw [e66z]
    have F68 : ∀ q, q < h.2.1 → ¬ NO q → h65.1 q = h.1 q := fun q q0 q1 => (e66f q (by omega)).trans (F60 q q0 q1)
    have T69 := T61.mv (h1 := h65) (by omega) (e66f z14 (by omega)) (e66f z14v (by omega))
    have T70 := T62.mv (h1 := h65) (by omega) (e66f z38 (by omega)) (e66f z38v (by omega))
    have T71 := z55t.mv (h1 := h65) (by omega) (e66f z55 (by omega)) (e66f z55v (by omega))
    refine q_blk (lv2 := [(0, vr q), (1, vi l), (2, vi 1), (3, vr z55)]) (st2 := [vr t64, vr t64]) kX10_text_148 rfl ?_
    refine AQ.callIv (av := []) (st := [vr t64]) (c_J4_init e66c (by omega)) lk_RX10_36 (by omega) rfl rfl (Nat.le_of_ble_eq_true rfl) eX10_text_149 (fun h74 e73 => ?_)
    obtain ⟨⟨v75, v75b, v75f⟩, g76f, ⟨g76a, g76b⟩, g76c, g76d⟩ := e73
    have v75g := v75b.1.2
    have k77 := (g76f q (by omega) (by show ¬ _ = _; omega)).trans k67
    have F78 : ∀ q, q < h.2.1 → ¬ NO q → h74.1 q = h.1 q := fun q q0 q1 => (g76f q (by omega) (by show ¬ _ = _; omega)).trans (F68 q q0 q1)
    have T79 := T69.mv (h1 := h74) (by omega) (g76f z14 (by omega) (by show ¬ _ = _; omega)) (g76f z14v (by omega) (by show ¬ _ = _; omega))
    have T80 := T70.mv (h1 := h74) (by omega) (g76f z38 (by omega) (by show ¬ _ = _; omega)) (g76f z38v (by omega) (by show ¬ _ = _; omega))
    have T81 := T71.mv (h1 := h74) (by omega) (g76f z55 (by omega) (by show ¬ _ = _; omega)) (g76f z55v (by omega) (by show ¬ _ = _; omega))
    have B82 : SBL h74 t64 v75 [] := ⟨16, am_Z, v75b, fun k c q => by simp at q⟩
    refine AQ.of (AS.ldcS (i := 32) (by decide) (by decide) eX10_text_152) ?_
    have L83 := hT.2.1.st (i := 32) hT.1 (by decide)
    have L83b := (hT.2.1 32 (by decide)).1
    have L83c := L83b.1
    have L83d := L83b.2
    refine AQ.callVr (av := [vr (w.2 32)]) (st := []) (c_appS B82 (L83.mv (h1 := h74) (by omega) (F78 (w.2 32) (by omega) id) (F78 (w.2 (200 + 32)) (by omega) id)) (by omega) (by simp only [List.length_append, gm_lit_l, List.length_nil]; omega)) lk_RX10_39 (by omega) rfl rfl ⟨_, _, _, B82.b.2.choose_spec⟩ ⟨_, rfl, rfl⟩ (Nat.le_of_ble_eq_true rfl) eX10_text_154 (fun z84 h86 e85 => ?_)
    obtain ⟨z84e, ⟨v87, v87b, v87n⟩, g88f, ⟨g88a, g88b⟩, g88c, g88d⟩ := e85
    obtain rfl := z84e.symm
    have v87g := v87b.b.1.2
    have k89 := (g88f q (by omega) (by show ¬ (_ = _ ∨ _ = _); omega)).trans k77
    have F90 : ∀ q, q < h.2.1 → ¬ NO q → h86.1 q = h.1 q := fun q q0 q1 => (g88f q (by omega) (by show ¬ (_ = _ ∨ _ = _); omega)).trans (F78 q q0 q1)
    have T91 := T79.mv (h1 := h86) (by omega) (g88f z14 (by omega) (by show ¬ (_ = _ ∨ _ = _); omega)) (g88f z14v (by omega) (by show ¬ (_ = _ ∨ _ = _); omega))
    have T92 := T80.mv (h1 := h86) (by omega) (g88f z38 (by omega) (by show ¬ (_ = _ ∨ _ = _); omega)) (g88f z38v (by omega) (by show ¬ (_ = _ ∨ _ = _); omega))
    have T93 := T81.mv (h1 := h86) (by omega) (g88f z55 (by omega) (by show ¬ (_ = _ ∨ _ = _); omega)) (g88f z55v (by omega) (by show ¬ (_ = _ ∨ _ = _); omega))
    refine q_blk (lv2 := [(0, vr q), (1, vi l), (2, vi 1), (3, vr z55)]) (st2 := [vr z55, vr t64]) kX10_text_157 rfl ?_
    refine AQ.callVr (av := [vr z55]) (st := []) (c_appS v87b T93 (by omega) (by simp only [List.length_append, gm_lit_l, List.length_nil]; omega)) lk_RX10_39 (by omega) rfl rfl ⟨_, _, _, v87b.b.2.choose_spec⟩ ⟨_, rfl, rfl⟩ (Nat.le_of_ble_eq_true rfl) eX10_text_158 (fun z94 h96 e95 => ?_)
    obtain ⟨z94e, ⟨v97, v97b, v97n⟩, g98f, ⟨g98a, g98b⟩, g98c, g98d⟩ := e95
    obtain rfl := z94e.symm
    have v97g := v97b.b.1.2
    have k99 := (g98f q (by omega) (by show ¬ (_ = _ ∨ _ = _); omega)).trans k89
    have F100 : ∀ q, q < h.2.1 → ¬ NO q → h96.1 q = h.1 q := fun q q0 q1 => (g98f q (by omega) (by show ¬ (_ = _ ∨ _ = _); omega)).trans (F90 q q0 q1)
    have T101 := T91.mv (h1 := h96) (by omega) (g98f z14 (by omega) (by show ¬ (_ = _ ∨ _ = _); omega)) (g98f z14v (by omega) (by show ¬ (_ = _ ∨ _ = _); omega))
    have T102 := T92.mv (h1 := h96) (by omega) (g98f z38 (by omega) (by show ¬ (_ = _ ∨ _ = _); omega)) (g98f z38v (by omega) (by show ¬ (_ = _ ∨ _ = _); omega))
    have T103 := T93.mv (h1 := h96) (by omega) (g98f z55 (by omega) (by show ¬ (_ = _ ∨ _ = _); omega)) (g98f z55v (by omega) (by show ¬ (_ = _ ∨ _ = _); omega))
    refine AQ.of (AS.ldcS (i := 33) (by decide) (by decide) eX10_text_161) ?_
    have L104 := hT.2.1.st (i := 33) hT.1 (by decide)
    have L104b := (hT.2.1 33 (by decide)).1
    have L104c := L104b.1
    have L104d := L104b.2
    refine AQ.callVr (av := [vr (w.2 33)]) (st := []) (c_appS v97b (L104.mv (h1 := h96) (by omega) (F100 (w.2 33) (by omega) id) (F100 (w.2 (200 + 33)) (by omega) id)) (by omega) (by simp only [List.length_append, gm_lit_l, List.length_nil]; omega)) lk_RX10_39 (by omega) rfl rfl ⟨_, _, _, v97b.b.2.choose_spec⟩ ⟨_, rfl, rfl⟩ (Nat.le_of_ble_eq_true rfl) eX10_text_163 (fun z105 h107 e106 => ?_)
    obtain ⟨z105e, ⟨v108, v108b, v108n⟩, g109f, ⟨g109a, g109b⟩, g109c, g109d⟩ := e106
    obtain rfl := z105e.symm
    have v108g := v108b.b.1.2
    have k110 := (g109f q (by omega) (by show ¬ (_ = _ ∨ _ = _); omega)).trans k99
    have F111 : ∀ q, q < h.2.1 → ¬ NO q → h107.1 q = h.1 q := fun q q0 q1 => (g109f q (by omega) (by show ¬ (_ = _ ∨ _ = _); omega)).trans (F100 q q0 q1)
    have T112 := T101.mv (h1 := h107) (by omega) (g109f z14 (by omega) (by show ¬ (_ = _ ∨ _ = _); omega)) (g109f z14v (by omega) (by show ¬ (_ = _ ∨ _ = _); omega))
    have T113 := T102.mv (h1 := h107) (by omega) (g109f z38 (by omega) (by show ¬ (_ = _ ∨ _ = _); omega)) (g109f z38v (by omega) (by show ¬ (_ = _ ∨ _ = _); omega))
    have T114 := T103.mv (h1 := h107) (by omega) (g109f z55 (by omega) (by show ¬ (_ = _ ∨ _ = _); omega)) (g109f z55v (by omega) (by show ¬ (_ = _ ∨ _ = _); omega))
    refine AQ.callVr (av := []) (st := []) (c_toS v108b (by simp only [List.length_append, gm_lit_l, List.length_nil]; omega)) lk_RX10_46 (by omega) rfl rfl ⟨_, _, _, v108b.b.2.choose_spec⟩ ⟨_, rfl, rfl⟩ (Nat.le_of_ble_eq_true rfl) eX10_text_166 (fun z115 h117 e116 => ?_)
    obtain ⟨⟨z115v, z115t, z115a, z115b⟩, g118f, ⟨g118a, g118b⟩, g118c, g118d⟩ := e116
    have z115g := z115t.b.1
    have z115h := z115g.1
    have z115i := z115g.2
    have k119 := (g118f q (by omega) id).trans k110
    have F120 : ∀ q, q < h.2.1 → ¬ NO q → h117.1 q = h.1 q := fun q q0 q1 => (g118f q (by omega) id).trans (F111 q q0 q1)
    have T121 := T112.mv (h1 := h117) (by omega) (g118f z14 (by omega) id) (g118f z14v (by omega) id)
    have T122 := T113.mv (h1 := h117) (by omega) (g118f z38 (by omega) id) (g118f z38v (by omega) id)
    have T123 := T114.mv (h1 := h117) (by omega) (g118f z55 (by omega) id) (g118f z55v (by omega) id)
    refine q_goto (tgt := 173) eX10_text_169 (by decide) ?_
    exact q_ra rfl eX10_text_173 ⟨z115, rfl, ⟨z115v, (by have t9 := z115t; have e9 : ((([] ++ (gm_lit 32)) ++ ((([] ++ (X1 1)) ++ (gm_lit 28)) ++ (X2 (1 + 1)))) ++ (gm_lit 33)) = gm_xop 2 X1 X2 l := (by unfold gm_xop gm_wrp; rw [if_pos (show gm_own 2 < l by rw [show gm_own 2 = 1 from rfl]; omega), show gm_lit 32 = [40] from rfl, show gm_lit 33 = [41] from rfl, show gm_lit 28 = gm_opt 2 from rfl, show gm_own 2 = 1 from rfl]; simp only [List.nil_append, List.append_assoc, List.cons_append]); rw [e9] at t9; exact t9), Or.inr (by omega), Or.inr (by omega)⟩, ⟨F120, ⟨by omega, by omega⟩, by omega, by omega⟩⟩

set_option maxRecDepth 4000 in
set_option maxHeartbeats 4000000 in
theorem c_X10_textO3 {w : am_w} {h : AH} {bs : Nat} {B : Nat → Prop} {N q lq rq : Nat} {nb l : Int} {L1 L2 : GL} {X1 X2 : Int → List Int} (hT : TXW w h bs) (hBt : ∀ q, B q → q < h.2.1) (bq : B q) (c0 : h.1 q = some (9, 4, am_L [3, nb, 0, 0], am_G [none, none, some lq, some rq])) (n1 : NT h B N lq L1 X1) (n2 : NT h B N rq L2 X2) (hl : gm_tl (N + 1) ≤ 900) (hr : -100 ≤ l ∧ l ≤ 100) (ih : ∀ {h : AH} {q : Nat} {L : GL} {X : Int → List Int} {l : Int}, TXW w h bs → NT h B N q L X → (∀ q, B q → q < h.2.1) → (-100 ≤ l ∧ l ≤ 100) → AE w m_X10_text (N + 8) [vr q, vi l] h (am_ref (fun z h1 => (∃ vz, STL h1 z vz (X l) ∧ (vz < bs ∨ h.2.1 ≤ vz) ∧ (z < bs ∨ h.2.1 ≤ z)) ∧ KF h h1 NO (gm_tc N) (3100 * gm_tc N))))  : AE w m_X10_text (N + 9) [vr q, vi l] h (am_ref (fun z h1 => (∃ vz, STL h1 z vz (gm_xop 3 X1 X2 l) ∧ (vz < bs ∨ h.2.1 ≤ vz) ∧ (z < bs ∨ h.2.1 ≤ z)) ∧ KF h h1 NO (gm_tc (N + 1)) (3100 * gm_tc (N + 1)))) := by
  refine AE.of wf_X10_text (Nat.le_of_ble_eq_true rfl) (am_ok_r) ?_
  have hbs := hT.1
  obtain ⟨va9, vr9, vnn, vff, vf2, vg, ⟨va9b, vr9b⟩, V1, V2, V3⟩ := hT.2.2.1
  have bq9 := hBt q bq
  have gt : gm_tc (N + 1) = 2 * gm_tc N + 14 := rfl
  have gl : gm_tl (N + 1) = 2 * gm_tl N + 5 := rfl
  have l1 := n1.len 1
  have l2 := n2.len (1 + 1)
  have a28 : am_len 29 = (gm_opt 3).length := rfl
  have a29 := gm_opt_l 3
  have a32 : am_len 32 = 1 := rfl
  have a33 : am_len 33 = 1 := rfl
  refine q_blk (lv2 := [(0, vr q), (1, vi l)]) (st2 := [vr q]) kX10_text_0 rfl ?_
  refine q_gi eX10_text_1 fl_RX10_16 (Or.inl rfl) c0 (z := 3) rfl ?_
  refine AQ.of (AS.if_ne_t (tgt := 30) eX10_text_4 (by decide) ⟨by decide, by decide⟩ (by decide)) ?_
  refine q_blk (lv2 := [(0, vr q), (1, vi l)]) (st2 := [vr q]) kX10_text_30 rfl ?_
  refine q_gi eX10_text_31 fl_RX10_16 (Or.inl rfl) c0 (z := 3) rfl ?_
  refine q_blk (lv2 := [(0, vr q), (1, vi l)]) (st2 := [vi 1, vi 3]) kX10_text_34 rfl ?_
  refine AQ.of (AS.ic_ne_t (tgt := 47) eX10_text_35 (by decide) ⟨by decide, by decide⟩ ⟨by decide, by decide⟩ (by decide)) ?_
  refine q_blk (lv2 := [(0, vr q), (1, vi l)]) (st2 := [vr q]) kX10_text_47 rfl ?_
  refine q_gi eX10_text_48 fl_RX10_16 (Or.inl rfl) c0 (z := 3) rfl ?_
  refine q_blk (lv2 := [(0, vr q), (1, vi l)]) (st2 := [vi 4, vi 3]) kX10_text_51 rfl ?_
  refine AQ.of (AS.ic_ge_f eX10_text_52 ⟨by decide, by decide⟩ ⟨by decide, by decide⟩ (by decide) (by decide)) ?_
  refine q_blk (lv2 := [(0, vr q), (1, vi l)]) (st2 := [vi 1]) kX10_text_55 rfl ?_
  refine q_goto (tgt := 60) eX10_text_56 (by decide) ?_
  refine q_blk (lv2 := [(0, vr q), (1, vi l), (2, vi 1)]) (st2 := []) kX10_text_60 rfl ?_
  obtain ⟨t1, e3t⟩ : ∃ q : Nat, h.2.1 = q := ⟨_, rfl⟩
  refine q_no (ci := 13) e3t eX10_text_61 rfl (am_gw 1282 (by decide +kernel) (by decide +kernel)) (am_gw 1283 (by decide +kernel) (by decide +kernel)) in_RJ4 (fun h2 e3c e3f e3z => ?_)
  have k4 := (e3f q (by omega)).trans c0
  have e3u : h2.2.1 = t1 + 1 := by rw [e3z]
  have e3v : h2.2.2 = h.2.2 + 4 := by rw [e3z]
  have F5 : ∀ q, q < h.2.1 → ¬ NO q → h2.1 q = h.1 q := fun q q0 q1 => (e3f q (by omega)).trans ((fun _ _ _ => rfl) q q0 q1)
  refine q_blk (lv2 := [(0, vr q), (1, vi l), (2, vi 1)]) (st2 := [vr t1, vr t1]) kX10_text_64 rfl ?_
  refine AQ.callIv (av := []) (st := [vr t1]) (c_J4_init e3c (by omega)) lk_RX10_36 (by omega) rfl rfl (Nat.le_of_ble_eq_true rfl) eX10_text_65 (fun h8 e7 => ?_)
  obtain ⟨⟨v9, v9b, v9f⟩, g10f, ⟨g10a, g10b⟩, g10c, g10d⟩ := e7
  have v9g := v9b.1.2
  have k11 := (g10f q (by omega) (by show ¬ _ = _; omega)).trans k4
  have F12 : ∀ q, q < h.2.1 → ¬ NO q → h8.1 q = h.1 q := fun q q0 q1 => (g10f q (by omega) (by show ¬ _ = _; omega)).trans (F5 q q0 q1)
  have B13 : SBL h8 t1 v9 [] := ⟨16, am_Z, v9b, fun k c q => by simp at q⟩
  refine q_blk (lv2 := [(0, vr q), (1, vi l), (2, vi 1)]) (st2 := [vr q, vr t1]) kX10_text_68 rfl ?_
  refine q_gr eX10_text_69 fl_RX10_27 (Or.inl ⟨_, rfl⟩) k11 rfl ?_
  refine q_blk (lv2 := [(0, vr q), (1, vi l), (2, vi 1)]) (st2 := [vi 1, vr lq, vr t1]) kX10_text_72 rfl ?_
  refine AQ.callVr (av := [vi 1]) (st := [vr t1]) (ih (hT.mv (h1 := h8) (by omega) (fun q hq => F12 q (by omega) id)) (n1.mv (h1 := h8) (fun q b => F12 q (hBt q b) id) (fun q b => b)) (fun q b => by have := hBt q b; omega) ⟨by decide, by decide⟩) lk_RX10_56 (by omega) rfl rfl (n1.mv (h1 := h8) (fun q b => F12 q (hBt q b) id) (fun q b => b)).b.2 ⟨_, rfl, rfl⟩ (Nat.le_of_ble_eq_true rfl) eX10_text_73 (fun z14 h16 e15 => ?_)
  obtain ⟨⟨z14v, z14t, z14a, z14b⟩, g17f, ⟨g17a, g17b⟩, g17c, g17d⟩ := e15
  have z14g := z14t.b.1
  have z14h := z14g.1
  have z14i := z14g.2
  have k18 := (g17f q (by omega) id).trans k11
  have F19 : ∀ q, q < h.2.1 → ¬ NO q → h16.1 q = h.1 q := fun q q0 q1 => (g17f q (by omega) id).trans (F12 q q0 q1)
  have B20 := B13.mv (h1 := h16) (by omega) (g17f t1 (by omega) id) (g17f v9 (by omega) id)
  refine AQ.callVr (av := [vr z14]) (st := []) (c_appS B20 z14t (by omega) (by simp only [List.length_append, gm_lit_l, List.length_nil]; omega)) lk_RX10_39 (by omega) rfl rfl ⟨_, _, _, B20.b.2.choose_spec⟩ ⟨_, rfl, rfl⟩ (Nat.le_of_ble_eq_true rfl) eX10_text_76 (fun z21 h23 e22 => ?_)
  obtain ⟨z21e, ⟨v24, v24b, v24n⟩, g25f, ⟨g25a, g25b⟩, g25c, g25d⟩ := e22
  obtain rfl := z21e.symm
  have v24g := v24b.b.1.2
  have k26 := (g25f q (by omega) (by show ¬ (_ = _ ∨ _ = _); omega)).trans k18
  have F27 : ∀ q, q < h.2.1 → ¬ NO q → h23.1 q = h.1 q := fun q q0 q1 => (g25f q (by omega) (by show ¬ (_ = _ ∨ _ = _); omega)).trans (F19 q q0 q1)
  have T28 := z14t.mv (h1 := h23) (by omega) (g25f z14 (by omega) (by show ¬ (_ = _ ∨ _ = _); omega)) (g25f z14v (by omega) (by show ¬ (_ = _ ∨ _ = _); omega))
  refine q_blk (lv2 := [(0, vr q), (1, vi l), (2, vi 1)]) (st2 := [vr q, vr t1]) kX10_text_79 rfl ?_
  refine q_gi eX10_text_80 fl_RX10_16 (Or.inl rfl) k26 (z := 3) rfl ?_
  refine q_blk (lv2 := [(0, vr q), (1, vi l), (2, vi 1)]) (st2 := [vi 2, vi 3, vr t1]) kX10_text_83 rfl ?_
  refine AQ.of (AS.ic_ne_t (tgt := 92) eX10_text_84 (by decide) ⟨by decide, by decide⟩ ⟨by decide, by decide⟩ (by decide)) ?_
  refine q_blk (lv2 := [(0, vr q), (1, vi l), (2, vi 1)]) (st2 := [vr q, vr t1]) kX10_text_92 rfl ?_
  refine q_gi eX10_text_93 fl_RX10_16 (Or.inl rfl) k26 (z := 3) rfl ?_
  refine q_blk (lv2 := [(0, vr q), (1, vi l), (2, vi 1)]) (st2 := [vi 3, vi 3, vr t1]) kX10_text_96 rfl ?_
  refine AQ.of (AS.ic_ne_f eX10_text_97 ⟨by decide, by decide⟩ ⟨by decide, by decide⟩ (by decide) (by decide)) ?_
  refine AQ.of (AS.ldcS (i := 29) (by decide) (by decide) eX10_text_100) ?_
  have L29 := hT.2.1.st (i := 29) hT.1 (by decide)
  have L29b := (hT.2.1 29 (by decide)).1
  have L29c := L29b.1
  have L29d := L29b.2
  refine q_goto (tgt := 120) eX10_text_102 (by decide) ?_
  refine AQ.callVr (av := [vr (w.2 29)]) (st := []) (c_appS v24b (L29.mv (h1 := h23) (by omega) (F27 (w.2 29) (by omega) id) (F27 (w.2 (200 + 29)) (by omega) id)) (by omega) (by simp only [List.length_append, gm_lit_l, List.length_nil]; omega)) lk_RX10_39 (by omega) rfl rfl ⟨_, _, _, v24b.b.2.choose_spec⟩ ⟨_, rfl, rfl⟩ (Nat.le_of_ble_eq_true rfl) eX10_text_120 (fun z30 h32 e31 => ?_)
  obtain ⟨z30e, ⟨v33, v33b, v33n⟩, g34f, ⟨g34a, g34b⟩, g34c, g34d⟩ := e31
  obtain rfl := z30e.symm
  have v33g := v33b.b.1.2
  have k35 := (g34f q (by omega) (by show ¬ (_ = _ ∨ _ = _); omega)).trans k26
  have F36 : ∀ q, q < h.2.1 → ¬ NO q → h32.1 q = h.1 q := fun q q0 q1 => (g34f q (by omega) (by show ¬ (_ = _ ∨ _ = _); omega)).trans (F27 q q0 q1)
  have T37 := T28.mv (h1 := h32) (by omega) (g34f z14 (by omega) (by show ¬ (_ = _ ∨ _ = _); omega)) (g34f z14v (by omega) (by show ¬ (_ = _ ∨ _ = _); omega))
  refine q_blk (lv2 := [(0, vr q), (1, vi l), (2, vi 1)]) (st2 := [vr q, vr t1]) kX10_text_123 rfl ?_
  refine q_gr eX10_text_124 fl_RX10_31 (Or.inl ⟨_, rfl⟩) k35 rfl ?_
  refine q_blk (lv2 := [(0, vr q), (1, vi l), (2, vi 1)]) (st2 := [vi (1 + 1), vr rq, vr t1]) kX10_text_127 rfl ?_
  refine AQ.callVr (av := [vi (1 + 1)]) (st := [vr t1]) (ih (hT.mv (h1 := h32) (by omega) (fun q hq => F36 q (by omega) id)) (n2.mv (h1 := h32) (fun q b => F36 q (hBt q b) id) (fun q b => b)) (fun q b => by have := hBt q b; omega) ⟨by decide, by decide⟩) lk_RX10_56 (by omega) rfl rfl (n2.mv (h1 := h32) (fun q b => F36 q (hBt q b) id) (fun q b => b)).b.2 ⟨_, rfl, rfl⟩ (Nat.le_of_ble_eq_true rfl) eX10_text_130 (fun z38 h40 e39 => ?_)
  obtain ⟨⟨z38v, z38t, z38a, z38b⟩, g41f, ⟨g41a, g41b⟩, g41c, g41d⟩ := e39
  have z38g := z38t.b.1
  have z38h := z38g.1
  have z38i := z38g.2
  have k42 := (g41f q (by omega) id).trans k35
  have F43 : ∀ q, q < h.2.1 → ¬ NO q → h40.1 q = h.1 q := fun q q0 q1 => (g41f q (by omega) id).trans (F36 q q0 q1)
  have T44 := T37.mv (h1 := h40) (by omega) (g41f z14 (by omega) id) (g41f z14v (by omega) id)
  have B45 := v33b.mv (h1 := h40) (by omega) (g41f t1 (by omega) id) (g41f v33 (by omega) id)
  refine AQ.callVr (av := [vr z38]) (st := []) (c_appS B45 z38t (by omega) (by simp only [List.length_append, gm_lit_l, List.length_nil]; omega)) lk_RX10_39 (by omega) rfl rfl ⟨_, _, _, B45.b.2.choose_spec⟩ ⟨_, rfl, rfl⟩ (Nat.le_of_ble_eq_true rfl) eX10_text_133 (fun z46 h48 e47 => ?_)
  obtain ⟨z46e, ⟨v49, v49b, v49n⟩, g50f, ⟨g50a, g50b⟩, g50c, g50d⟩ := e47
  obtain rfl := z46e.symm
  have v49g := v49b.b.1.2
  have k51 := (g50f q (by omega) (by show ¬ (_ = _ ∨ _ = _); omega)).trans k42
  have F52 : ∀ q, q < h.2.1 → ¬ NO q → h48.1 q = h.1 q := fun q q0 q1 => (g50f q (by omega) (by show ¬ (_ = _ ∨ _ = _); omega)).trans (F43 q q0 q1)
  have T53 := T44.mv (h1 := h48) (by omega) (g50f z14 (by omega) (by show ¬ (_ = _ ∨ _ = _); omega)) (g50f z14v (by omega) (by show ¬ (_ = _ ∨ _ = _); omega))
  have T54 := z38t.mv (h1 := h48) (by omega) (g50f z38 (by omega) (by show ¬ (_ = _ ∨ _ = _); omega)) (g50f z38v (by omega) (by show ¬ (_ = _ ∨ _ = _); omega))
  refine AQ.callVr (av := []) (st := []) (c_toS v49b (by simp only [List.length_append, gm_lit_l, List.length_nil]; omega)) lk_RX10_46 (by omega) rfl rfl ⟨_, _, _, v49b.b.2.choose_spec⟩ ⟨_, rfl, rfl⟩ (Nat.le_of_ble_eq_true rfl) eX10_text_136 (fun z55 h57 e56 => ?_)
  obtain ⟨⟨z55v, z55t, z55a, z55b⟩, g58f, ⟨g58a, g58b⟩, g58c, g58d⟩ := e56
  have z55g := z55t.b.1
  have z55h := z55g.1
  have z55i := z55g.2
  have k59 := (g58f q (by omega) id).trans k51
  have F60 : ∀ q, q < h.2.1 → ¬ NO q → h57.1 q = h.1 q := fun q q0 q1 => (g58f q (by omega) id).trans (F52 q q0 q1)
  have T61 := T53.mv (h1 := h57) (by omega) (g58f z14 (by omega) id) (g58f z14v (by omega) id)
  have T62 := T54.mv (h1 := h57) (by omega) (g58f z38 (by omega) id) (g58f z38v (by omega) id)
  refine q_blk (lv2 := [(0, vr q), (1, vi l), (2, vi 1), (3, vr z55)]) (st2 := [vi l, vi 1]) kX10_text_139 rfl ?_
  refine AQ.ic_ge (tgt := 172) eX10_text_142 (by decide) ⟨by decide, by decide⟩ (by first | assumption | exact ⟨by omega, by omega⟩ | exact ⟨by decide, by decide⟩) (fun br63 => ?_) (fun br63 => ?_)
  · skip
    refine q_blk (lv2 := [(0, vr q), (1, vi l), (2, vi 1), (3, vr z55)]) (st2 := [vr z55]) kX10_text_172 rfl ?_
    exact q_ra rfl eX10_text_173 ⟨z55, rfl, ⟨z55v, (by have t9 := z55t; have e9 : ((([] ++ (X1 1)) ++ (gm_lit 29)) ++ (X2 (1 + 1))) = gm_xop 3 X1 X2 l := (by unfold gm_xop gm_wrp; rw [if_neg (show ¬ gm_own 3 < l by rw [show gm_own 3 = 1 from rfl]; omega), show gm_lit 29 = gm_opt 3 from rfl, show gm_own 3 = 1 from rfl]; simp only [List.nil_append, List.append_assoc, List.cons_append]); rw [e9] at t9; exact t9), Or.inr (by omega), Or.inr (by omega)⟩, ⟨F60, ⟨by omega, by omega⟩, by omega, by omega⟩⟩
  · skip
    obtain ⟨t64, e66t⟩ : ∃ q : Nat, h57.2.1 = q := ⟨_, rfl⟩
    refine q_no (ci := 13) e66t eX10_text_145 rfl (am_gw 1282 (by decide +kernel) (by decide +kernel)) (am_gw 1283 (by decide +kernel) (by decide +kernel)) in_RJ4 (fun h65 e66c e66f e66z => ?_)
    have k67 := (e66f q (by omega)).trans k59
    have e66u : h65.2.1 = t64 + 1 := by rw [e66z]
    have e66v : h65.2.2 = h57.2.2 + 4 := by rw [e66z]
    have F68 : ∀ q, q < h.2.1 → ¬ NO q → h65.1 q = h.1 q := fun q q0 q1 => (e66f q (by omega)).trans (F60 q q0 q1)
    have T69 := T61.mv (h1 := h65) (by omega) (e66f z14 (by omega)) (e66f z14v (by omega))
    have T70 := T62.mv (h1 := h65) (by omega) (e66f z38 (by omega)) (e66f z38v (by omega))
    have T71 := z55t.mv (h1 := h65) (by omega) (e66f z55 (by omega)) (e66f z55v (by omega))
    refine q_blk (lv2 := [(0, vr q), (1, vi l), (2, vi 1), (3, vr z55)]) (st2 := [vr t64, vr t64]) kX10_text_148 rfl ?_
    refine AQ.callIv (av := []) (st := [vr t64]) (c_J4_init e66c (by omega)) lk_RX10_36 (by omega) rfl rfl (Nat.le_of_ble_eq_true rfl) eX10_text_149 (fun h74 e73 => ?_)
    obtain ⟨⟨v75, v75b, v75f⟩, g76f, ⟨g76a, g76b⟩, g76c, g76d⟩ := e73
    have v75g := v75b.1.2
    have k77 := (g76f q (by omega) (by show ¬ _ = _; omega)).trans k67
    have F78 : ∀ q, q < h.2.1 → ¬ NO q → h74.1 q = h.1 q := fun q q0 q1 => (g76f q (by omega) (by show ¬ _ = _; omega)).trans (F68 q q0 q1)
    have T79 := T69.mv (h1 := h74) (by omega) (g76f z14 (by omega) (by show ¬ _ = _; omega)) (g76f z14v (by omega) (by show ¬ _ = _; omega))
    have T80 := T70.mv (h1 := h74) (by omega) (g76f z38 (by omega) (by show ¬ _ = _; omega)) (g76f z38v (by omega) (by show ¬ _ = _; omega))
    have T81 := T71.mv (h1 := h74) (by omega) (g76f z55 (by omega) (by show ¬ _ = _; omega)) (g76f z55v (by omega) (by show ¬ _ = _; omega))
    have B82 : SBL h74 t64 v75 [] := ⟨16, am_Z, v75b, fun k c q => by simp at q⟩
    refine AQ.of (AS.ldcS (i := 32) (by decide) (by decide) eX10_text_152) ?_
    have L83 := hT.2.1.st (i := 32) hT.1 (by decide)
    have L83b := (hT.2.1 32 (by decide)).1
    have L83c := L83b.1
    have L83d := L83b.2
    refine AQ.callVr (av := [vr (w.2 32)]) (st := []) (c_appS B82 (L83.mv (h1 := h74) (by omega) (F78 (w.2 32) (by omega) id) (F78 (w.2 (200 + 32)) (by omega) id)) (by omega) (by simp only [List.length_append, gm_lit_l, List.length_nil]; omega)) lk_RX10_39 (by omega) rfl rfl ⟨_, _, _, B82.b.2.choose_spec⟩ ⟨_, rfl, rfl⟩ (Nat.le_of_ble_eq_true rfl) eX10_text_154 (fun z84 h86 e85 => ?_)
    obtain ⟨z84e, ⟨v87, v87b, v87n⟩, g88f, ⟨g88a, g88b⟩, g88c, g88d⟩ := e85
    obtain rfl := z84e.symm
    have v87g := v87b.b.1.2
    have k89 := (g88f q (by omega) (by show ¬ (_ = _ ∨ _ = _); omega)).trans k77
    have F90 : ∀ q, q < h.2.1 → ¬ NO q → h86.1 q = h.1 q := fun q q0 q1 => (g88f q (by omega) (by show ¬ (_ = _ ∨ _ = _); omega)).trans (F78 q q0 q1)
    have T91 := T79.mv (h1 := h86) (by omega) (g88f z14 (by omega) (by show ¬ (_ = _ ∨ _ = _); omega)) (g88f z14v (by omega) (by show ¬ (_ = _ ∨ _ = _); omega))
    have T92 := T80.mv (h1 := h86) (by omega) (g88f z38 (by omega) (by show ¬ (_ = _ ∨ _ = _); omega)) (g88f z38v (by omega) (by show ¬ (_ = _ ∨ _ = _); omega))
    have T93 := T81.mv (h1 := h86) (by omega) (g88f z55 (by omega) (by show ¬ (_ = _ ∨ _ = _); omega)) (g88f z55v (by omega) (by show ¬ (_ = _ ∨ _ = _); omega))
    refine q_blk (lv2 := [(0, vr q), (1, vi l), (2, vi 1), (3, vr z55)]) (st2 := [vr z55, vr t64]) kX10_text_157 rfl ?_
    refine AQ.callVr (av := [vr z55]) (st := []) (c_appS v87b T93 (by omega) (by simp only [List.length_append, gm_lit_l, List.length_nil]; omega)) lk_RX10_39 (by omega) rfl rfl ⟨_, _, _, v87b.b.2.choose_spec⟩ ⟨_, rfl, rfl⟩ (Nat.le_of_ble_eq_true rfl) eX10_text_158 (fun z94 h96 e95 => ?_)
    obtain ⟨z94e, ⟨v97, v97b, v97n⟩, g98f, ⟨g98a, g98b⟩, g98c, g98d⟩ := e95
    obtain rfl := z94e.symm
    have v97g := v97b.b.1.2
    have k99 := (g98f q (by omega) (by show ¬ (_ = _ ∨ _ = _); omega)).trans k89
    have F100 : ∀ q, q < h.2.1 → ¬ NO q → h96.1 q = h.1 q := fun q q0 q1 => (g98f q (by omega) (by show ¬ (_ = _ ∨ _ = _); omega)).trans (F90 q q0 q1)
    have T101 := T91.mv (h1 := h96) (by omega) (g98f z14 (by omega) (by show ¬ (_ = _ ∨ _ = _); omega)) (g98f z14v (by omega) (by show ¬ (_ = _ ∨ _ = _); omega))
    have T102 := T92.mv (h1 := h96) (by omega) (g98f z38 (by omega) (by show ¬ (_ = _ ∨ _ = _); omega)) (g98f z38v (by omega) (by show ¬ (_ = _ ∨ _ = _); omega))
    have T103 := T93.mv (h1 := h96) (by omega) (g98f z55 (by omega) (by show ¬ (_ = _ ∨ _ = _); omega)) (g98f z55v (by omega) (by show ¬ (_ = _ ∨ _ = _); omega))
    refine AQ.of (AS.ldcS (i := 33) (by decide) (by decide) eX10_text_161) ?_
    have L104 := hT.2.1.st (i := 33) hT.1 (by decide)
    have L104b := (hT.2.1 33 (by decide)).1
    have L104c := L104b.1
    have L104d := L104b.2
    refine AQ.callVr (av := [vr (w.2 33)]) (st := []) (c_appS v97b (L104.mv (h1 := h96) (by omega) (F100 (w.2 33) (by omega) id) (F100 (w.2 (200 + 33)) (by omega) id)) (by omega) (by simp only [List.length_append, gm_lit_l, List.length_nil]; omega)) lk_RX10_39 (by omega) rfl rfl ⟨_, _, _, v97b.b.2.choose_spec⟩ ⟨_, rfl, rfl⟩ (Nat.le_of_ble_eq_true rfl) eX10_text_163 (fun z105 h107 e106 => ?_)
    obtain ⟨z105e, ⟨v108, v108b, v108n⟩, g109f, ⟨g109a, g109b⟩, g109c, g109d⟩ := e106
    obtain rfl := z105e.symm
    have v108g := v108b.b.1.2
    have k110 := (g109f q (by omega) (by show ¬ (_ = _ ∨ _ = _); omega)).trans k99
    have F111 : ∀ q, q < h.2.1 → ¬ NO q → h107.1 q = h.1 q := fun q q0 q1 => (g109f q (by omega) (by show ¬ (_ = _ ∨ _ = _); omega)).trans (F100 q q0 q1)
    have T112 := T101.mv (h1 := h107) (by omega) (g109f z14 (by omega) (by show ¬ (_ = _ ∨ _ = _); omega)) (g109f z14v (by omega) (by show ¬ (_ = _ ∨ _ = _); omega))
    have T113 := T102.mv (h1 := h107) (by omega) (g109f z38 (by omega) (by show ¬ (_ = _ ∨ _ = _); omega)) (g109f z38v (by omega) (by show ¬ (_ = _ ∨ _ = _); omega))
    have T114 := T103.mv (h1 := h107) (by omega) (g109f z55 (by omega) (by show ¬ (_ = _ ∨ _ = _); omega)) (g109f z55v (by omega) (by show ¬ (_ = _ ∨ _ = _); omega))
    refine AQ.callVr (av := []) (st := []) (c_toS v108b (by simp only [List.length_append, gm_lit_l, List.length_nil]; omega)) lk_RX10_46 (by omega) rfl rfl ⟨_, _, _, v108b.b.2.choose_spec⟩ ⟨_, rfl, rfl⟩ (Nat.le_of_ble_eq_true rfl) eX10_text_166 (fun z115 h117 e116 => ?_)
    obtain ⟨⟨z115v, z115t, z115a, z115b⟩, g118f, ⟨g118a, g118b⟩, g118c, g118d⟩ := e116
    have z115g := z115t.b.1
    have z115h := z115g.1
    have z115i := z115g.2
    have k119 := (g118f q (by omega) id).trans k110
    have F120 : ∀ q, q < h.2.1 → ¬ NO q → h117.1 q = h.1 q := fun q q0 q1 => (g118f q (by omega) id).trans (F111 q q0 q1)
    have T121 := T112.mv (h1 := h117) (by omega) (g118f z14 (by omega) id) (g118f z14v (by omega) id)
    have T122 := T113.mv (h1 := h117) (by omega) (g118f z38 (by omega) id) (g118f z38v (by omega) id)
    have T123 := T114.mv (h1 := h117) (by omega) (g118f z55 (by omega) id) (g118f z55v (by omega) id)
    refine q_goto (tgt := 173) eX10_text_169 (by decide) ?_
    exact q_ra rfl eX10_text_173 ⟨z115, rfl, ⟨z115v, (by have t9 := z115t; have e9 : ((([] ++ (gm_lit 32)) ++ ((([] ++ (X1 1)) ++ (gm_lit 29)) ++ (X2 (1 + 1)))) ++ (gm_lit 33)) = gm_xop 3 X1 X2 l := (by unfold gm_xop gm_wrp; rw [if_pos (show gm_own 3 < l by rw [show gm_own 3 = 1 from rfl]; omega), show gm_lit 32 = [40] from rfl, show gm_lit 33 = [41] from rfl, show gm_lit 29 = gm_opt 3 from rfl, show gm_own 3 = 1 from rfl]; simp only [List.nil_append, List.append_assoc, List.cons_append]); rw [e9] at t9; exact t9), Or.inr (by omega), Or.inr (by omega)⟩, ⟨F120, ⟨by omega, by omega⟩, by omega, by omega⟩⟩

set_option maxRecDepth 4000 in
set_option maxHeartbeats 4000000 in
theorem c_X10_textO4 {w : am_w} {h : AH} {bs : Nat} {B : Nat → Prop} {N q lq rq : Nat} {nb l : Int} {L1 L2 : GL} {X1 X2 : Int → List Int} (hT : TXW w h bs) (hBt : ∀ q, B q → q < h.2.1) (bq : B q) (c0 : h.1 q = some (9, 4, am_L [4, nb, 0, 0], am_G [none, none, some lq, some rq])) (n1 : NT h B N lq L1 X1) (n2 : NT h B N rq L2 X2) (hl : gm_tl (N + 1) ≤ 900) (hr : -100 ≤ l ∧ l ≤ 100) (ih : ∀ {h : AH} {q : Nat} {L : GL} {X : Int → List Int} {l : Int}, TXW w h bs → NT h B N q L X → (∀ q, B q → q < h.2.1) → (-100 ≤ l ∧ l ≤ 100) → AE w m_X10_text (N + 8) [vr q, vi l] h (am_ref (fun z h1 => (∃ vz, STL h1 z vz (X l) ∧ (vz < bs ∨ h.2.1 ≤ vz) ∧ (z < bs ∨ h.2.1 ≤ z)) ∧ KF h h1 NO (gm_tc N) (3100 * gm_tc N))))  : AE w m_X10_text (N + 9) [vr q, vi l] h (am_ref (fun z h1 => (∃ vz, STL h1 z vz (gm_xop 4 X1 X2 l) ∧ (vz < bs ∨ h.2.1 ≤ vz) ∧ (z < bs ∨ h.2.1 ≤ z)) ∧ KF h h1 NO (gm_tc (N + 1)) (3100 * gm_tc (N + 1)))) := by
  refine AE.of wf_X10_text (Nat.le_of_ble_eq_true rfl) (am_ok_r) ?_
  have hbs := hT.1
  obtain ⟨va9, vr9, vnn, vff, vf2, vg, ⟨va9b, vr9b⟩, V1, V2, V3⟩ := hT.2.2.1
  have bq9 := hBt q bq
  have gt : gm_tc (N + 1) = 2 * gm_tc N + 14 := rfl
  have gl : gm_tl (N + 1) = 2 * gm_tl N + 5 := rfl
  have l1 := n1.len 2
  have l2 := n2.len (2 + 1)
  have a28 : am_len 30 = (gm_opt 4).length := rfl
  have a29 := gm_opt_l 4
  have a32 : am_len 32 = 1 := rfl
  have a33 : am_len 33 = 1 := rfl
  refine q_blk (lv2 := [(0, vr q), (1, vi l)]) (st2 := [vr q]) kX10_text_0 rfl ?_
  refine q_gi eX10_text_1 fl_RX10_16 (Or.inl rfl) c0 (z := 4) rfl ?_
  refine AQ.of (AS.if_ne_t (tgt := 30) eX10_text_4 (by decide) ⟨by decide, by decide⟩ (by decide)) ?_
  refine q_blk (lv2 := [(0, vr q), (1, vi l)]) (st2 := [vr q]) kX10_text_30 rfl ?_
  refine q_gi eX10_text_31 fl_RX10_16 (Or.inl rfl) c0 (z := 4) rfl ?_
  refine q_blk (lv2 := [(0, vr q), (1, vi l)]) (st2 := [vi 1, vi 4]) kX10_text_34 rfl ?_
  refine AQ.of (AS.ic_ne_t (tgt := 47) eX10_text_35 (by decide) ⟨by decide, by decide⟩ ⟨by decide, by decide⟩ (by decide)) ?_
  refine q_blk (lv2 := [(0, vr q), (1, vi l)]) (st2 := [vr q]) kX10_text_47 rfl ?_
  refine q_gi eX10_text_48 fl_RX10_16 (Or.inl rfl) c0 (z := 4) rfl ?_
  refine q_blk (lv2 := [(0, vr q), (1, vi l)]) (st2 := [vi 4, vi 4]) kX10_text_51 rfl ?_
  refine AQ.of (AS.ic_ge_t (tgt := 59) eX10_text_52 (by decide) ⟨by decide, by decide⟩ ⟨by decide, by decide⟩ (by decide)) ?_
  refine q_blk (lv2 := [(0, vr q), (1, vi l)]) (st2 := [vi 2]) kX10_text_59 rfl ?_
  refine q_blk (lv2 := [(0, vr q), (1, vi l), (2, vi 2)]) (st2 := []) kX10_text_60 rfl ?_
  obtain ⟨t1, e3t⟩ : ∃ q : Nat, h.2.1 = q := ⟨_, rfl⟩
  refine q_no (ci := 13) e3t eX10_text_61 rfl (am_gw 1282 (by decide +kernel) (by decide +kernel)) (am_gw 1283 (by decide +kernel) (by decide +kernel)) in_RJ4 (fun h2 e3c e3f e3z => ?_)
  have k4 := (e3f q (by omega)).trans c0
  have e3u : h2.2.1 = t1 + 1 := by rw [e3z]
  have e3v : h2.2.2 = h.2.2 + 4 := by rw [e3z]
  have F5 : ∀ q, q < h.2.1 → ¬ NO q → h2.1 q = h.1 q := fun q q0 q1 => (e3f q (by omega)).trans ((fun _ _ _ => rfl) q q0 q1)
  refine q_blk (lv2 := [(0, vr q), (1, vi l), (2, vi 2)]) (st2 := [vr t1, vr t1]) kX10_text_64 rfl ?_
  refine AQ.callIv (av := []) (st := [vr t1]) (c_J4_init e3c (by omega)) lk_RX10_36 (by omega) rfl rfl (Nat.le_of_ble_eq_true rfl) eX10_text_65 (fun h8 e7 => ?_)
  obtain ⟨⟨v9, v9b, v9f⟩, g10f, ⟨g10a, g10b⟩, g10c, g10d⟩ := e7
  have v9g := v9b.1.2
  have k11 := (g10f q (by omega) (by show ¬ _ = _; omega)).trans k4
  have F12 : ∀ q, q < h.2.1 → ¬ NO q → h8.1 q = h.1 q := fun q q0 q1 => (g10f q (by omega) (by show ¬ _ = _; omega)).trans (F5 q q0 q1)
  have B13 : SBL h8 t1 v9 [] := ⟨16, am_Z, v9b, fun k c q => by simp at q⟩
  refine q_blk (lv2 := [(0, vr q), (1, vi l), (2, vi 2)]) (st2 := [vr q, vr t1]) kX10_text_68 rfl ?_
  refine q_gr eX10_text_69 fl_RX10_27 (Or.inl ⟨_, rfl⟩) k11 rfl ?_
  refine q_blk (lv2 := [(0, vr q), (1, vi l), (2, vi 2)]) (st2 := [vi 2, vr lq, vr t1]) kX10_text_72 rfl ?_
  refine AQ.callVr (av := [vi 2]) (st := [vr t1]) (ih (hT.mv (h1 := h8) (by omega) (fun q hq => F12 q (by omega) id)) (n1.mv (h1 := h8) (fun q b => F12 q (hBt q b) id) (fun q b => b)) (fun q b => by have := hBt q b; omega) ⟨by decide, by decide⟩) lk_RX10_56 (by omega) rfl rfl (n1.mv (h1 := h8) (fun q b => F12 q (hBt q b) id) (fun q b => b)).b.2 ⟨_, rfl, rfl⟩ (Nat.le_of_ble_eq_true rfl) eX10_text_73 (fun z14 h16 e15 => ?_)
  obtain ⟨⟨z14v, z14t, z14a, z14b⟩, g17f, ⟨g17a, g17b⟩, g17c, g17d⟩ := e15
  have z14g := z14t.b.1
  have z14h := z14g.1
  have z14i := z14g.2
  have k18 := (g17f q (by omega) id).trans k11
  have F19 : ∀ q, q < h.2.1 → ¬ NO q → h16.1 q = h.1 q := fun q q0 q1 => (g17f q (by omega) id).trans (F12 q q0 q1)
  have B20 := B13.mv (h1 := h16) (by omega) (g17f t1 (by omega) id) (g17f v9 (by omega) id)
  refine AQ.callVr (av := [vr z14]) (st := []) (c_appS B20 z14t (by omega) (by simp only [List.length_append, gm_lit_l, List.length_nil]; omega)) lk_RX10_39 (by omega) rfl rfl ⟨_, _, _, B20.b.2.choose_spec⟩ ⟨_, rfl, rfl⟩ (Nat.le_of_ble_eq_true rfl) eX10_text_76 (fun z21 h23 e22 => ?_)
  obtain ⟨z21e, ⟨v24, v24b, v24n⟩, g25f, ⟨g25a, g25b⟩, g25c, g25d⟩ := e22
  obtain rfl := z21e.symm
  have v24g := v24b.b.1.2
  have k26 := (g25f q (by omega) (by show ¬ (_ = _ ∨ _ = _); omega)).trans k18
  have F27 : ∀ q, q < h.2.1 → ¬ NO q → h23.1 q = h.1 q := fun q q0 q1 => (g25f q (by omega) (by show ¬ (_ = _ ∨ _ = _); omega)).trans (F19 q q0 q1)
  have T28 := z14t.mv (h1 := h23) (by omega) (g25f z14 (by omega) (by show ¬ (_ = _ ∨ _ = _); omega)) (g25f z14v (by omega) (by show ¬ (_ = _ ∨ _ = _); omega))
  refine q_blk (lv2 := [(0, vr q), (1, vi l), (2, vi 2)]) (st2 := [vr q, vr t1]) kX10_text_79 rfl ?_
  refine q_gi eX10_text_80 fl_RX10_16 (Or.inl rfl) k26 (z := 4) rfl ?_
  refine q_blk (lv2 := [(0, vr q), (1, vi l), (2, vi 2)]) (st2 := [vi 2, vi 4, vr t1]) kX10_text_83 rfl ?_
  refine AQ.of (AS.ic_ne_t (tgt := 92) eX10_text_84 (by decide) ⟨by decide, by decide⟩ ⟨by decide, by decide⟩ (by decide)) ?_
  refine q_blk (lv2 := [(0, vr q), (1, vi l), (2, vi 2)]) (st2 := [vr q, vr t1]) kX10_text_92 rfl ?_
  refine q_gi eX10_text_93 fl_RX10_16 (Or.inl rfl) k26 (z := 4) rfl ?_
  refine q_blk (lv2 := [(0, vr q), (1, vi l), (2, vi 2)]) (st2 := [vi 3, vi 4, vr t1]) kX10_text_96 rfl ?_
  refine AQ.of (AS.ic_ne_t (tgt := 105) eX10_text_97 (by decide) ⟨by decide, by decide⟩ ⟨by decide, by decide⟩ (by decide)) ?_
  refine q_blk (lv2 := [(0, vr q), (1, vi l), (2, vi 2)]) (st2 := [vr q, vr t1]) kX10_text_105 rfl ?_
  refine q_gi eX10_text_106 fl_RX10_16 (Or.inl rfl) k26 (z := 4) rfl ?_
  refine q_blk (lv2 := [(0, vr q), (1, vi l), (2, vi 2)]) (st2 := [vi 4, vi 4, vr t1]) kX10_text_109 rfl ?_
  refine AQ.of (AS.ic_ne_f eX10_text_110 ⟨by decide, by decide⟩ ⟨by decide, by decide⟩ (by decide) (by decide)) ?_
  refine AQ.of (AS.ldcS (i := 30) (by decide) (by decide) eX10_text_113) ?_
  have L29 := hT.2.1.st (i := 30) hT.1 (by decide)
  have L29b := (hT.2.1 30 (by decide)).1
  have L29c := L29b.1
  have L29d := L29b.2
  refine q_goto (tgt := 120) eX10_text_115 (by decide) ?_
  refine AQ.callVr (av := [vr (w.2 30)]) (st := []) (c_appS v24b (L29.mv (h1 := h23) (by omega) (F27 (w.2 30) (by omega) id) (F27 (w.2 (200 + 30)) (by omega) id)) (by omega) (by simp only [List.length_append, gm_lit_l, List.length_nil]; omega)) lk_RX10_39 (by omega) rfl rfl ⟨_, _, _, v24b.b.2.choose_spec⟩ ⟨_, rfl, rfl⟩ (Nat.le_of_ble_eq_true rfl) eX10_text_120 (fun z30 h32 e31 => ?_)
  obtain ⟨z30e, ⟨v33, v33b, v33n⟩, g34f, ⟨g34a, g34b⟩, g34c, g34d⟩ := e31
  obtain rfl := z30e.symm
  have v33g := v33b.b.1.2
  have k35 := (g34f q (by omega) (by show ¬ (_ = _ ∨ _ = _); omega)).trans k26
  have F36 : ∀ q, q < h.2.1 → ¬ NO q → h32.1 q = h.1 q := fun q q0 q1 => (g34f q (by omega) (by show ¬ (_ = _ ∨ _ = _); omega)).trans (F27 q q0 q1)
  have T37 := T28.mv (h1 := h32) (by omega) (g34f z14 (by omega) (by show ¬ (_ = _ ∨ _ = _); omega)) (g34f z14v (by omega) (by show ¬ (_ = _ ∨ _ = _); omega))
  refine q_blk (lv2 := [(0, vr q), (1, vi l), (2, vi 2)]) (st2 := [vr q, vr t1]) kX10_text_123 rfl ?_
  refine q_gr eX10_text_124 fl_RX10_31 (Or.inl ⟨_, rfl⟩) k35 rfl ?_
  refine q_blk (lv2 := [(0, vr q), (1, vi l), (2, vi 2)]) (st2 := [vi (2 + 1), vr rq, vr t1]) kX10_text_127 rfl ?_
  refine AQ.callVr (av := [vi (2 + 1)]) (st := [vr t1]) (ih (hT.mv (h1 := h32) (by omega) (fun q hq => F36 q (by omega) id)) (n2.mv (h1 := h32) (fun q b => F36 q (hBt q b) id) (fun q b => b)) (fun q b => by have := hBt q b; omega) ⟨by decide, by decide⟩) lk_RX10_56 (by omega) rfl rfl (n2.mv (h1 := h32) (fun q b => F36 q (hBt q b) id) (fun q b => b)).b.2 ⟨_, rfl, rfl⟩ (Nat.le_of_ble_eq_true rfl) eX10_text_130 (fun z38 h40 e39 => ?_)
  obtain ⟨⟨z38v, z38t, z38a, z38b⟩, g41f, ⟨g41a, g41b⟩, g41c, g41d⟩ := e39
  have z38g := z38t.b.1
  have z38h := z38g.1
  have z38i := z38g.2
  have k42 := (g41f q (by omega) id).trans k35
  have F43 : ∀ q, q < h.2.1 → ¬ NO q → h40.1 q = h.1 q := fun q q0 q1 => (g41f q (by omega) id).trans (F36 q q0 q1)
  have T44 := T37.mv (h1 := h40) (by omega) (g41f z14 (by omega) id) (g41f z14v (by omega) id)
  have B45 := v33b.mv (h1 := h40) (by omega) (g41f t1 (by omega) id) (g41f v33 (by omega) id)
  refine AQ.callVr (av := [vr z38]) (st := []) (c_appS B45 z38t (by omega) (by simp only [List.length_append, gm_lit_l, List.length_nil]; omega)) lk_RX10_39 (by omega) rfl rfl ⟨_, _, _, B45.b.2.choose_spec⟩ ⟨_, rfl, rfl⟩ (Nat.le_of_ble_eq_true rfl) eX10_text_133 (fun z46 h48 e47 => ?_)
  obtain ⟨z46e, ⟨v49, v49b, v49n⟩, g50f, ⟨g50a, g50b⟩, g50c, g50d⟩ := e47
  obtain rfl := z46e.symm
  have v49g := v49b.b.1.2
  have k51 := (g50f q (by omega) (by show ¬ (_ = _ ∨ _ = _); omega)).trans k42
  have F52 : ∀ q, q < h.2.1 → ¬ NO q → h48.1 q = h.1 q := fun q q0 q1 => (g50f q (by omega) (by show ¬ (_ = _ ∨ _ = _); omega)).trans (F43 q q0 q1)
  have T53 := T44.mv (h1 := h48) (by omega) (g50f z14 (by omega) (by show ¬ (_ = _ ∨ _ = _); omega)) (g50f z14v (by omega) (by show ¬ (_ = _ ∨ _ = _); omega))
  have T54 := z38t.mv (h1 := h48) (by omega) (g50f z38 (by omega) (by show ¬ (_ = _ ∨ _ = _); omega)) (g50f z38v (by omega) (by show ¬ (_ = _ ∨ _ = _); omega))
  refine AQ.callVr (av := []) (st := []) (c_toS v49b (by simp only [List.length_append, gm_lit_l, List.length_nil]; omega)) lk_RX10_46 (by omega) rfl rfl ⟨_, _, _, v49b.b.2.choose_spec⟩ ⟨_, rfl, rfl⟩ (Nat.le_of_ble_eq_true rfl) eX10_text_136 (fun z55 h57 e56 => ?_)
  obtain ⟨⟨z55v, z55t, z55a, z55b⟩, g58f, ⟨g58a, g58b⟩, g58c, g58d⟩ := e56
  have z55g := z55t.b.1
  have z55h := z55g.1
  have z55i := z55g.2
  have k59 := (g58f q (by omega) id).trans k51
  have F60 : ∀ q, q < h.2.1 → ¬ NO q → h57.1 q = h.1 q := fun q q0 q1 => (g58f q (by omega) id).trans (F52 q q0 q1)
  have T61 := T53.mv (h1 := h57) (by omega) (g58f z14 (by omega) id) (g58f z14v (by omega) id)
  have T62 := T54.mv (h1 := h57) (by omega) (g58f z38 (by omega) id) (g58f z38v (by omega) id)
  refine q_blk (lv2 := [(0, vr q), (1, vi l), (2, vi 2), (3, vr z55)]) (st2 := [vi l, vi 2]) kX10_text_139 rfl ?_
  refine AQ.ic_ge (tgt := 172) eX10_text_142 (by decide) ⟨by decide, by decide⟩ (by first | assumption | exact ⟨by omega, by omega⟩ | exact ⟨by decide, by decide⟩) (fun br63 => ?_) (fun br63 => ?_)
  · skip
    refine q_blk (lv2 := [(0, vr q), (1, vi l), (2, vi 2), (3, vr z55)]) (st2 := [vr z55]) kX10_text_172 rfl ?_
    exact q_ra rfl eX10_text_173 ⟨z55, rfl, ⟨z55v, (by have t9 := z55t; have e9 : ((([] ++ (X1 2)) ++ (gm_lit 30)) ++ (X2 (2 + 1))) = gm_xop 4 X1 X2 l := (by unfold gm_xop gm_wrp; rw [if_neg (show ¬ gm_own 4 < l by rw [show gm_own 4 = 2 from rfl]; omega), show gm_lit 30 = gm_opt 4 from rfl, show gm_own 4 = 2 from rfl]; simp only [List.nil_append, List.append_assoc, List.cons_append]); rw [e9] at t9; exact t9), Or.inr (by omega), Or.inr (by omega)⟩, ⟨F60, ⟨by omega, by omega⟩, by omega, by omega⟩⟩
  · skip
    obtain ⟨t64, e66t⟩ : ∃ q : Nat, h57.2.1 = q := ⟨_, rfl⟩
    refine q_no (ci := 13) e66t eX10_text_145 rfl (am_gw 1282 (by decide +kernel) (by decide +kernel)) (am_gw 1283 (by decide +kernel) (by decide +kernel)) in_RJ4 (fun h65 e66c e66f e66z => ?_)
    have k67 := (e66f q (by omega)).trans k59
    have e66u : h65.2.1 = t64 + 1 := by rw [e66z]
    have e66v : h65.2.2 = h57.2.2 + 4 := by rw [e66z]
    have F68 : ∀ q, q < h.2.1 → ¬ NO q → h65.1 q = h.1 q := fun q q0 q1 => (e66f q (by omega)).trans (F60 q q0 q1)
    have T69 := T61.mv (h1 := h65) (by omega) (e66f z14 (by omega)) (e66f z14v (by omega))
    have T70 := T62.mv (h1 := h65) (by omega) (e66f z38 (by omega)) (e66f z38v (by omega))
    have T71 := z55t.mv (h1 := h65) (by omega) (e66f z55 (by omega)) (e66f z55v (by omega))
    refine q_blk (lv2 := [(0, vr q), (1, vi l), (2, vi 2), (3, vr z55)]) (st2 := [vr t64, vr t64]) kX10_text_148 rfl ?_
    refine AQ.callIv (av := []) (st := [vr t64]) (c_J4_init e66c (by omega)) lk_RX10_36 (by omega) rfl rfl (Nat.le_of_ble_eq_true rfl) eX10_text_149 (fun h74 e73 => ?_)
    obtain ⟨⟨v75, v75b, v75f⟩, g76f, ⟨g76a, g76b⟩, g76c, g76d⟩ := e73
    have v75g := v75b.1.2
    have k77 := (g76f q (by omega) (by show ¬ _ = _; omega)).trans k67
    have F78 : ∀ q, q < h.2.1 → ¬ NO q → h74.1 q = h.1 q := fun q q0 q1 => (g76f q (by omega) (by show ¬ _ = _; omega)).trans (F68 q q0 q1)
    have T79 := T69.mv (h1 := h74) (by omega) (g76f z14 (by omega) (by show ¬ _ = _; omega)) (g76f z14v (by omega) (by show ¬ _ = _; omega))
    have T80 := T70.mv (h1 := h74) (by omega) (g76f z38 (by omega) (by show ¬ _ = _; omega)) (g76f z38v (by omega) (by show ¬ _ = _; omega))
    have T81 := T71.mv (h1 := h74) (by omega) (g76f z55 (by omega) (by show ¬ _ = _; omega)) (g76f z55v (by omega) (by show ¬ _ = _; omega))
    have B82 : SBL h74 t64 v75 [] := ⟨16, am_Z, v75b, fun k c q => by simp at q⟩
    refine AQ.of (AS.ldcS (i := 32) (by decide) (by decide) eX10_text_152) ?_
    have L83 := hT.2.1.st (i := 32) hT.1 (by decide)
    have L83b := (hT.2.1 32 (by decide)).1
    have L83c := L83b.1
    have L83d := L83b.2
    refine AQ.callVr (av := [vr (w.2 32)]) (st := []) (c_appS B82 (L83.mv (h1 := h74) (by omega) (F78 (w.2 32) (by omega) id) (F78 (w.2 (200 + 32)) (by omega) id)) (by omega) (by simp only [List.length_append, gm_lit_l, List.length_nil]; omega)) lk_RX10_39 (by omega) rfl rfl ⟨_, _, _, B82.b.2.choose_spec⟩ ⟨_, rfl, rfl⟩ (Nat.le_of_ble_eq_true rfl) eX10_text_154 (fun z84 h86 e85 => ?_)
    obtain ⟨z84e, ⟨v87, v87b, v87n⟩, g88f, ⟨g88a, g88b⟩, g88c, g88d⟩ := e85
    obtain rfl := z84e.symm
    have v87g := v87b.b.1.2
    have k89 := (g88f q (by omega) (by show ¬ (_ = _ ∨ _ = _); omega)).trans k77
    have F90 : ∀ q, q < h.2.1 → ¬ NO q → h86.1 q = h.1 q := fun q q0 q1 => (g88f q (by omega) (by show ¬ (_ = _ ∨ _ = _); omega)).trans (F78 q q0 q1)
    have T91 := T79.mv (h1 := h86) (by omega) (g88f z14 (by omega) (by show ¬ (_ = _ ∨ _ = _); omega)) (g88f z14v (by omega) (by show ¬ (_ = _ ∨ _ = _); omega))
    have T92 := T80.mv (h1 := h86) (by omega) (g88f z38 (by omega) (by show ¬ (_ = _ ∨ _ = _); omega)) (g88f z38v (by omega) (by show ¬ (_ = _ ∨ _ = _); omega))
    have T93 := T81.mv (h1 := h86) (by omega) (g88f z55 (by omega) (by show ¬ (_ = _ ∨ _ = _); omega)) (g88f z55v (by omega) (by show ¬ (_ = _ ∨ _ = _); omega))
    refine q_blk (lv2 := [(0, vr q), (1, vi l), (2, vi 2), (3, vr z55)]) (st2 := [vr z55, vr t64]) kX10_text_157 rfl ?_
    refine AQ.callVr (av := [vr z55]) (st := []) (c_appS v87b T93 (by omega) (by simp only [List.length_append, gm_lit_l, List.length_nil]; omega)) lk_RX10_39 (by omega) rfl rfl ⟨_, _, _, v87b.b.2.choose_spec⟩ ⟨_, rfl, rfl⟩ (Nat.le_of_ble_eq_true rfl) eX10_text_158 (fun z94 h96 e95 => ?_)
    obtain ⟨z94e, ⟨v97, v97b, v97n⟩, g98f, ⟨g98a, g98b⟩, g98c, g98d⟩ := e95
    obtain rfl := z94e.symm
    have v97g := v97b.b.1.2
    have k99 := (g98f q (by omega) (by show ¬ (_ = _ ∨ _ = _); omega)).trans k89
    have F100 : ∀ q, q < h.2.1 → ¬ NO q → h96.1 q = h.1 q := fun q q0 q1 => (g98f q (by omega) (by show ¬ (_ = _ ∨ _ = _); omega)).trans (F90 q q0 q1)
    have T101 := T91.mv (h1 := h96) (by omega) (g98f z14 (by omega) (by show ¬ (_ = _ ∨ _ = _); omega)) (g98f z14v (by omega) (by show ¬ (_ = _ ∨ _ = _); omega))
    have T102 := T92.mv (h1 := h96) (by omega) (g98f z38 (by omega) (by show ¬ (_ = _ ∨ _ = _); omega)) (g98f z38v (by omega) (by show ¬ (_ = _ ∨ _ = _); omega))
    have T103 := T93.mv (h1 := h96) (by omega) (g98f z55 (by omega) (by show ¬ (_ = _ ∨ _ = _); omega)) (g98f z55v (by omega) (by show ¬ (_ = _ ∨ _ = _); omega))
    refine AQ.of (AS.ldcS (i := 33) (by decide) (by decide) eX10_text_161) ?_
    have L104 := hT.2.1.st (i := 33) hT.1 (by decide)
    have L104b := (hT.2.1 33 (by decide)).1
    have L104c := L104b.1
    have L104d := L104b.2
    refine AQ.callVr (av := [vr (w.2 33)]) (st := []) (c_appS v97b (L104.mv (h1 := h96) (by omega) (F100 (w.2 33) (by omega) id) (F100 (w.2 (200 + 33)) (by omega) id)) (by omega) (by simp only [List.length_append, gm_lit_l, List.length_nil]; omega)) lk_RX10_39 (by omega) rfl rfl ⟨_, _, _, v97b.b.2.choose_spec⟩ ⟨_, rfl, rfl⟩ (Nat.le_of_ble_eq_true rfl) eX10_text_163 (fun z105 h107 e106 => ?_)
    obtain ⟨z105e, ⟨v108, v108b, v108n⟩, g109f, ⟨g109a, g109b⟩, g109c, g109d⟩ := e106
    obtain rfl := z105e.symm
    have v108g := v108b.b.1.2
    have k110 := (g109f q (by omega) (by show ¬ (_ = _ ∨ _ = _); omega)).trans k99
    have F111 : ∀ q, q < h.2.1 → ¬ NO q → h107.1 q = h.1 q := fun q q0 q1 => (g109f q (by omega) (by show ¬ (_ = _ ∨ _ = _); omega)).trans (F100 q q0 q1)
    have T112 := T101.mv (h1 := h107) (by omega) (g109f z14 (by omega) (by show ¬ (_ = _ ∨ _ = _); omega)) (g109f z14v (by omega) (by show ¬ (_ = _ ∨ _ = _); omega))
    have T113 := T102.mv (h1 := h107) (by omega) (g109f z38 (by omega) (by show ¬ (_ = _ ∨ _ = _); omega)) (g109f z38v (by omega) (by show ¬ (_ = _ ∨ _ = _); omega))
    have T114 := T103.mv (h1 := h107) (by omega) (g109f z55 (by omega) (by show ¬ (_ = _ ∨ _ = _); omega)) (g109f z55v (by omega) (by show ¬ (_ = _ ∨ _ = _); omega))
    refine AQ.callVr (av := []) (st := []) (c_toS v108b (by simp only [List.length_append, gm_lit_l, List.length_nil]; omega)) lk_RX10_46 (by omega) rfl rfl ⟨_, _, _, v108b.b.2.choose_spec⟩ ⟨_, rfl, rfl⟩ (Nat.le_of_ble_eq_true rfl) eX10_text_166 (fun z115 h117 e116 => ?_)
    obtain ⟨⟨z115v, z115t, z115a, z115b⟩, g118f, ⟨g118a, g118b⟩, g118c, g118d⟩ := e116
    have z115g := z115t.b.1
    have z115h := z115g.1
    have z115i := z115g.2
    have k119 := (g118f q (by omega) id).trans k110
    have F120 : ∀ q, q < h.2.1 → ¬ NO q → h117.1 q = h.1 q := fun q q0 q1 => (g118f q (by omega) id).trans (F111 q q0 q1)
    have T121 := T112.mv (h1 := h117) (by omega) (g118f z14 (by omega) id) (g118f z14v (by omega) id)
    have T122 := T113.mv (h1 := h117) (by omega) (g118f z38 (by omega) id) (g118f z38v (by omega) id)
    have T123 := T114.mv (h1 := h117) (by omega) (g118f z55 (by omega) id) (g118f z55v (by omega) id)
    refine q_goto (tgt := 173) eX10_text_169 (by decide) ?_
    exact q_ra rfl eX10_text_173 ⟨z115, rfl, ⟨z115v, (by have t9 := z115t; have e9 : ((([] ++ (gm_lit 32)) ++ ((([] ++ (X1 2)) ++ (gm_lit 30)) ++ (X2 (2 + 1)))) ++ (gm_lit 33)) = gm_xop 4 X1 X2 l := (by unfold gm_xop gm_wrp; rw [if_pos (show gm_own 4 < l by rw [show gm_own 4 = 2 from rfl]; omega), show gm_lit 32 = [40] from rfl, show gm_lit 33 = [41] from rfl, show gm_lit 30 = gm_opt 4 from rfl, show gm_own 4 = 2 from rfl]; simp only [List.nil_append, List.append_assoc, List.cons_append]); rw [e9] at t9; exact t9), Or.inr (by omega), Or.inr (by omega)⟩, ⟨F120, ⟨by omega, by omega⟩, by omega, by omega⟩⟩

set_option maxRecDepth 4000 in
set_option maxHeartbeats 4000000 in
theorem c_X10_textO5 {w : am_w} {h : AH} {bs : Nat} {B : Nat → Prop} {N q lq rq : Nat} {nb l : Int} {L1 L2 : GL} {X1 X2 : Int → List Int} (hT : TXW w h bs) (hBt : ∀ q, B q → q < h.2.1) (bq : B q) (c0 : h.1 q = some (9, 4, am_L [5, nb, 0, 0], am_G [none, none, some lq, some rq])) (n1 : NT h B N lq L1 X1) (n2 : NT h B N rq L2 X2) (hl : gm_tl (N + 1) ≤ 900) (hr : -100 ≤ l ∧ l ≤ 100) (ih : ∀ {h : AH} {q : Nat} {L : GL} {X : Int → List Int} {l : Int}, TXW w h bs → NT h B N q L X → (∀ q, B q → q < h.2.1) → (-100 ≤ l ∧ l ≤ 100) → AE w m_X10_text (N + 8) [vr q, vi l] h (am_ref (fun z h1 => (∃ vz, STL h1 z vz (X l) ∧ (vz < bs ∨ h.2.1 ≤ vz) ∧ (z < bs ∨ h.2.1 ≤ z)) ∧ KF h h1 NO (gm_tc N) (3100 * gm_tc N))))  : AE w m_X10_text (N + 9) [vr q, vi l] h (am_ref (fun z h1 => (∃ vz, STL h1 z vz (gm_xop 5 X1 X2 l) ∧ (vz < bs ∨ h.2.1 ≤ vz) ∧ (z < bs ∨ h.2.1 ≤ z)) ∧ KF h h1 NO (gm_tc (N + 1)) (3100 * gm_tc (N + 1)))) := by
  refine AE.of wf_X10_text (Nat.le_of_ble_eq_true rfl) (am_ok_r) ?_
  have hbs := hT.1
  obtain ⟨va9, vr9, vnn, vff, vf2, vg, ⟨va9b, vr9b⟩, V1, V2, V3⟩ := hT.2.2.1
  have bq9 := hBt q bq
  have gt : gm_tc (N + 1) = 2 * gm_tc N + 14 := rfl
  have gl : gm_tl (N + 1) = 2 * gm_tl N + 5 := rfl
  have l1 := n1.len 2
  have l2 := n2.len (2 + 1)
  have a28 : am_len 31 = (gm_opt 5).length := rfl
  have a29 := gm_opt_l 5
  have a32 : am_len 32 = 1 := rfl
  have a33 : am_len 33 = 1 := rfl
  refine q_blk (lv2 := [(0, vr q), (1, vi l)]) (st2 := [vr q]) kX10_text_0 rfl ?_
  refine q_gi eX10_text_1 fl_RX10_16 (Or.inl rfl) c0 (z := 5) rfl ?_
  refine AQ.of (AS.if_ne_t (tgt := 30) eX10_text_4 (by decide) ⟨by decide, by decide⟩ (by decide)) ?_
  refine q_blk (lv2 := [(0, vr q), (1, vi l)]) (st2 := [vr q]) kX10_text_30 rfl ?_
  refine q_gi eX10_text_31 fl_RX10_16 (Or.inl rfl) c0 (z := 5) rfl ?_
  refine q_blk (lv2 := [(0, vr q), (1, vi l)]) (st2 := [vi 1, vi 5]) kX10_text_34 rfl ?_
  refine AQ.of (AS.ic_ne_t (tgt := 47) eX10_text_35 (by decide) ⟨by decide, by decide⟩ ⟨by decide, by decide⟩ (by decide)) ?_
  refine q_blk (lv2 := [(0, vr q), (1, vi l)]) (st2 := [vr q]) kX10_text_47 rfl ?_
  refine q_gi eX10_text_48 fl_RX10_16 (Or.inl rfl) c0 (z := 5) rfl ?_
  refine q_blk (lv2 := [(0, vr q), (1, vi l)]) (st2 := [vi 4, vi 5]) kX10_text_51 rfl ?_
  refine AQ.of (AS.ic_ge_t (tgt := 59) eX10_text_52 (by decide) ⟨by decide, by decide⟩ ⟨by decide, by decide⟩ (by decide)) ?_
  refine q_blk (lv2 := [(0, vr q), (1, vi l)]) (st2 := [vi 2]) kX10_text_59 rfl ?_
  refine q_blk (lv2 := [(0, vr q), (1, vi l), (2, vi 2)]) (st2 := []) kX10_text_60 rfl ?_
  obtain ⟨t1, e3t⟩ : ∃ q : Nat, h.2.1 = q := ⟨_, rfl⟩
  refine q_no (ci := 13) e3t eX10_text_61 rfl (am_gw 1282 (by decide +kernel) (by decide +kernel)) (am_gw 1283 (by decide +kernel) (by decide +kernel)) in_RJ4 (fun h2 e3c e3f e3z => ?_)
  have k4 := (e3f q (by omega)).trans c0
  have e3u : h2.2.1 = t1 + 1 := by rw [e3z]
  have e3v : h2.2.2 = h.2.2 + 4 := by rw [e3z]
  have F5 : ∀ q, q < h.2.1 → ¬ NO q → h2.1 q = h.1 q := fun q q0 q1 => (e3f q (by omega)).trans ((fun _ _ _ => rfl) q q0 q1)
  refine q_blk (lv2 := [(0, vr q), (1, vi l), (2, vi 2)]) (st2 := [vr t1, vr t1]) kX10_text_64 rfl ?_
  refine AQ.callIv (av := []) (st := [vr t1]) (c_J4_init e3c (by omega)) lk_RX10_36 (by omega) rfl rfl (Nat.le_of_ble_eq_true rfl) eX10_text_65 (fun h8 e7 => ?_)
  obtain ⟨⟨v9, v9b, v9f⟩, g10f, ⟨g10a, g10b⟩, g10c, g10d⟩ := e7
  have v9g := v9b.1.2
  have k11 := (g10f q (by omega) (by show ¬ _ = _; omega)).trans k4
  have F12 : ∀ q, q < h.2.1 → ¬ NO q → h8.1 q = h.1 q := fun q q0 q1 => (g10f q (by omega) (by show ¬ _ = _; omega)).trans (F5 q q0 q1)
  have B13 : SBL h8 t1 v9 [] := ⟨16, am_Z, v9b, fun k c q => by simp at q⟩
  refine q_blk (lv2 := [(0, vr q), (1, vi l), (2, vi 2)]) (st2 := [vr q, vr t1]) kX10_text_68 rfl ?_
  refine q_gr eX10_text_69 fl_RX10_27 (Or.inl ⟨_, rfl⟩) k11 rfl ?_
  refine q_blk (lv2 := [(0, vr q), (1, vi l), (2, vi 2)]) (st2 := [vi 2, vr lq, vr t1]) kX10_text_72 rfl ?_
  refine AQ.callVr (av := [vi 2]) (st := [vr t1]) (ih (hT.mv (h1 := h8) (by omega) (fun q hq => F12 q (by omega) id)) (n1.mv (h1 := h8) (fun q b => F12 q (hBt q b) id) (fun q b => b)) (fun q b => by have := hBt q b; omega) ⟨by decide, by decide⟩) lk_RX10_56 (by omega) rfl rfl (n1.mv (h1 := h8) (fun q b => F12 q (hBt q b) id) (fun q b => b)).b.2 ⟨_, rfl, rfl⟩ (Nat.le_of_ble_eq_true rfl) eX10_text_73 (fun z14 h16 e15 => ?_)
  obtain ⟨⟨z14v, z14t, z14a, z14b⟩, g17f, ⟨g17a, g17b⟩, g17c, g17d⟩ := e15
  have z14g := z14t.b.1
  have z14h := z14g.1
  have z14i := z14g.2
  have k18 := (g17f q (by omega) id).trans k11
  have F19 : ∀ q, q < h.2.1 → ¬ NO q → h16.1 q = h.1 q := fun q q0 q1 => (g17f q (by omega) id).trans (F12 q q0 q1)
  have B20 := B13.mv (h1 := h16) (by omega) (g17f t1 (by omega) id) (g17f v9 (by omega) id)
  refine AQ.callVr (av := [vr z14]) (st := []) (c_appS B20 z14t (by omega) (by simp only [List.length_append, gm_lit_l, List.length_nil]; omega)) lk_RX10_39 (by omega) rfl rfl ⟨_, _, _, B20.b.2.choose_spec⟩ ⟨_, rfl, rfl⟩ (Nat.le_of_ble_eq_true rfl) eX10_text_76 (fun z21 h23 e22 => ?_)
  obtain ⟨z21e, ⟨v24, v24b, v24n⟩, g25f, ⟨g25a, g25b⟩, g25c, g25d⟩ := e22
  obtain rfl := z21e.symm
  have v24g := v24b.b.1.2
  have k26 := (g25f q (by omega) (by show ¬ (_ = _ ∨ _ = _); omega)).trans k18
  have F27 : ∀ q, q < h.2.1 → ¬ NO q → h23.1 q = h.1 q := fun q q0 q1 => (g25f q (by omega) (by show ¬ (_ = _ ∨ _ = _); omega)).trans (F19 q q0 q1)
  have T28 := z14t.mv (h1 := h23) (by omega) (g25f z14 (by omega) (by show ¬ (_ = _ ∨ _ = _); omega)) (g25f z14v (by omega) (by show ¬ (_ = _ ∨ _ = _); omega))
  refine q_blk (lv2 := [(0, vr q), (1, vi l), (2, vi 2)]) (st2 := [vr q, vr t1]) kX10_text_79 rfl ?_
  refine q_gi eX10_text_80 fl_RX10_16 (Or.inl rfl) k26 (z := 5) rfl ?_
  refine q_blk (lv2 := [(0, vr q), (1, vi l), (2, vi 2)]) (st2 := [vi 2, vi 5, vr t1]) kX10_text_83 rfl ?_
  refine AQ.of (AS.ic_ne_t (tgt := 92) eX10_text_84 (by decide) ⟨by decide, by decide⟩ ⟨by decide, by decide⟩ (by decide)) ?_
  refine q_blk (lv2 := [(0, vr q), (1, vi l), (2, vi 2)]) (st2 := [vr q, vr t1]) kX10_text_92 rfl ?_
  refine q_gi eX10_text_93 fl_RX10_16 (Or.inl rfl) k26 (z := 5) rfl ?_
  refine q_blk (lv2 := [(0, vr q), (1, vi l), (2, vi 2)]) (st2 := [vi 3, vi 5, vr t1]) kX10_text_96 rfl ?_
  refine AQ.of (AS.ic_ne_t (tgt := 105) eX10_text_97 (by decide) ⟨by decide, by decide⟩ ⟨by decide, by decide⟩ (by decide)) ?_
  refine q_blk (lv2 := [(0, vr q), (1, vi l), (2, vi 2)]) (st2 := [vr q, vr t1]) kX10_text_105 rfl ?_
  refine q_gi eX10_text_106 fl_RX10_16 (Or.inl rfl) k26 (z := 5) rfl ?_
  refine q_blk (lv2 := [(0, vr q), (1, vi l), (2, vi 2)]) (st2 := [vi 4, vi 5, vr t1]) kX10_text_109 rfl ?_
  refine AQ.of (AS.ic_ne_t (tgt := 118) eX10_text_110 (by decide) ⟨by decide, by decide⟩ ⟨by decide, by decide⟩ (by decide)) ?_
  refine AQ.of (AS.ldcS (i := 31) (by decide) (by decide) eX10_text_118) ?_
  have L29 := hT.2.1.st (i := 31) hT.1 (by decide)
  have L29b := (hT.2.1 31 (by decide)).1
  have L29c := L29b.1
  have L29d := L29b.2
  refine AQ.callVr (av := [vr (w.2 31)]) (st := []) (c_appS v24b (L29.mv (h1 := h23) (by omega) (F27 (w.2 31) (by omega) id) (F27 (w.2 (200 + 31)) (by omega) id)) (by omega) (by simp only [List.length_append, gm_lit_l, List.length_nil]; omega)) lk_RX10_39 (by omega) rfl rfl ⟨_, _, _, v24b.b.2.choose_spec⟩ ⟨_, rfl, rfl⟩ (Nat.le_of_ble_eq_true rfl) eX10_text_120 (fun z30 h32 e31 => ?_)
  obtain ⟨z30e, ⟨v33, v33b, v33n⟩, g34f, ⟨g34a, g34b⟩, g34c, g34d⟩ := e31
  obtain rfl := z30e.symm
  have v33g := v33b.b.1.2
  have k35 := (g34f q (by omega) (by show ¬ (_ = _ ∨ _ = _); omega)).trans k26
  have F36 : ∀ q, q < h.2.1 → ¬ NO q → h32.1 q = h.1 q := fun q q0 q1 => (g34f q (by omega) (by show ¬ (_ = _ ∨ _ = _); omega)).trans (F27 q q0 q1)
  have T37 := T28.mv (h1 := h32) (by omega) (g34f z14 (by omega) (by show ¬ (_ = _ ∨ _ = _); omega)) (g34f z14v (by omega) (by show ¬ (_ = _ ∨ _ = _); omega))
  refine q_blk (lv2 := [(0, vr q), (1, vi l), (2, vi 2)]) (st2 := [vr q, vr t1]) kX10_text_123 rfl ?_
  refine q_gr eX10_text_124 fl_RX10_31 (Or.inl ⟨_, rfl⟩) k35 rfl ?_
  refine q_blk (lv2 := [(0, vr q), (1, vi l), (2, vi 2)]) (st2 := [vi (2 + 1), vr rq, vr t1]) kX10_text_127 rfl ?_
  refine AQ.callVr (av := [vi (2 + 1)]) (st := [vr t1]) (ih (hT.mv (h1 := h32) (by omega) (fun q hq => F36 q (by omega) id)) (n2.mv (h1 := h32) (fun q b => F36 q (hBt q b) id) (fun q b => b)) (fun q b => by have := hBt q b; omega) ⟨by decide, by decide⟩) lk_RX10_56 (by omega) rfl rfl (n2.mv (h1 := h32) (fun q b => F36 q (hBt q b) id) (fun q b => b)).b.2 ⟨_, rfl, rfl⟩ (Nat.le_of_ble_eq_true rfl) eX10_text_130 (fun z38 h40 e39 => ?_)
  obtain ⟨⟨z38v, z38t, z38a, z38b⟩, g41f, ⟨g41a, g41b⟩, g41c, g41d⟩ := e39
  have z38g := z38t.b.1
  have z38h := z38g.1
  have z38i := z38g.2
  have k42 := (g41f q (by omega) id).trans k35
  have F43 : ∀ q, q < h.2.1 → ¬ NO q → h40.1 q = h.1 q := fun q q0 q1 => (g41f q (by omega) id).trans (F36 q q0 q1)
  have T44 := T37.mv (h1 := h40) (by omega) (g41f z14 (by omega) id) (g41f z14v (by omega) id)
  have B45 := v33b.mv (h1 := h40) (by omega) (g41f t1 (by omega) id) (g41f v33 (by omega) id)
  refine AQ.callVr (av := [vr z38]) (st := []) (c_appS B45 z38t (by omega) (by simp only [List.length_append, gm_lit_l, List.length_nil]; omega)) lk_RX10_39 (by omega) rfl rfl ⟨_, _, _, B45.b.2.choose_spec⟩ ⟨_, rfl, rfl⟩ (Nat.le_of_ble_eq_true rfl) eX10_text_133 (fun z46 h48 e47 => ?_)
  obtain ⟨z46e, ⟨v49, v49b, v49n⟩, g50f, ⟨g50a, g50b⟩, g50c, g50d⟩ := e47
  obtain rfl := z46e.symm
  have v49g := v49b.b.1.2
  have k51 := (g50f q (by omega) (by show ¬ (_ = _ ∨ _ = _); omega)).trans k42
  have F52 : ∀ q, q < h.2.1 → ¬ NO q → h48.1 q = h.1 q := fun q q0 q1 => (g50f q (by omega) (by show ¬ (_ = _ ∨ _ = _); omega)).trans (F43 q q0 q1)
  have T53 := T44.mv (h1 := h48) (by omega) (g50f z14 (by omega) (by show ¬ (_ = _ ∨ _ = _); omega)) (g50f z14v (by omega) (by show ¬ (_ = _ ∨ _ = _); omega))
  have T54 := z38t.mv (h1 := h48) (by omega) (g50f z38 (by omega) (by show ¬ (_ = _ ∨ _ = _); omega)) (g50f z38v (by omega) (by show ¬ (_ = _ ∨ _ = _); omega))
  refine AQ.callVr (av := []) (st := []) (c_toS v49b (by simp only [List.length_append, gm_lit_l, List.length_nil]; omega)) lk_RX10_46 (by omega) rfl rfl ⟨_, _, _, v49b.b.2.choose_spec⟩ ⟨_, rfl, rfl⟩ (Nat.le_of_ble_eq_true rfl) eX10_text_136 (fun z55 h57 e56 => ?_)
  obtain ⟨⟨z55v, z55t, z55a, z55b⟩, g58f, ⟨g58a, g58b⟩, g58c, g58d⟩ := e56
  have z55g := z55t.b.1
  have z55h := z55g.1
  have z55i := z55g.2
  have k59 := (g58f q (by omega) id).trans k51
  have F60 : ∀ q, q < h.2.1 → ¬ NO q → h57.1 q = h.1 q := fun q q0 q1 => (g58f q (by omega) id).trans (F52 q q0 q1)
  have T61 := T53.mv (h1 := h57) (by omega) (g58f z14 (by omega) id) (g58f z14v (by omega) id)
  have T62 := T54.mv (h1 := h57) (by omega) (g58f z38 (by omega) id) (g58f z38v (by omega) id)
  refine q_blk (lv2 := [(0, vr q), (1, vi l), (2, vi 2), (3, vr z55)]) (st2 := [vi l, vi 2]) kX10_text_139 rfl ?_
  refine AQ.ic_ge (tgt := 172) eX10_text_142 (by decide) ⟨by decide, by decide⟩ (by first | assumption | exact ⟨by omega, by omega⟩ | exact ⟨by decide, by decide⟩) (fun br63 => ?_) (fun br63 => ?_)
  · skip
    refine q_blk (lv2 := [(0, vr q), (1, vi l), (2, vi 2), (3, vr z55)]) (st2 := [vr z55]) kX10_text_172 rfl ?_
    exact q_ra rfl eX10_text_173 ⟨z55, rfl, ⟨z55v, (by have t9 := z55t; have e9 : ((([] ++ (X1 2)) ++ (gm_lit 31)) ++ (X2 (2 + 1))) = gm_xop 5 X1 X2 l := (by unfold gm_xop gm_wrp; rw [if_neg (show ¬ gm_own 5 < l by rw [show gm_own 5 = 2 from rfl]; omega), show gm_lit 31 = gm_opt 5 from rfl, show gm_own 5 = 2 from rfl]; simp only [List.nil_append, List.append_assoc, List.cons_append]); rw [e9] at t9; exact t9), Or.inr (by omega), Or.inr (by omega)⟩, ⟨F60, ⟨by omega, by omega⟩, by omega, by omega⟩⟩
  · skip
    obtain ⟨t64, e66t⟩ : ∃ q : Nat, h57.2.1 = q := ⟨_, rfl⟩
    refine q_no (ci := 13) e66t eX10_text_145 rfl (am_gw 1282 (by decide +kernel) (by decide +kernel)) (am_gw 1283 (by decide +kernel) (by decide +kernel)) in_RJ4 (fun h65 e66c e66f e66z => ?_)
    have k67 := (e66f q (by omega)).trans k59
    have e66u : h65.2.1 = t64 + 1 := by rw [e66z]
    have e66v : h65.2.2 = h57.2.2 + 4 := by rw [e66z]
    have F68 : ∀ q, q < h.2.1 → ¬ NO q → h65.1 q = h.1 q := fun q q0 q1 => (e66f q (by omega)).trans (F60 q q0 q1)
    have T69 := T61.mv (h1 := h65) (by omega) (e66f z14 (by omega)) (e66f z14v (by omega))
    have T70 := T62.mv (h1 := h65) (by omega) (e66f z38 (by omega)) (e66f z38v (by omega))
    have T71 := z55t.mv (h1 := h65) (by omega) (e66f z55 (by omega)) (e66f z55v (by omega))
    refine q_blk (lv2 := [(0, vr q), (1, vi l), (2, vi 2), (3, vr z55)]) (st2 := [vr t64, vr t64]) kX10_text_148 rfl ?_
    refine AQ.callIv (av := []) (st := [vr t64]) (c_J4_init e66c (by omega)) lk_RX10_36 (by omega) rfl rfl (Nat.le_of_ble_eq_true rfl) eX10_text_149 (fun h74 e73 => ?_)
    obtain ⟨⟨v75, v75b, v75f⟩, g76f, ⟨g76a, g76b⟩, g76c, g76d⟩ := e73
    have v75g := v75b.1.2
    have k77 := (g76f q (by omega) (by show ¬ _ = _; omega)).trans k67
    have F78 : ∀ q, q < h.2.1 → ¬ NO q → h74.1 q = h.1 q := fun q q0 q1 => (g76f q (by omega) (by show ¬ _ = _; omega)).trans (F68 q q0 q1)
    have T79 := T69.mv (h1 := h74) (by omega) (g76f z14 (by omega) (by show ¬ _ = _; omega)) (g76f z14v (by omega) (by show ¬ _ = _; omega))
    have T80 := T70.mv (h1 := h74) (by omega) (g76f z38 (by omega) (by show ¬ _ = _; omega)) (g76f z38v (by omega) (by show ¬ _ = _; omega))
    have T81 := T71.mv (h1 := h74) (by omega) (g76f z55 (by omega) (by show ¬ _ = _; omega)) (g76f z55v (by omega) (by show ¬ _ = _; omega))
    have B82 : SBL h74 t64 v75 [] := ⟨16, am_Z, v75b, fun k c q => by simp at q⟩
    refine AQ.of (AS.ldcS (i := 32) (by decide) (by decide) eX10_text_152) ?_
    have L83 := hT.2.1.st (i := 32) hT.1 (by decide)
    have L83b := (hT.2.1 32 (by decide)).1
    have L83c := L83b.1
    have L83d := L83b.2
    refine AQ.callVr (av := [vr (w.2 32)]) (st := []) (c_appS B82 (L83.mv (h1 := h74) (by omega) (F78 (w.2 32) (by omega) id) (F78 (w.2 (200 + 32)) (by omega) id)) (by omega) (by simp only [List.length_append, gm_lit_l, List.length_nil]; omega)) lk_RX10_39 (by omega) rfl rfl ⟨_, _, _, B82.b.2.choose_spec⟩ ⟨_, rfl, rfl⟩ (Nat.le_of_ble_eq_true rfl) eX10_text_154 (fun z84 h86 e85 => ?_)
    obtain ⟨z84e, ⟨v87, v87b, v87n⟩, g88f, ⟨g88a, g88b⟩, g88c, g88d⟩ := e85
    obtain rfl := z84e.symm
    have v87g := v87b.b.1.2
    have k89 := (g88f q (by omega) (by show ¬ (_ = _ ∨ _ = _); omega)).trans k77
    have F90 : ∀ q, q < h.2.1 → ¬ NO q → h86.1 q = h.1 q := fun q q0 q1 => (g88f q (by omega) (by show ¬ (_ = _ ∨ _ = _); omega)).trans (F78 q q0 q1)
    have T91 := T79.mv (h1 := h86) (by omega) (g88f z14 (by omega) (by show ¬ (_ = _ ∨ _ = _); omega)) (g88f z14v (by omega) (by show ¬ (_ = _ ∨ _ = _); omega))
    have T92 := T80.mv (h1 := h86) (by omega) (g88f z38 (by omega) (by show ¬ (_ = _ ∨ _ = _); omega)) (g88f z38v (by omega) (by show ¬ (_ = _ ∨ _ = _); omega))
    have T93 := T81.mv (h1 := h86) (by omega) (g88f z55 (by omega) (by show ¬ (_ = _ ∨ _ = _); omega)) (g88f z55v (by omega) (by show ¬ (_ = _ ∨ _ = _); omega))
    refine q_blk (lv2 := [(0, vr q), (1, vi l), (2, vi 2), (3, vr z55)]) (st2 := [vr z55, vr t64]) kX10_text_157 rfl ?_
    refine AQ.callVr (av := [vr z55]) (st := []) (c_appS v87b T93 (by omega) (by simp only [List.length_append, gm_lit_l, List.length_nil]; omega)) lk_RX10_39 (by omega) rfl rfl ⟨_, _, _, v87b.b.2.choose_spec⟩ ⟨_, rfl, rfl⟩ (Nat.le_of_ble_eq_true rfl) eX10_text_158 (fun z94 h96 e95 => ?_)
    obtain ⟨z94e, ⟨v97, v97b, v97n⟩, g98f, ⟨g98a, g98b⟩, g98c, g98d⟩ := e95
    obtain rfl := z94e.symm
    have v97g := v97b.b.1.2
    have k99 := (g98f q (by omega) (by show ¬ (_ = _ ∨ _ = _); omega)).trans k89
    have F100 : ∀ q, q < h.2.1 → ¬ NO q → h96.1 q = h.1 q := fun q q0 q1 => (g98f q (by omega) (by show ¬ (_ = _ ∨ _ = _); omega)).trans (F90 q q0 q1)
    have T101 := T91.mv (h1 := h96) (by omega) (g98f z14 (by omega) (by show ¬ (_ = _ ∨ _ = _); omega)) (g98f z14v (by omega) (by show ¬ (_ = _ ∨ _ = _); omega))
    have T102 := T92.mv (h1 := h96) (by omega) (g98f z38 (by omega) (by show ¬ (_ = _ ∨ _ = _); omega)) (g98f z38v (by omega) (by show ¬ (_ = _ ∨ _ = _); omega))
    have T103 := T93.mv (h1 := h96) (by omega) (g98f z55 (by omega) (by show ¬ (_ = _ ∨ _ = _); omega)) (g98f z55v (by omega) (by show ¬ (_ = _ ∨ _ = _); omega))
    refine AQ.of (AS.ldcS (i := 33) (by decide) (by decide) eX10_text_161) ?_
    have L104 := hT.2.1.st (i := 33) hT.1 (by decide)
    have L104b := (hT.2.1 33 (by decide)).1
    have L104c := L104b.1
    have L104d := L104b.2
    refine AQ.callVr (av := [vr (w.2 33)]) (st := []) (c_appS v97b (L104.mv (h1 := h96) (by omega) (F100 (w.2 33) (by omega) id) (F100 (w.2 (200 + 33)) (by omega) id)) (by omega) (by simp only [List.length_append, gm_lit_l, List.length_nil]; omega)) lk_RX10_39 (by omega) rfl rfl ⟨_, _, _, v97b.b.2.choose_spec⟩ ⟨_, rfl, rfl⟩ (Nat.le_of_ble_eq_true rfl) eX10_text_163 (fun z105 h107 e106 => ?_)
    obtain ⟨z105e, ⟨v108, v108b, v108n⟩, g109f, ⟨g109a, g109b⟩, g109c, g109d⟩ := e106
    obtain rfl := z105e.symm
    have v108g := v108b.b.1.2
    have k110 := (g109f q (by omega) (by show ¬ (_ = _ ∨ _ = _); omega)).trans k99
    have F111 : ∀ q, q < h.2.1 → ¬ NO q → h107.1 q = h.1 q := fun q q0 q1 => (g109f q (by omega) (by show ¬ (_ = _ ∨ _ = _); omega)).trans (F100 q q0 q1)
    have T112 := T101.mv (h1 := h107) (by omega) (g109f z14 (by omega) (by show ¬ (_ = _ ∨ _ = _); omega)) (g109f z14v (by omega) (by show ¬ (_ = _ ∨ _ = _); omega))
    have T113 := T102.mv (h1 := h107) (by omega) (g109f z38 (by omega) (by show ¬ (_ = _ ∨ _ = _); omega)) (g109f z38v (by omega) (by show ¬ (_ = _ ∨ _ = _); omega))
    have T114 := T103.mv (h1 := h107) (by omega) (g109f z55 (by omega) (by show ¬ (_ = _ ∨ _ = _); omega)) (g109f z55v (by omega) (by show ¬ (_ = _ ∨ _ = _); omega))
    refine AQ.callVr (av := []) (st := []) (c_toS v108b (by simp only [List.length_append, gm_lit_l, List.length_nil]; omega)) lk_RX10_46 (by omega) rfl rfl ⟨_, _, _, v108b.b.2.choose_spec⟩ ⟨_, rfl, rfl⟩ (Nat.le_of_ble_eq_true rfl) eX10_text_166 (fun z115 h117 e116 => ?_)
    obtain ⟨⟨z115v, z115t, z115a, z115b⟩, g118f, ⟨g118a, g118b⟩, g118c, g118d⟩ := e116
    have z115g := z115t.b.1
    have z115h := z115g.1
    have z115i := z115g.2
    have k119 := (g118f q (by omega) id).trans k110
    have F120 : ∀ q, q < h.2.1 → ¬ NO q → h117.1 q = h.1 q := fun q q0 q1 => (g118f q (by omega) id).trans (F111 q q0 q1)
    have T121 := T112.mv (h1 := h117) (by omega) (g118f z14 (by omega) id) (g118f z14v (by omega) id)
    have T122 := T113.mv (h1 := h117) (by omega) (g118f z38 (by omega) id) (g118f z38v (by omega) id)
    have T123 := T114.mv (h1 := h117) (by omega) (g118f z55 (by omega) id) (g118f z55v (by omega) id)
    refine q_goto (tgt := 173) eX10_text_169 (by decide) ?_
    exact q_ra rfl eX10_text_173 ⟨z115, rfl, ⟨z115v, (by have t9 := z115t; have e9 : ((([] ++ (gm_lit 32)) ++ ((([] ++ (X1 2)) ++ (gm_lit 31)) ++ (X2 (2 + 1)))) ++ (gm_lit 33)) = gm_xop 5 X1 X2 l := (by unfold gm_xop gm_wrp; rw [if_pos (show gm_own 5 < l by rw [show gm_own 5 = 2 from rfl]; omega), show gm_lit 32 = [40] from rfl, show gm_lit 33 = [41] from rfl, show gm_lit 31 = gm_opt 5 from rfl, show gm_own 5 = 2 from rfl]; simp only [List.nil_append, List.append_assoc, List.cons_append]); rw [e9] at t9; exact t9), Or.inr (by omega), Or.inr (by omega)⟩, ⟨F120, ⟨by omega, by omega⟩, by omega, by omega⟩⟩

theorem c_X10_text {w : am_w} {bs : Nat} {B : Nat → Prop} : ∀ {N : Nat}, gm_tl N ≤ 900 → ∀ {h : AH} {q : Nat} {L : GL} {X : Int → List Int} {l : Int}, TXW w h bs → NT h B N q L X → (∀ q, B q → q < h.2.1) → (-100 ≤ l ∧ l ≤ 100) → AE w m_X10_text (N + 8) [vr q, vi l] h (am_ref (fun z h1 => (∃ vz, STL h1 z vz (X l) ∧ (vz < bs ∨ h.2.1 ≤ vz) ∧ (z < bs ∨ h.2.1 ≤ z)) ∧ KF h h1 NO (gm_tc N) (3100 * gm_tc N))) := by
  have leaf : ∀ {N : Nat} {h : AH} {q : Nat} {L : GL} {X : Int → List Int} {l : Int}, TXW w h bs → NLF h B q L X → (∀ q, B q → q < h.2.1) → AE w m_X10_text (N + 8) [vr q, vi l] h (am_ref (fun z h1 => (∃ vz, STL h1 z vz (X l) ∧ (vz < bs ∨ h.2.1 ≤ vz) ∧ (z < bs ∨ h.2.1 ≤ z)) ∧ KF h h1 NO (gm_tc N) (3100 * gm_tc N))) := by
    rintro N h q L X l hT ⟨b, k, nb, c, ⟨rfl, n0, n1, -, rfl⟩ | ⟨rfl, n0, n1, -, rfl⟩⟩ hB
    · exact c_X10_text0 hT c (hB q b) n0 n1
    · exact c_X10_text1 hT c n0 n1
  intro N
  induction N with
  | zero => intro _ h q L X l hT hN hB _; exact leaf hT hN hB
  | succ N ih =>
    intro hl h q L X l hT hN hB hr
    have gl : gm_tl (N + 1) = 2 * gm_tl N + 5 := rfl
    rcases hN with hN | ⟨b, k, nb, lq, rq, L1, L2, X1, X2, hk, c, n1, n2, -, rfl⟩
    · exact leaf hT hN hB
    · have ih := @ih (by omega)
      rcases (show k = 2 ∨ k = 3 ∨ k = 4 ∨ k = 5 by omega) with rfl | rfl | rfl | rfl
      · exact c_X10_textO2 hT hB b c n1 n2 hl hr ih
      · exact c_X10_textO3 hT hB b c n1 n2 hl hr ih
      · exact c_X10_textO4 hT hB b c n1 n2 hl hr ih
      · exact c_X10_textO5 hT hB b c n1 n2 hl hr ih
