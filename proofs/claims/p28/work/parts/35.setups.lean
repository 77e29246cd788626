/-! CornerClaims$Setup: the score. -/
abbrev GL : Type := List (Int × Int)
abbrev GRL : Type := (Int × Int) ⊕ (GL × Int)
/-- a factor, where a sum within brackets is read by s, or may not be -/
def rA (kd st vl : Int → Int) (s : Option (GL → Int → GRL)) (L : GL) (he : Int) : GRL := if kd he = 40 then (match s with | none => .inl (-6, st he) | some s => rB (s L (he + 1)) fun r => rB (rT kd st 41 r.2) fun _ => .inr (r.1, r.2 + 1)) else if kd he < 0 then .inr (L ++ [(1, -1 - kd he)], he + 1) else if kd he = 2 then (if vl he ≤ 9999 then .inr (L ++ [(0, vl he)], he + 1) else .inl (-3, st he)) else .inl (-2, st he)
/-- more of them, joined by signs -/
def rJ (kd : Int → Int) (f : GL → Int → GRL) (a b oa ob : Int) : Nat → GL → Int → GRL
  | 0, L, he => .inr (L, he)
  | n + 1, L, he => if kd he = a then rB (f L (he + 1)) (fun r => rJ kd f a b oa ob n (r.1 ++ [(oa, 0)]) r.2) else if kd he = b then rB (f L (he + 1)) (fun r => rJ kd f a b oa ob n (r.1 ++ [(ob, 0)]) r.2) else .inr (L, he)
def rM (kd st vl : Int → Int) (s : Option (GL → Int → GRL)) (L : GL) (he : Int) : GRL := rB (rA kd st vl s L he) fun r => rJ kd (rA kd st vl s) 42 47 4 5 800 r.1 r.2
/-- a sum, with so many brackets within one another -/
def rU (kd st vl : Int → Int) : Nat → GL → Int → GRL
  | 0, L, he => rB (rM kd st vl none L he) fun r => rJ kd (rM kd st vl none) 43 45 2 3 800 r.1 r.2
  | m + 1, L, he => rB (rM kd st vl (some (rU kd st vl m)) L he) fun r => rJ kd (rM kd st vl (some (rU kd st vl m))) 43 45 2 3 800 r.1 r.2
theorem rU_0 {kd st vl : Int → Int} {L : GL} {he : Int} : rU kd st vl 0 L he = rB (rM kd st vl none L he) fun r => rJ kd (rM kd st vl none) 43 45 2 3 800 r.1 r.2 := rfl
theorem rU_1 {kd st vl : Int → Int} {L : GL} {he : Int} : rU kd st vl 1 L he = rB (rM kd st vl (some (rU kd st vl 0)) L he) fun r => rJ kd (rM kd st vl (some (rU kd st vl 0))) 43 45 2 3 800 r.1 r.2 := rfl
theorem rU_2 {kd st vl : Int → Int} {L : GL} {he : Int} : rU kd st vl 2 L he = rB (rM kd st vl (some (rU kd st vl 1)) L he) fun r => rJ kd (rM kd st vl (some (rU kd st vl 1))) 43 45 2 3 800 r.1 r.2 := rfl
theorem rU_3 {kd st vl : Int → Int} {L : GL} {he : Int} : rU kd st vl 3 L he = rB (rM kd st vl (some (rU kd st vl 2)) L he) fun r => rJ kd (rM kd st vl (some (rU kd st vl 2))) 43 45 2 3 800 r.1 r.2 := rfl
theorem rU_4 {kd st vl : Int → Int} {L : GL} {he : Int} : rU kd st vl 4 L he = rB (rM kd st vl (some (rU kd st vl 3)) L he) fun r => rJ kd (rM kd st vl (some (rU kd st vl 3))) 43 45 2 3 800 r.1 r.2 := rfl
theorem SU.cast {h : AH} {t u b j : Nat} {kd st vl : Int → Int} {he nu px cl cl' hs er ea : Int} {cd : Int → Int} (hS : SU h t u b j kd st vl he nu px cl hs er ea cd) (e : cl = cl') : SU h t u b j kd st vl he nu px cl' hs er ea cd := e ▸ hS
/-- the code so far -/
def CL (cd : Int → Int) (L : GL) : Prop := ∀ (k : Nat) (o : Int × Int), L[k]? = some o → cd k = gm_en o
theorem CL.add {cd : Int → Int} {L : GL} {o : Int × Int} {v : Int} (h : CL cd L) (e : v = gm_en o) : CL (am_uI cd (L.length : Int) v) (L ++ [o]) := by
  intro k q hq
  by_cases c : k = L.length
  · subst c
    rw [List.getElem?_append_right (Nat.le_refl _), Nat.sub_self] at hq
    have : o = q := by simpa using hq
    subst this
    rw [am_uI_at, e]
  · have hk : k < L.length := by
      have := (List.getElem?_eq_some_iff.mp hq).1
      simp at this
      omega
    rw [List.getElem?_append_left hk] at hq
    rw [am_uI_ne _ _ (by omega)]
    exact h k q hq
theorem rJ_end {kd : Int → Int} {f : GL → Int → GRL} {a b oa ob : Int} {m : Nat} {L : GL} {he : Int} (h : m = 0 ∨ (kd he ≠ a ∧ kd he ≠ b)) : rJ kd f a b oa ob m L he = .inr (L, he) := by
  cases m with
  | zero => rfl
  | succ m => exact (if_neg (by omega)).trans (if_neg (by omega))
theorem rJ_go {kd : Int → Int} {f : GL → Int → GRL} {a b oa ob o : Int} {m : Nat} {L L2 : GL} {he he2 : Int} (hm : 0 < m) (h : (kd he = a ∧ o = oa) ∨ (kd he ≠ a ∧ kd he = b ∧ o = ob)) (hf : f L (he + 1) = .inr (L2, he2)) : rJ kd f a b oa ob m L he = rJ kd f a b oa ob (m - 1) (L2 ++ [(o, 0)]) he2 := by
  cases m with
  | zero => omega
  | succ m =>
    rcases h with ⟨h, rfl⟩ | ⟨h, h2, rfl⟩
    · exact (if_pos h).trans (rB_r hf _)
    · exact (if_neg h).trans ((if_pos h2).trans (rB_r hf _))
theorem rJ_no {kd : Int → Int} {f : GL → Int → GRL} {a b oa ob : Int} {m : Nat} {L : GL} {he : Int} {e : Int × Int} (hm : 0 < m) (h : kd he = a ∨ kd he = b) (hf : f L (he + 1) = .inl e) : rJ kd f a b oa ob m L he = .inl e := by
  cases m with
  | zero => omega
  | succ m =>
    by_cases c : kd he = a
    · exact (if_pos c).trans (rB_l hf _)
    · exact (if_neg c).trans ((if_pos (by omega)).trans (rB_l hf _))

set_option maxHeartbeats 1000000 in
theorem c_X6_addCode {w : am_w} {h : AH} {t u b j : Nat} {kd st vl : Int → Int} {he nu px cl hs er ea : Int} {cd : Int → Int} (hS : SU h t u b j kd st vl he nu px cl hs er ea cd) (cl0 : 0 ≤ cl) (cl1 : cl < 800) {v : Int} : AE w m_X6_addCode 1 [vr t, vi v] h (am_unit (fun h1 => SU h1 t u b j kd st vl he nu px (cl + 1) hs er ea (am_uI cd cl v) ∧ am_fr h h1 t (t + 7))) := by
  refine AE.of wf_X6_addCode (Nat.le_of_ble_eq_true rfl) (am_ok_v) ?_
  obtain ⟨tc, c0, c1, c2, c3, c4, cj, c5, cL⟩ := id hS
  refine q_blk (lv2 := [(0, vr t), (1, vi v)]) (st2 := [vr t]) kX6_addCode_0 rfl ?_
  refine q_gi eX6_addCode_1 fl_RX6_37 (Or.inl rfl) c0 (z := cl) rfl ?_
  refine AQ.of (AS.if_lt_f eX6_addCode_4 (by first | assumption | exact ⟨by omega, by omega⟩) (by omega) (by decide)) ?_
  refine q_blk (lv2 := [(0, vr t), (1, vi v)]) (st2 := [vr t]) kX6_addCode_7 rfl ?_
  refine q_gi eX6_addCode_8 fl_RX6_37 (Or.inl rfl) c0 (z := cl) rfl ?_
  refine q_blk (lv2 := [(0, vr t), (1, vi v)]) (st2 := [vr t, vi cl]) kX6_addCode_11 rfl ?_
  refine q_gr eX6_addCode_12 fl_RX6_21 (Or.inr ⟨_, rfl⟩) c0 rfl ?_
  refine q_al eX6_addCode_15 c4 (by decide) ?_
  refine AQ.of (AS.ic_ge_f eX6_addCode_16 (by first | assumption | exact ⟨by omega, by omega⟩) ⟨by decide, by decide⟩ (by omega) (by decide)) ?_
  refine q_blk (lv2 := [(0, vr t), (1, vi v)]) (st2 := [vr t]) kX6_addCode_19 rfl ?_
  refine q_gr eX6_addCode_20 fl_RX6_21 (Or.inr ⟨_, rfl⟩) c0 rfl ?_
  refine q_blk (lv2 := [(0, vr t), (1, vi v)]) (st2 := [vr t, vr (t + 6)]) kX6_addCode_23 rfl ?_
  refine q_gi eX6_addCode_24 fl_RX6_37 (Or.inl rfl) c0 (z := cl) rfl ?_
  refine q_blk (lv2 := [(0, vr t), (1, vi v)]) (st2 := [vi v, vi cl, vr (t + 6)]) kX6_addCode_27 rfl ?_
  refine q_is eX6_addCode_28 c4 (by omega) (by omega) (fun h1 e2 => ?_)
  have k3 := (am_ne e2 t (by omega)).trans c0
  have k4 := (am_ne e2 (t + 3) (by omega)).trans c1
  have k5 := (am_ne e2 (t + 4) (by omega)).trans c2
  have k6 := (am_ne e2 (t + 5) (by omega)).trans c3
  have k7 := am_at e2
  have k8 := (am_ne e2 j (by omega)).trans c5
  have k9 := cL.kept (lo := (t + 6)) (hi := (t + 6) + 1) (am_fr.st e2 (by omega) (by omega)) (by omega)
  refine q_blk (lv2 := [(0, vr t), (1, vi v)]) (st2 := [vr t, vr t]) kX6_addCode_29 rfl ?_
  refine q_gi eX6_addCode_31 fl_RX6_37 (Or.inl rfl) k3 (z := cl) rfl ?_
  refine q_blk (lv2 := [(0, vr t), (1, vi v)]) (st2 := [vi (cl + 1), vr t]) kX6_addCode_34 rfl ?_
  refine q_pi eX6_addCode_36 fl_RX6_37 (fun q hq => by cases hq; exact Or.inl rfl) (Or.inl rfl) k3 (Nat.le_of_ble_eq_true rfl) (l2 := [0, 0, 0, 0, 0, 0, 0, tc, he, nu, px, (cl + 1), hs, er, ea]) rfl (fun h10 e11 => ?_)
  have k12 := am_at e11
  have k13 := (am_ne e11 (t + 3) (by omega)).trans k4
  have k14 := (am_ne e11 (t + 4) (by omega)).trans k5
  have k15 := (am_ne e11 (t + 5) (by omega)).trans k6
  have k16 := (am_ne e11 (t + 6) (by omega)).trans k7
  have k17 := (am_ne e11 j (by omega)).trans k8
  have k18 := k9.kept (lo := t) (hi := t + 1) (am_fr.st e11 (by omega) (by omega)) (by omega)
  exact q_rv rfl eX6_addCode_39 ⟨rfl, ⟨_, k12, k13, k14, k15, k16, cj, k17, k18⟩, (am_fr.rf.tr ((am_fr.st e2 (by omega) (by omega)).tr (am_fr.st e11 (by omega) (by omega))))⟩

set_option maxHeartbeats 1000000 in
theorem c_X6_addCodeF {w : am_w} {h : AH} {t u b j : Nat} {kd st vl : Int → Int} {e a : Int} (hF : SF h t u b j kd st vl e a) {v : Int} : AE w m_X6_addCode 1 [vr t, vi v] h (am_unit (fun h1 => SF h1 t u b j kd st vl e a ∧ am_fr h h1 t (t + 7))) := by
  refine AE.of wf_X6_addCode (Nat.le_of_ble_eq_true rfl) (am_ok_v) ?_
  obtain ⟨he, nu, px, cl, hs, cd, hS, cl0, cl1⟩ := id hF
  obtain ⟨tc, c0, c1, c2, c3, c4, cj, c5, cL⟩ := id hS
  refine q_blk (lv2 := [(0, vr t), (1, vi v)]) (st2 := [vr t]) kX6_addCode_0 rfl ?_
  refine q_gi eX6_addCode_1 fl_RX6_37 (Or.inl rfl) c0 (z := cl) rfl ?_
  refine AQ.if_lt (tgt := 39) eX6_addCode_4 (by decide) (by first | assumption | exact ⟨by omega, by omega⟩) (fun br1 => ?_) (fun br1 => ?_)
  · skip
    exact q_rv rfl eX6_addCode_39 ⟨rfl, ⟨_, _, _, _, _, _, ⟨_, c0, c1, c2, c3, c4, cj, c5, cL⟩, by omega, by omega⟩, am_fr.rf⟩
  · skip
    refine q_blk (lv2 := [(0, vr t), (1, vi v)]) (st2 := [vr t]) kX6_addCode_7 rfl ?_
    refine q_gi eX6_addCode_8 fl_RX6_37 (Or.inl rfl) c0 (z := cl) rfl ?_
    refine q_blk (lv2 := [(0, vr t), (1, vi v)]) (st2 := [vr t, vi cl]) kX6_addCode_11 rfl ?_
    refine q_gr eX6_addCode_12 fl_RX6_21 (Or.inr ⟨_, rfl⟩) c0 rfl ?_
    refine q_al eX6_addCode_15 c4 (by decide) ?_
    refine AQ.ic_ge (tgt := 39) eX6_addCode_16 (by decide) (by first | assumption | exact ⟨by omega, by omega⟩) ⟨by decide, by decide⟩ (fun br2 => ?_) (fun br2 => ?_)
    · skip
      exact q_rv rfl eX6_addCode_39 ⟨rfl, ⟨_, _, _, _, _, _, ⟨_, c0, c1, c2, c3, c4, cj, c5, cL⟩, by omega, by omega⟩, am_fr.rf⟩
    · skip
      refine q_blk (lv2 := [(0, vr t), (1, vi v)]) (st2 := [vr t]) kX6_addCode_19 rfl ?_
      refine q_gr eX6_addCode_20 fl_RX6_21 (Or.inr ⟨_, rfl⟩) c0 rfl ?_
      refine q_blk (lv2 := [(0, vr t), (1, vi v)]) (st2 := [vr t, vr (t + 6)]) kX6_addCode_23 rfl ?_
      refine q_gi eX6_addCode_24 fl_RX6_37 (Or.inl rfl) c0 (z := cl) rfl ?_
      refine q_blk (lv2 := [(0, vr t), (1, vi v)]) (st2 := [vi v, vi cl, vr (t + 6)]) kX6_addCode_27 rfl ?_
      refine q_is eX6_addCode_28 c4 (by omega) (by omega) (fun h3 e4 => ?_)
      have k5 := (am_ne e4 t (by omega)).trans c0
      have k6 := (am_ne e4 (t + 3) (by omega)).trans c1
      have k7 := (am_ne e4 (t + 4) (by omega)).trans c2
      have k8 := (am_ne e4 (t + 5) (by omega)).trans c3
      have k9 := am_at e4
      have k10 := (am_ne e4 j (by omega)).trans c5
      have k11 := cL.kept (lo := (t + 6)) (hi := (t + 6) + 1) (am_fr.st e4 (by omega) (by omega)) (by omega)
      refine q_blk (lv2 := [(0, vr t), (1, vi v)]) (st2 := [vr t, vr t]) kX6_addCode_29 rfl ?_
      refine q_gi eX6_addCode_31 fl_RX6_37 (Or.inl rfl) k5 (z := cl) rfl ?_
      refine q_blk (lv2 := [(0, vr t), (1, vi v)]) (st2 := [vi (cl + 1), vr t]) kX6_addCode_34 rfl ?_
      refine q_pi eX6_addCode_36 fl_RX6_37 (fun q hq => by cases hq; exact Or.inl rfl) (Or.inl rfl) k5 (Nat.le_of_ble_eq_true rfl) (l2 := [0, 0, 0, 0, 0, 0, 0, tc, he, nu, px, (cl + 1), hs, e, a]) rfl (fun h12 e13 => ?_)
      have k14 := am_at e13
      have k15 := (am_ne e13 (t + 3) (by omega)).trans k6
      have k16 := (am_ne e13 (t + 4) (by omega)).trans k7
      have k17 := (am_ne e13 (t + 5) (by omega)).trans k8
      have k18 := (am_ne e13 (t + 6) (by omega)).trans k9
      have k19 := (am_ne e13 j (by omega)).trans k10
      have k20 := k11.kept (lo := t) (hi := t + 1) (am_fr.st e13 (by omega) (by omega)) (by omega)
      exact q_rv rfl eX6_addCode_39 ⟨rfl, ⟨_, _, _, _, _, _, ⟨_, k14, k15, k16, k17, k18, cj, k19, k20⟩, by omega, by omega⟩, (am_fr.rf.tr ((am_fr.st e4 (by omega) (by omega)).tr (am_fr.st e13 (by omega) (by omega))))⟩

theorem SF.ob {h : AH} {t u b j : Nat} {kd st vl : Int → Int} {e a : Int} (hF : SF h t u b j kd st vl e a) : am_ob h t 5 := by
  obtain ⟨he, nu, px, cl, hs, cd, hS, -⟩ := hF
  exact hS.ob

theorem am_lp7 {A B C E F J K : Type} {I : A → B → C → E → F → J → K → Prop} {G : A → B → C → E → F → J → K → Prop} (μ : A → B → C → E → F → J → K → Nat) (hs : ∀ a b c e f j k, I a b c e f j k → (∀ a' b' c' e' f' j' k', I a' b' c' e' f' j' k' → μ a' b' c' e' f' j' k' < μ a b c e f j k → G a' b' c' e' f' j' k') → G a b c e f j k) (a : A) (b : B) (c : C) (e : E) (f : F) (j : J) (k : K) (h : I a b c e f j k) : G a b c e f j k :=
  am_lp1 (I := fun q : A × B × C × E × F × J × K => I q.1 q.2.1 q.2.2.1 q.2.2.2.1 q.2.2.2.2.1 q.2.2.2.2.2.1 q.2.2.2.2.2.2) (G := fun q : A × B × C × E × F × J × K => G q.1 q.2.1 q.2.2.1 q.2.2.2.1 q.2.2.2.2.1 q.2.2.2.2.2.1 q.2.2.2.2.2.2) (fun q => μ q.1 q.2.1 q.2.2.1 q.2.2.2.1 q.2.2.2.2.1 q.2.2.2.2.2.1 q.2.2.2.2.2.2) (fun q hI kk => hs q.1 q.2.1 q.2.2.1 q.2.2.2.1 q.2.2.2.2.1 q.2.2.2.2.2.1 q.2.2.2.2.2.2 hI fun a' b' c' e' f' j' k' => kk (a', b', c', e', f', j', k')) (a, b, c, e, f, j, k) h

set_option maxHeartbeats 1000000 in
theorem c_X6_readFactor4 {w : am_w} {h : AH} {L : GL} {t u b j : Nat} {kd st vl : Int → Int} {he nu px hs er ea : Int} {cd : Int → Int} (hS : SU h t u b j kd st vl he nu px (L.length : Int) hs er ea cd) {n : Int} (n0 : n ≤ 800) (kn : kd n = 0) (he0 : 0 ≤ he) (he1 : he ≤ n) (kr : ∀ i, 0 ≤ i → i < 801 → -5 ≤ kd i ∧ kd i ≤ 100) (vq : ∀ i, 0 ≤ i → i < 801 → 0 ≤ vl i ∧ vl i ≤ 10000) (hL : CL cd L) (hl : (L.length : Int) ≤ he)  : AE w m_X6_readFactor 4 [vr t, vi 4] h (am_int (fun z h1 => ((z = 1 ∧ ∃ L' he', rA kd st vl none L he = .inr (L', he') ∧ (he < he' ∧ he' ≤ n ∧ (L'.length : Int) ≤ (L.length : Int) + (he' - he)) ∧ ∃ nu' cd', SU h1 t u b j kd st vl he' nu' px (L'.length : Int) hs er ea cd' ∧ CL cd' L') ∨ (z = 0 ∧ ∃ e a, rA kd st vl none L he = .inl (e, a) ∧ SF h1 t u b j kd st vl e a)) ∧ am_fr h h1 t (t + 7))) := by
  refine AE.of wf_X6_readFactor (Nat.le_of_ble_eq_true rfl) (am_ok_z (fun z h1 q => by rcases q.1 with q | q; exact Or.inr q.1; exact Or.inl q.1)) ?_
  obtain ⟨tc, c0, c1, c2, c3, c4, cj, c5, cL⟩ := id hS
  have kr1 := kr he he0 (by omega)
  have vr1 := vq he he0 (by omega)
  have hen : kd he ≠ 0 → he ≠ n := fun q e9 => by rw [e9] at q; omega
  refine q_blk (lv2 := [(0, vr t), (1, vi 4)]) (st2 := [vr t]) kX6_readFactor_0 rfl ?_
  refine q_Vi (av := []) (st := []) (c_X6_kindHere ⟨_, c0, c1, c2, c3, c4, cj, c5, cL⟩ (by omega) (by omega)) lk_RX6_70 (by decide) rfl rfl ⟨_, _, _, c0⟩ ⟨_, rfl, rfl⟩ (Nat.le_of_ble_eq_true rfl) eX6_readFactor_1 (fun z1 e2 => ?_)
  subst e2
  refine q_blk (lv2 := [(0, vr t), (1, vi 4), (2, vi (kd he))]) (st2 := [vi 40, vi (kd he)]) kX6_readFactor_4 rfl ?_
  refine AQ.ic_ne (tgt := 58) eX6_readFactor_8 (by decide) (by first | assumption | exact ⟨by omega, by omega⟩) ⟨by decide, by decide⟩ (fun br3 => ?_) (fun br3 => ?_)
  · skip
    refine q_blk (lv2 := [(0, vr t), (1, vi 4), (2, vi (kd he))]) (st2 := [vi (kd he)]) kX6_readFactor_58 rfl ?_
    refine AQ.if_ge (tgt := 79) eX6_readFactor_59 (by decide) (by first | assumption | exact ⟨by omega, by omega⟩) (fun br4 => ?_) (fun br4 => ?_)
    · skip
      refine q_blk (lv2 := [(0, vr t), (1, vi 4), (2, vi (kd he))]) (st2 := [vi 2, vi (kd he)]) kX6_readFactor_79 rfl ?_
      refine AQ.ic_eq (tgt := 91) eX6_readFactor_81 (by decide) (by first | assumption | exact ⟨by omega, by omega⟩) ⟨by decide, by decide⟩ (fun br5 => ?_) (fun br5 => ?_)
      · skip
        refine q_blk (lv2 := [(0, vr t), (1, vi 4), (2, vi (kd he))]) (st2 := [vr t, vr t]) kX6_readFactor_91 rfl ?_
        refine q_Vi (av := []) (st := [vr t]) (c_X6_valueHere ⟨_, c0, c1, c2, c3, c4, cj, c5, cL⟩ (by omega) (by omega)) lk_RX6_148 (by decide) rfl rfl ⟨_, _, _, c0⟩ ⟨_, rfl, rfl⟩ (Nat.le_of_ble_eq_true rfl) eX6_readFactor_93 (fun z6 e7 => ?_)
        subst e7
        refine q_pi eX6_readFactor_96 fl_RX6_31 (fun q hq => by cases hq; exact Or.inl rfl) (Or.inl rfl) c0 (Nat.le_of_ble_eq_true rfl) (l2 := [0, 0, 0, 0, 0, 0, 0, tc, he, (vl he), px, (L.length : Int), hs, er, ea]) rfl (fun h8 e9 => ?_)
        have k10 := am_at e9
        have k11 := (am_ne e9 (t + 3) (by omega)).trans c1
        have k12 := (am_ne e9 (t + 4) (by omega)).trans c2
        have k13 := (am_ne e9 (t + 5) (by omega)).trans c3
        have k14 := (am_ne e9 (t + 6) (by omega)).trans c4
        have k15 := (am_ne e9 j (by omega)).trans c5
        have k16 := cL.kept (lo := t) (hi := t + 1) (am_fr.st e9 (by omega) (by omega)) (by omega)
        refine q_blk (lv2 := [(0, vr t), (1, vi 4), (2, vi (kd he))]) (st2 := [vr t]) kX6_readFactor_99 rfl ?_
        refine q_gi eX6_readFactor_100 fl_RX6_31 (Or.inl rfl) k10 (z := (vl he)) rfl ?_
        refine q_blk (lv2 := [(0, vr t), (1, vi 4), (2, vi (kd he))]) (st2 := [vi 9999, vi (vl he)]) kX6_readFactor_103 rfl ?_
        refine AQ.ic_le (tgt := 116) eX6_readFactor_106 (by decide) (by first | assumption | exact ⟨by omega, by omega⟩) ⟨by decide, by decide⟩ (fun br17 => ?_) (fun br17 => ?_)
        · skip
          refine q_blk (lv2 := [(0, vr t), (1, vi 4), (2, vi (kd he))]) (st2 := [vr t, vr t]) kX6_readFactor_116 rfl ?_
          refine q_gi eX6_readFactor_118 fl_RX6_28 (Or.inl rfl) k10 (z := he) rfl ?_
          refine q_blk (lv2 := [(0, vr t), (1, vi 4), (2, vi (kd he))]) (st2 := [vi (he + 1), vr t]) kX6_readFactor_121 rfl ?_
          refine q_pi eX6_readFactor_123 fl_RX6_28 (fun q hq => by cases hq; exact Or.inl rfl) (Or.inl rfl) k10 (Nat.le_of_ble_eq_true rfl) (l2 := [0, 0, 0, 0, 0, 0, 0, tc, (he + 1), (vl he), px, (L.length : Int), hs, er, ea]) rfl (fun h18 e19 => ?_)
          have k20 := am_at e19
          have k21 := (am_ne e19 (t + 3) (by omega)).trans k11
          have k22 := (am_ne e19 (t + 4) (by omega)).trans k12
          have k23 := (am_ne e19 (t + 5) (by omega)).trans k13
          have k24 := (am_ne e19 (t + 6) (by omega)).trans k14
          have k25 := (am_ne e19 j (by omega)).trans k15
          have k26 := k16.kept (lo := t) (hi := t + 1) (am_fr.st e19 (by omega) (by omega)) (by omega)
          refine q_blk (lv2 := [(0, vr t), (1, vi 4), (2, vi (kd he))]) (st2 := [vr t, vr t]) kX6_readFactor_126 rfl ?_
          refine q_gi eX6_readFactor_128 fl_RX6_31 (Or.inl rfl) k20 (z := (vl he)) rfl ?_
          refine AQ.callVv (av := [vi (vl he)]) (st := []) (c_X6_addCode (v := (vl he)) ⟨_, k20, k21, k22, k23, k24, cj, k25, k26⟩ (by omega) (by omega)) lk_RX6_230 (by decide) rfl rfl ⟨_, _, _, k20⟩ ⟨_, rfl, rfl⟩ (Nat.le_of_ble_eq_true rfl) eX6_readFactor_131 (fun h29 e28 => ?_)
          obtain ⟨Xh29, Fh29⟩ := e28
          obtain ⟨g30t, g300, g301, g302, g303, g304, g30j, g305, g30L⟩ := id Xh29
          refine q_blk (lv2 := [(0, vr t), (1, vi 4), (2, vi (kd he))]) (st2 := [vi 1]) kX6_readFactor_134 rfl ?_
          exact q_rz rfl eX6_readFactor_135 (by decide) ⟨1, rfl, Or.inl ⟨rfl, L ++ [(0, vl he)], he + 1, by unfold rA; rw [if_neg (by omega), if_neg (by omega), if_pos (by omega), if_pos (by omega)], ⟨by omega, by omega, by simp; omega⟩, (vl he), (am_uI cd (L.length : Int) (vl he)), SU.cast ⟨_, g300, g301, g302, g303, g304, cj, g305, g30L⟩ (by simp), hL.add (by unfold gm_en; (try simp); (try omega))⟩, ((am_fr.rf.tr ((am_fr.st e9 (by omega) (by omega)).tr (am_fr.st e19 (by omega) (by omega)))).tr Fh29)⟩
        · skip
          refine q_blk (lv2 := [(0, vr t), (1, vi 4), (2, vi (kd he))]) (st2 := [vi (-3), vr t]) kX6_readFactor_109 rfl ?_
          refine AQ.callVi (av := [vi (-3)]) (st := []) (c_X6_fail (e := (-3)) ⟨_, k10, k11, k12, k13, k14, cj, k15, k16⟩ (by omega) (by omega)) lk_RX6_83 (by decide) rfl rfl ⟨_, _, _, k10⟩ ⟨_, rfl, rfl⟩ (Nat.le_of_ble_eq_true rfl) eX6_readFactor_112 (fun z31 h33 e32 => ?_)
          obtain ⟨z310, Xh33, Fh33⟩ := e32
          subst z310
          obtain ⟨g34t, g340, g341, g342, g343, g344, g34j, g345, g34L⟩ := id Xh33
          exact q_rz rfl eX6_readFactor_115 (by decide) ⟨0, rfl, Or.inr ⟨rfl, _, _, by unfold rA; rw [if_neg (by omega), if_neg (by omega), if_pos (by omega), if_neg (by omega)], ⟨_, _, _, _, _, _, ⟨_, g340, g341, g342, g343, g344, cj, g345, g34L⟩, by omega, by omega⟩⟩, ((am_fr.rf.tr (am_fr.st e9 (by omega) (by omega))).tr Fh33)⟩
      · skip
        refine q_blk (lv2 := [(0, vr t), (1, vi 4), (2, vi (kd he))]) (st2 := [vi (-2), vr t]) kX6_readFactor_84 rfl ?_
        refine AQ.callVi (av := [vi (-2)]) (st := []) (c_X6_fail (e := (-2)) ⟨_, c0, c1, c2, c3, c4, cj, c5, cL⟩ (by omega) (by omega)) lk_RX6_83 (by decide) rfl rfl ⟨_, _, _, c0⟩ ⟨_, rfl, rfl⟩ (Nat.le_of_ble_eq_true rfl) eX6_readFactor_87 (fun z35 h37 e36 => ?_)
        obtain ⟨z350, Xh37, Fh37⟩ := e36
        subst z350
        obtain ⟨g38t, g380, g381, g382, g383, g384, g38j, g385, g38L⟩ := id Xh37
        exact q_rz rfl eX6_readFactor_90 (by decide) ⟨0, rfl, Or.inr ⟨rfl, _, _, by unfold rA; rw [if_neg (by omega), if_neg (by omega), if_neg (by omega)], ⟨_, _, _, _, _, _, ⟨_, g380, g381, g382, g383, g384, cj, g385, g38L⟩, by omega, by omega⟩⟩, (am_fr.rf.tr Fh37)⟩
    · skip
      refine q_blk (lv2 := [(0, vr t), (1, vi 4), (2, vi (kd he))]) (st2 := [vr t, vr t]) kX6_readFactor_62 rfl ?_
      refine q_gi eX6_readFactor_64 fl_RX6_28 (Or.inl rfl) c0 (z := he) rfl ?_
      refine q_blk (lv2 := [(0, vr t), (1, vi 4), (2, vi (kd he))]) (st2 := [vi (he + 1), vr t]) kX6_readFactor_67 rfl ?_
      refine q_pi eX6_readFactor_69 fl_RX6_28 (fun q hq => by cases hq; exact Or.inl rfl) (Or.inl rfl) c0 (Nat.le_of_ble_eq_true rfl) (l2 := [0, 0, 0, 0, 0, 0, 0, tc, (he + 1), nu, px, (L.length : Int), hs, er, ea]) rfl (fun h39 e40 => ?_)
      have k41 := am_at e40
      have k42 := (am_ne e40 (t + 3) (by omega)).trans c1
      have k43 := (am_ne e40 (t + 4) (by omega)).trans c2
      have k44 := (am_ne e40 (t + 5) (by omega)).trans c3
      have k45 := (am_ne e40 (t + 6) (by omega)).trans c4
      have k46 := (am_ne e40 j (by omega)).trans c5
      have k47 := cL.kept (lo := t) (hi := t + 1) (am_fr.st e40 (by omega) (by omega)) (by omega)
      refine q_blk (lv2 := [(0, vr t), (1, vi 4), (2, vi (kd he))]) (st2 := [vi (kd he), vr t]) kX6_readFactor_72 rfl ?_
      refine AQ.callVv (av := [vi (kd he)]) (st := []) (c_X6_addCode (v := (kd he)) ⟨_, k41, k42, k43, k44, k45, cj, k46, k47⟩ (by omega) (by omega)) lk_RX6_230 (by decide) rfl rfl ⟨_, _, _, k41⟩ ⟨_, rfl, rfl⟩ (Nat.le_of_ble_eq_true rfl) eX6_readFactor_74 (fun h50 e49 => ?_)
      obtain ⟨Xh50, Fh50⟩ := e49
      obtain ⟨g51t, g510, g511, g512, g513, g514, g51j, g515, g51L⟩ := id Xh50
      refine q_blk (lv2 := [(0, vr t), (1, vi 4), (2, vi (kd he))]) (st2 := [vi 1]) kX6_readFactor_77 rfl ?_
      exact q_rz rfl eX6_readFactor_78 (by decide) ⟨1, rfl, Or.inl ⟨rfl, L ++ [(1, -1 - kd he)], he + 1, by unfold rA; rw [if_neg (by omega), if_pos (by omega)], ⟨by omega, by omega, by simp; omega⟩, nu, (am_uI cd (L.length : Int) (kd he)), SU.cast ⟨_, g510, g511, g512, g513, g514, cj, g515, g51L⟩ (by simp), hL.add (by unfold gm_en; (try simp); (try omega))⟩, ((am_fr.rf.tr (am_fr.st e40 (by omega) (by omega))).tr Fh50)⟩
  · skip
    refine q_blk (lv2 := [(0, vr t), (1, vi 4), (2, vi (kd he))]) (st2 := [vi 4, vi 4]) kX6_readFactor_11 rfl ?_
    refine AQ.of (AS.ic_lt_f eX6_readFactor_13 ⟨by decide, by decide⟩ ⟨by decide, by decide⟩ (by decide) (by decide)) ?_
    refine q_blk (lv2 := [(0, vr t), (1, vi 4), (2, vi (kd he))]) (st2 := [vi (-6), vr t]) kX6_readFactor_16 rfl ?_
    refine AQ.callVi (av := [vi (-6)]) (st := []) (c_X6_fail (e := (-6)) ⟨_, c0, c1, c2, c3, c4, cj, c5, cL⟩ (by omega) (by omega)) lk_RX6_83 (by decide) rfl rfl ⟨_, _, _, c0⟩ ⟨_, rfl, rfl⟩ (Nat.le_of_ble_eq_true rfl) eX6_readFactor_19 (fun z52 h54 e53 => ?_)
    obtain ⟨z520, Xh54, Fh54⟩ := e53
    subst z520
    obtain ⟨g55t, g550, g551, g552, g553, g554, g55j, g555, g55L⟩ := id Xh54
    exact q_rz rfl eX6_readFactor_22 (by decide) ⟨0, rfl, Or.inr ⟨rfl, _, _, by unfold rA; rw [if_pos (by omega)], ⟨_, _, _, _, _, _, ⟨_, g550, g551, g552, g553, g554, cj, g555, g55L⟩, by omega, by omega⟩⟩, (am_fr.rf.tr Fh54)⟩

set_option maxHeartbeats 1000000 in
theorem c_X6_readTerm4 {w : am_w} {h : AH} {L : GL} {t u b j : Nat} {kd st vl : Int → Int} {he nu px hs er ea : Int} {cd : Int → Int} (hS : SU h t u b j kd st vl he nu px (L.length : Int) hs er ea cd) {n : Int} (n0 : n ≤ 800) (kn : kd n = 0) (he0 : 0 ≤ he) (he1 : he ≤ n) (kr : ∀ i, 0 ≤ i → i < 801 → -5 ≤ kd i ∧ kd i ≤ 100) (vq : ∀ i, 0 ≤ i → i < 801 → 0 ≤ vl i ∧ vl i ≤ 10000) (hL : CL cd L) (hl : (L.length : Int) ≤ he)  : AE w m_X6_readTerm 5 [vr t, vi 4] h (am_int (fun z h1 => ((z = 1 ∧ ∃ L' he', rM kd st vl none L he = .inr (L', he') ∧ (he < he' ∧ he' ≤ n ∧ (L'.length : Int) ≤ (L.length : Int) + (he' - he)) ∧ ∃ nu' cd', SU h1 t u b j kd st vl he' nu' px (L'.length : Int) hs er ea cd' ∧ CL cd' L') ∨ (z = 0 ∧ ∃ e a, rM kd st vl none L he = .inl (e, a) ∧ SF h1 t u b j kd st vl e a)) ∧ am_fr h h1 t (t + 7))) := by
  refine AE.of wf_X6_readTerm (Nat.le_of_ble_eq_true rfl) (am_ok_z (fun z h1 q => by rcases q.1 with q | q; exact Or.inr q.1; exact Or.inl q.1)) ?_
  obtain ⟨tc, c0, c1, c2, c3, c4, cj, c5, cL⟩ := id hS
  have kr1 := kr he he0 (by omega)
  have vr1 := vq he he0 (by omega)
  have hen : kd he ≠ 0 → he ≠ n := fun q e9 => by rw [e9] at q; omega
  refine q_blk (lv2 := [(0, vr t), (1, vi 4)]) (st2 := [vi 4, vr t]) kX6_readTerm_0 rfl ?_
  refine AQ.callVi (av := [vi 4]) (st := []) (c_X6_readFactor4 (L := L) ⟨_, c0, c1, c2, c3, c4, cj, c5, cL⟩ n0 kn (by omega) (by omega) kr vq hL (by omega)) lk_RX6_233 (by decide) rfl rfl ⟨_, _, _, c0⟩ ⟨_, rfl, rfl⟩ (Nat.le_of_ble_eq_true rfl) eX6_readTerm_2 (fun z1 h3 e2 => ?_)
  rcases e2 with ⟨⟨rfl, Lh3, hh3e, qh3, ⟨bh3a, bh3b, bh3c⟩, hh3n, hh3c, Xh3, Ch3⟩ | ⟨rfl, eh3, ah3, qh3, Xh3⟩, Fh3⟩
  · skip
    obtain ⟨g4t, g40, g41, g42, g43, g44, g4j, g45, g4L⟩ := id Xh3
    refine q_blk (lv2 := [(0, vr t), (1, vi 4), (2, vi 1), (3, vi 0)]) (st2 := []) kX6_readTerm_5 rfl ?_
    refine am_lp7 (I := fun (g : Int) (i : Int) (hh : AH) (L9 : GL) (e9 : Int) (v9 : Int) (c9 : Int → Int) => (0 ≤ i ∧ i ≤ 800) ∧ am_fr h hh t (t + 7) ∧ ((g = 1 ∧ (he < e9 ∧ e9 ≤ n ∧ (L9.length : Int) ≤ (L.length : Int) + (e9 - he)) ∧ rJ kd (rA kd st vl none) 42 47 4 5 (800 - i.toNat) L9 e9 = rM kd st vl none L he ∧ CL c9 L9 ∧ SU hh t u b j kd st vl e9 v9 px (L9.length : Int) hs er ea c9) ∨ (g = 0 ∧ ∃ e a, rM kd st vl none L he = .inl (e, a) ∧ SF hh t u b j kd st vl e a))) (μ := fun (g : Int) (i : Int) (hh : AH) (L9 : GL) (e9 : Int) (v9 : Int) (c9 : Int → Int) => (800 - i).toNat) (G := fun (g : Int) (i : Int) (hh : AH) (L9 : GL) (e9 : Int) (v9 : Int) (c9 : Int → Int) => AQ w m_X6_readTerm 5 8 [(0, vr t), (1, vi 4), (2, vi g), (3, vi i)] [] hh (am_int (fun z h1 => ((z = 1 ∧ ∃ L' he', rM kd st vl none L he = .inr (L', he') ∧ (he < he' ∧ he' ≤ n ∧ (L'.length : Int) ≤ (L.length : Int) + (he' - he)) ∧ ∃ nu' cd', SU h1 t u b j kd st vl he' nu' px (L'.length : Int) hs er ea cd' ∧ CL cd' L') ∨ (z = 0 ∧ ∃ e a, rM kd st vl none L he = .inl (e, a) ∧ SF h1 t u b j kd st vl e a)) ∧ am_fr h h1 t (t + 7)))) ?_ 1 0 h3 Lh3 hh3e hh3n hh3c (⟨⟨by omega, by omega⟩, (am_fr.rf.tr Fh3), Or.inl ⟨rfl, ⟨by omega, by omega, by omega⟩, by rw [show (800 - (0 : Int).toNat : Nat) = 800 from rfl]; unfold rM; rw [rB_r qh3], Ch3, ⟨_, g40, g41, g42, g43, g44, cj, g45, g4L⟩⟩⟩)
    intro g i hh L9 e9 v9 c9 hI6 ih5
    obtain ⟨⟨i0, i1⟩, hfr, hG⟩ := hI6
    have hg9 : g = 0 ∨ g = 1 := by rcases hG with q | q; exact Or.inr q.1; exact Or.inl q.1
    refine q_blk (lv2 := [(0, vr t), (1, vi 4), (2, vi g), (3, vi i)]) (st2 := [vi 800, vi i]) kX6_readTerm_8 rfl ?_
    refine AQ.ic_ge (tgt := 81) eX6_readTerm_12 (by decide) (by first | assumption | exact ⟨by omega, by omega⟩) ⟨by decide, by decide⟩ (fun br7 => ?_) (fun br7 => ?_)
    · skip
      refine q_blk (lv2 := [(0, vr t), (1, vi 4), (2, vi g), (3, vi i)]) (st2 := [vi g]) kX6_readTerm_81 rfl ?_
      exact q_rz rfl eX6_readTerm_82 (by omega) ⟨g, rfl, (by rcases hG with ⟨rfl, hb9, hJ9, hL9, hS9⟩ | hG; exact Or.inl ⟨rfl, L9, e9, hJ9.symm.trans (rJ_end (Or.inl (by omega))), hb9, _, _, hS9, hL9⟩; exact Or.inr hG), hfr⟩
    · skip
      refine q_blk (lv2 := [(0, vr t), (1, vi 4), (2, vi g), (3, vi i)]) (st2 := [vi g]) kX6_readTerm_15 rfl ?_
      refine AQ.if_eq (tgt := 81) eX6_readTerm_16 (by decide) (by first | assumption | exact ⟨by omega, by omega⟩) (fun br8 => ?_) (fun br8 => ?_)
      · skip
        refine q_blk (lv2 := [(0, vr t), (1, vi 4), (2, vi g), (3, vi i)]) (st2 := [vi g]) kX6_readTerm_81 rfl ?_
        exact q_rz rfl eX6_readTerm_82 (by omega) ⟨g, rfl, (by rcases hG with ⟨rfl, hb9, hJ9, hL9, hS9⟩ | hG; exact Or.inl ⟨rfl, L9, e9, hJ9.symm.trans (rJ_end (Or.inl (by omega))), hb9, _, _, hS9, hL9⟩; exact Or.inr hG), hfr⟩
      · skip
        obtain ⟨-, ⟨b9a, b9b, b9c⟩, hJ9, hL9, hS9⟩ := hG.resolve_right (fun q => absurd q.1 (by omega))
        obtain ⟨wt, w0, w1, w2, w3, w4, wj, w5, wL⟩ := id hS9
        have kr9 := kr e9 (by omega) (by omega)
        have hen9 : kd e9 ≠ 0 → e9 ≠ n := fun q e => by rw [e] at q; omega
        refine q_blk (lv2 := [(0, vr t), (1, vi 4), (2, vi g), (3, vi i)]) (st2 := [vr t]) kX6_readTerm_19 rfl ?_
        refine q_Vi (av := []) (st := []) (c_X6_kindHere ⟨_, w0, w1, w2, w3, w4, cj, w5, wL⟩ (by omega) (by omega)) lk_RX6_70 (by decide) rfl rfl ⟨_, _, _, w0⟩ ⟨_, rfl, rfl⟩ (Nat.le_of_ble_eq_true rfl) eX6_readTerm_20 (fun z9 e10 => ?_)
        subst e10
        refine q_blk (lv2 := [(0, vr t), (1, vi 4), (2, vi g), (3, vi i), (4, vi (kd e9))]) (st2 := [vi 42, vi (kd e9)]) kX6_readTerm_23 rfl ?_
        refine AQ.ic_eq (tgt := 41) eX6_readTerm_29 (by decide) (by first | assumption | exact ⟨by omega, by omega⟩) ⟨by decide, by decide⟩ (fun br11 => ?_) (fun br11 => ?_)
        · skip
          refine q_blk (lv2 := [(0, vr t), (1, vi 4), (2, vi g), (3, vi i), (4, vi (kd e9))]) (st2 := [vr t, vr t]) kX6_readTerm_41 rfl ?_
          refine q_gi eX6_readTerm_43 fl_RX6_28 (Or.inl rfl) w0 (z := e9) rfl ?_
          refine q_blk (lv2 := [(0, vr t), (1, vi 4), (2, vi g), (3, vi i), (4, vi (kd e9))]) (st2 := [vi (e9 + 1), vr t]) kX6_readTerm_46 rfl ?_
          refine q_pi eX6_readTerm_48 fl_RX6_28 (fun q hq => by cases hq; exact Or.inl rfl) (Or.inl rfl) w0 (Nat.le_of_ble_eq_true rfl) (l2 := [0, 0, 0, 0, 0, 0, 0, wt, (e9 + 1), v9, px, (L9.length : Int), hs, er, ea]) rfl (fun h12 e13 => ?_)
          have k14 := am_at e13
          have k15 := (am_ne e13 (t + 3) (by omega)).trans w1
          have k16 := (am_ne e13 (t + 4) (by omega)).trans w2
          have k17 := (am_ne e13 (t + 5) (by omega)).trans w3
          have k18 := (am_ne e13 (t + 6) (by omega)).trans w4
          have k19 := (am_ne e13 j (by omega)).trans w5
          have k20 := wL.kept (lo := t) (hi := t + 1) (am_fr.st e13 (by omega) (by omega)) (by omega)
          refine q_blk (lv2 := [(0, vr t), (1, vi 4), (2, vi g), (3, vi i), (4, vi (kd e9))]) (st2 := [vi 4, vr t]) kX6_readTerm_51 rfl ?_
          refine AQ.callVi (av := [vi 4]) (st := []) (c_X6_readFactor4 (L := L9) ⟨_, k14, k15, k16, k17, k18, cj, k19, k20⟩ n0 kn (by omega) (by omega) kr vq hL9 (by omega)) lk_RX6_233 (by decide) rfl rfl ⟨_, _, _, k14⟩ ⟨_, rfl, rfl⟩ (Nat.le_of_ble_eq_true rfl) eX6_readTerm_53 (fun z21 h23 e22 => ?_)
          rcases e22 with ⟨⟨rfl, Lh23, hh23e, qh23, ⟨bh23a, bh23b, bh23c⟩, hh23n, hh23c, Xh23, Ch23⟩ | ⟨rfl, eh23, ah23, qh23, Xh23⟩, Fh23⟩
          · skip
            obtain ⟨g24t, g240, g241, g242, g243, g244, g24j, g245, g24L⟩ := id Xh23
            refine q_blk (lv2 := [(0, vr t), (1, vi 4), (2, vi 1), (3, vi i), (4, vi (kd e9))]) (st2 := [vi 42, vi (kd e9), vr t]) kX6_readTerm_56 rfl ?_
            refine AQ.ic_ne (tgt := 70) eX6_readTerm_62 (by decide) (by first | assumption | exact ⟨by omega, by omega⟩) ⟨by decide, by decide⟩ (fun br25 => ?_) (fun br25 => ?_)
            · skip
              refine q_blk (lv2 := [(0, vr t), (1, vi 4), (2, vi 1), (3, vi i), (4, vi (kd e9))]) (st2 := [vi (-9), vr t]) kX6_readTerm_70 rfl ?_
              refine AQ.callVv (av := [vi (-9)]) (st := []) (c_X6_addCode (v := (-9)) ⟨_, g240, g241, g242, g243, g244, cj, g245, g24L⟩ (by omega) (by omega)) lk_RX6_230 (by decide) rfl rfl ⟨_, _, _, g240⟩ ⟨_, rfl, rfl⟩ (Nat.le_of_ble_eq_true rfl) eX6_readTerm_72 (fun h28 e27 => ?_)
              obtain ⟨Xh28, Fh28⟩ := e27
              obtain ⟨g29t, g290, g291, g292, g293, g294, g29j, g295, g29L⟩ := id Xh28
              refine q_blk (lv2 := [(0, vr t), (1, vi 4), (2, vi 1), (3, vi (i + 1)), (4, vi (kd e9))]) (st2 := []) kX6_readTerm_75 rfl ?_
              refine q_goto (tgt := 8) eX6_readTerm_78 (by decide) ?_
              refine q_sub (lv2 := [(0, vr t), (1, vi 4), (2, vi 1), (3, vi (i + 1))]) [0, 1, 2, 3] rfl ?_
              exact ih5 1 (i + 1) h28 (Lh23 ++ [(5, 0)]) hh23e hh23n (am_uI hh23c (Lh23.length : Int) (-9)) (⟨⟨by omega, by omega⟩, hfr.tr (((am_fr.rf.tr (am_fr.st e13 (by omega) (by omega))).tr Fh23).tr Fh28), Or.inl ⟨rfl, ⟨by omega, by omega, by simp; omega⟩, by rw [show 800 - (i + 1).toNat = 800 - i.toNat - 1 by omega]; exact (rJ_go (o := 5) (by omega) (by omega) qh23).symm.trans hJ9, Ch23.add (by unfold gm_en; simp), SU.cast ⟨_, g290, g291, g292, g293, g294, cj, g295, g29L⟩ (by simp)⟩⟩) (by omega)
            · skip
              refine q_blk (lv2 := [(0, vr t), (1, vi 4), (2, vi 1), (3, vi i), (4, vi (kd e9))]) (st2 := [vi (-8), vr t]) kX6_readTerm_65 rfl ?_
              refine q_goto (tgt := 72) eX6_readTerm_67 (by decide) ?_
              refine AQ.callVv (av := [vi (-8)]) (st := []) (c_X6_addCode (v := (-8)) ⟨_, g240, g241, g242, g243, g244, cj, g245, g24L⟩ (by omega) (by omega)) lk_RX6_230 (by decide) rfl rfl ⟨_, _, _, g240⟩ ⟨_, rfl, rfl⟩ (Nat.le_of_ble_eq_true rfl) eX6_readTerm_72 (fun h32 e31 => ?_)
              obtain ⟨Xh32, Fh32⟩ := e31
              obtain ⟨g33t, g330, g331, g332, g333, g334, g33j, g335, g33L⟩ := id Xh32
              refine q_blk (lv2 := [(0, vr t), (1, vi 4), (2, vi 1), (3, vi (i + 1)), (4, vi (kd e9))]) (st2 := []) kX6_readTerm_75 rfl ?_
              refine q_goto (tgt := 8) eX6_readTerm_78 (by decide) ?_
              refine q_sub (lv2 := [(0, vr t), (1, vi 4), (2, vi 1), (3, vi (i + 1))]) [0, 1, 2, 3] rfl ?_
              exact ih5 1 (i + 1) h32 (Lh23 ++ [(4, 0)]) hh23e hh23n (am_uI hh23c (Lh23.length : Int) (-8)) (⟨⟨by omega, by omega⟩, hfr.tr (((am_fr.rf.tr (am_fr.st e13 (by omega) (by omega))).tr Fh23).tr Fh32), Or.inl ⟨rfl, ⟨by omega, by omega, by simp; omega⟩, by rw [show 800 - (i + 1).toNat = 800 - i.toNat - 1 by omega]; exact (rJ_go (o := 4) (by omega) (by omega) qh23).symm.trans hJ9, Ch23.add (by unfold gm_en; simp), SU.cast ⟨_, g330, g331, g332, g333, g334, cj, g335, g33L⟩ (by simp)⟩⟩) (by omega)
          · skip
            refine q_blk (lv2 := [(0, vr t), (1, vi 4), (2, vi 0), (3, vi i), (4, vi (kd e9))]) (st2 := [vi 42, vi (kd e9), vr t]) kX6_readTerm_56 rfl ?_
            refine AQ.ic_ne (tgt := 70) eX6_readTerm_62 (by decide) (by first | assumption | exact ⟨by omega, by omega⟩) ⟨by decide, by decide⟩ (fun br34 => ?_) (fun br34 => ?_)
            · skip
              refine q_blk (lv2 := [(0, vr t), (1, vi 4), (2, vi 0), (3, vi i), (4, vi (kd e9))]) (st2 := [vi (-9), vr t]) kX6_readTerm_70 rfl ?_
              refine AQ.callVv (av := [vi (-9)]) (st := []) (c_X6_addCodeF Xh23 (v := (-9))) lk_RX6_230 (by decide) rfl rfl (SF.ob Xh23) ⟨_, rfl, rfl⟩ (Nat.le_of_ble_eq_true rfl) eX6_readTerm_72 (fun h37 e36 => ?_)
              obtain ⟨Xh37, Fh37⟩ := e36
              refine q_blk (lv2 := [(0, vr t), (1, vi 4), (2, vi 0), (3, vi (i + 1)), (4, vi (kd e9))]) (st2 := []) kX6_readTerm_75 rfl ?_
              refine q_goto (tgt := 8) eX6_readTerm_78 (by decide) ?_
              refine q_sub (lv2 := [(0, vr t), (1, vi 4), (2, vi 0), (3, vi (i + 1))]) [0, 1, 2, 3] rfl ?_
              exact ih5 0 (i + 1) h37 L 0 0 cd (⟨⟨by omega, by omega⟩, hfr.tr (((am_fr.rf.tr (am_fr.st e13 (by omega) (by omega))).tr Fh23).tr Fh37), Or.inr ⟨rfl, _, _, hJ9.symm.trans (rJ_no (by omega) (by omega) qh23), Xh37⟩⟩) (by omega)
            · skip
              refine q_blk (lv2 := [(0, vr t), (1, vi 4), (2, vi 0), (3, vi i), (4, vi (kd e9))]) (st2 := [vi (-8), vr t]) kX6_readTerm_65 rfl ?_
              refine q_goto (tgt := 72) eX6_readTerm_67 (by decide) ?_
              refine AQ.callVv (av := [vi (-8)]) (st := []) (c_X6_addCodeF Xh23 (v := (-8))) lk_RX6_230 (by decide) rfl rfl (SF.ob Xh23) ⟨_, rfl, rfl⟩ (Nat.le_of_ble_eq_true rfl) eX6_readTerm_72 (fun h40 e39 => ?_)
              obtain ⟨Xh40, Fh40⟩ := e39
              refine q_blk (lv2 := [(0, vr t), (1, vi 4), (2, vi 0), (3, vi (i + 1)), (4, vi (kd e9))]) (st2 := []) kX6_readTerm_75 rfl ?_
              refine q_goto (tgt := 8) eX6_readTerm_78 (by decide) ?_
              refine q_sub (lv2 := [(0, vr t), (1, vi 4), (2, vi 0), (3, vi (i + 1))]) [0, 1, 2, 3] rfl ?_
              exact ih5 0 (i + 1) h40 L 0 0 cd (⟨⟨by omega, by omega⟩, hfr.tr (((am_fr.rf.tr (am_fr.st e13 (by omega) (by omega))).tr Fh23).tr Fh40), Or.inr ⟨rfl, _, _, hJ9.symm.trans (rJ_no (by omega) (by omega) qh23), Xh40⟩⟩) (by omega)
        · skip
          refine q_blk (lv2 := [(0, vr t), (1, vi 4), (2, vi g), (3, vi i), (4, vi (kd e9))]) (st2 := [vi 47, vi (kd e9)]) kX6_readTerm_32 rfl ?_
          refine AQ.ic_eq (tgt := 41) eX6_readTerm_36 (by decide) (by first | assumption | exact ⟨by omega, by omega⟩) ⟨by decide, by decide⟩ (fun br41 => ?_) (fun br41 => ?_)
          · skip
            refine q_blk (lv2 := [(0, vr t), (1, vi 4), (2, vi g), (3, vi i), (4, vi (kd e9))]) (st2 := [vr t, vr t]) kX6_readTerm_41 rfl ?_
            refine q_gi eX6_readTerm_43 fl_RX6_28 (Or.inl rfl) w0 (z := e9) rfl ?_
            refine q_blk (lv2 := [(0, vr t), (1, vi 4), (2, vi g), (3, vi i), (4, vi (kd e9))]) (st2 := [vi (e9 + 1), vr t]) kX6_readTerm_46 rfl ?_
            refine q_pi eX6_readTerm_48 fl_RX6_28 (fun q hq => by cases hq; exact Or.inl rfl) (Or.inl rfl) w0 (Nat.le_of_ble_eq_true rfl) (l2 := [0, 0, 0, 0, 0, 0, 0, wt, (e9 + 1), v9, px, (L9.length : Int), hs, er, ea]) rfl (fun h42 e43 => ?_)
            have k44 := am_at e43
            have k45 := (am_ne e43 (t + 3) (by omega)).trans w1
            have k46 := (am_ne e43 (t + 4) (by omega)).trans w2
            have k47 := (am_ne e43 (t + 5) (by omega)).trans w3
            have k48 := (am_ne e43 (t + 6) (by omega)).trans w4
            have k49 := (am_ne e43 j (by omega)).trans w5
            have k50 := wL.kept (lo := t) (hi := t + 1) (am_fr.st e43 (by omega) (by omega)) (by omega)
            refine q_blk (lv2 := [(0, vr t), (1, vi 4), (2, vi g), (3, vi i), (4, vi (kd e9))]) (st2 := [vi 4, vr t]) kX6_readTerm_51 rfl ?_
            refine AQ.callVi (av := [vi 4]) (st := []) (c_X6_readFactor4 (L := L9) ⟨_, k44, k45, k46, k47, k48, cj, k49, k50⟩ n0 kn (by omega) (by omega) kr vq hL9 (by omega)) lk_RX6_233 (by decide) rfl rfl ⟨_, _, _, k44⟩ ⟨_, rfl, rfl⟩ (Nat.le_of_ble_eq_true rfl) eX6_readTerm_53 (fun z51 h53 e52 => ?_)
            rcases e52 with ⟨⟨rfl, Lh53, hh53e, qh53, ⟨bh53a, bh53b, bh53c⟩, hh53n, hh53c, Xh53, Ch53⟩ | ⟨rfl, eh53, ah53, qh53, Xh53⟩, Fh53⟩
            · skip
              obtain ⟨g54t, g540, g541, g542, g543, g544, g54j, g545, g54L⟩ := id Xh53
              refine q_blk (lv2 := [(0, vr t), (1, vi 4), (2, vi 1), (3, vi i), (4, vi (kd e9))]) (st2 := [vi 42, vi (kd e9), vr t]) kX6_readTerm_56 rfl ?_
              refine AQ.ic_ne (tgt := 70) eX6_readTerm_62 (by decide) (by first | assumption | exact ⟨by omega, by omega⟩) ⟨by decide, by decide⟩ (fun br55 => ?_) (fun br55 => ?_)
              · skip
                refine q_blk (lv2 := [(0, vr t), (1, vi 4), (2, vi 1), (3, vi i), (4, vi (kd e9))]) (st2 := [vi (-9), vr t]) kX6_readTerm_70 rfl ?_
                refine AQ.callVv (av := [vi (-9)]) (st := []) (c_X6_addCode (v := (-9)) ⟨_, g540, g541, g542, g543, g544, cj, g545, g54L⟩ (by omega) (by omega)) lk_RX6_230 (by decide) rfl rfl ⟨_, _, _, g540⟩ ⟨_, rfl, rfl⟩ (Nat.le_of_ble_eq_true rfl) eX6_readTerm_72 (fun h58 e57 => ?_)
                obtain ⟨Xh58, Fh58⟩ := e57
                obtain ⟨g59t, g590, g591, g592, g593, g594, g59j, g595, g59L⟩ := id Xh58
                refine q_blk (lv2 := [(0, vr t), (1, vi 4), (2, vi 1), (3, vi (i + 1)), (4, vi (kd e9))]) (st2 := []) kX6_readTerm_75 rfl ?_
                refine q_goto (tgt := 8) eX6_readTerm_78 (by decide) ?_
                refine q_sub (lv2 := [(0, vr t), (1, vi 4), (2, vi 1), (3, vi (i + 1))]) [0, 1, 2, 3] rfl ?_
                exact ih5 1 (i + 1) h58 (Lh53 ++ [(5, 0)]) hh53e hh53n (am_uI hh53c (Lh53.length : Int) (-9)) (⟨⟨by omega, by omega⟩, hfr.tr (((am_fr.rf.tr (am_fr.st e43 (by omega) (by omega))).tr Fh53).tr Fh58), Or.inl ⟨rfl, ⟨by omega, by omega, by simp; omega⟩, by rw [show 800 - (i + 1).toNat = 800 - i.toNat - 1 by omega]; exact (rJ_go (o := 5) (by omega) (by omega) qh53).symm.trans hJ9, Ch53.add (by unfold gm_en; simp), SU.cast ⟨_, g590, g591, g592, g593, g594, cj, g595, g59L⟩ (by simp)⟩⟩) (by omega)
              · skip
                refine q_blk (lv2 := [(0, vr t), (1, vi 4), (2, vi 1), (3, vi i), (4, vi (kd e9))]) (st2 := [vi (-8), vr t]) kX6_readTerm_65 rfl ?_
                refine q_goto (tgt := 72) eX6_readTerm_67 (by decide) ?_
                refine AQ.callVv (av := [vi (-8)]) (st := []) (c_X6_addCode (v := (-8)) ⟨_, g540, g541, g542, g543, g544, cj, g545, g54L⟩ (by omega) (by omega)) lk_RX6_230 (by decide) rfl rfl ⟨_, _, _, g540⟩ ⟨_, rfl, rfl⟩ (Nat.le_of_ble_eq_true rfl) eX6_readTerm_72 (fun h62 e61 => ?_)
                obtain ⟨Xh62, Fh62⟩ := e61
                obtain ⟨g63t, g630, g631, g632, g633, g634, g63j, g635, g63L⟩ := id Xh62
                refine q_blk (lv2 := [(0, vr t), (1, vi 4), (2, vi 1), (3, vi (i + 1)), (4, vi (kd e9))]) (st2 := []) kX6_readTerm_75 rfl ?_
                refine q_goto (tgt := 8) eX6_readTerm_78 (by decide) ?_
                refine q_sub (lv2 := [(0, vr t), (1, vi 4), (2, vi 1), (3, vi (i + 1))]) [0, 1, 2, 3] rfl ?_
                exact ih5 1 (i + 1) h62 (Lh53 ++ [(4, 0)]) hh53e hh53n (am_uI hh53c (Lh53.length : Int) (-8)) (⟨⟨by omega, by omega⟩, hfr.tr (((am_fr.rf.tr (am_fr.st e43 (by omega) (by omega))).tr Fh53).tr Fh62), Or.inl ⟨rfl, ⟨by omega, by omega, by simp; omega⟩, by rw [show 800 - (i + 1).toNat = 800 - i.toNat - 1 by omega]; exact (rJ_go (o := 4) (by omega) (by omega) qh53).symm.trans hJ9, Ch53.add (by unfold gm_en; simp), SU.cast ⟨_, g630, g631, g632, g633, g634, cj, g635, g63L⟩ (by simp)⟩⟩) (by omega)
            · skip
              refine q_blk (lv2 := [(0, vr t), (1, vi 4), (2, vi 0), (3, vi i), (4, vi (kd e9))]) (st2 := [vi 42, vi (kd e9), vr t]) kX6_readTerm_56 rfl ?_
              refine AQ.ic_ne (tgt := 70) eX6_readTerm_62 (by decide) (by first | assumption | exact ⟨by omega, by omega⟩) ⟨by decide, by decide⟩ (fun br64 => ?_) (fun br64 => ?_)
              · skip
                refine q_blk (lv2 := [(0, vr t), (1, vi 4), (2, vi 0), (3, vi i), (4, vi (kd e9))]) (st2 := [vi (-9), vr t]) kX6_readTerm_70 rfl ?_
                refine AQ.callVv (av := [vi (-9)]) (st := []) (c_X6_addCodeF Xh53 (v := (-9))) lk_RX6_230 (by decide) rfl rfl (SF.ob Xh53) ⟨_, rfl, rfl⟩ (Nat.le_of_ble_eq_true rfl) eX6_readTerm_72 (fun h67 e66 => ?_)
                obtain ⟨Xh67, Fh67⟩ := e66
                refine q_blk (lv2 := [(0, vr t), (1, vi 4), (2, vi 0), (3, vi (i + 1)), (4, vi (kd e9))]) (st2 := []) kX6_readTerm_75 rfl ?_
                refine q_goto (tgt := 8) eX6_readTerm_78 (by decide) ?_
                refine q_sub (lv2 := [(0, vr t), (1, vi 4), (2, vi 0), (3, vi (i + 1))]) [0, 1, 2, 3] rfl ?_
                exact ih5 0 (i + 1) h67 L 0 0 cd (⟨⟨by omega, by omega⟩, hfr.tr (((am_fr.rf.tr (am_fr.st e43 (by omega) (by omega))).tr Fh53).tr Fh67), Or.inr ⟨rfl, _, _, hJ9.symm.trans (rJ_no (by omega) (by omega) qh53), Xh67⟩⟩) (by omega)
              · skip
                refine q_blk (lv2 := [(0, vr t), (1, vi 4), (2, vi 0), (3, vi i), (4, vi (kd e9))]) (st2 := [vi (-8), vr t]) kX6_readTerm_65 rfl ?_
                refine q_goto (tgt := 72) eX6_readTerm_67 (by decide) ?_
                refine AQ.callVv (av := [vi (-8)]) (st := []) (c_X6_addCodeF Xh53 (v := (-8))) lk_RX6_230 (by decide) rfl rfl (SF.ob Xh53) ⟨_, rfl, rfl⟩ (Nat.le_of_ble_eq_true rfl) eX6_readTerm_72 (fun h70 e69 => ?_)
                obtain ⟨Xh70, Fh70⟩ := e69
                refine q_blk (lv2 := [(0, vr t), (1, vi 4), (2, vi 0), (3, vi (i + 1)), (4, vi (kd e9))]) (st2 := []) kX6_readTerm_75 rfl ?_
                refine q_goto (tgt := 8) eX6_readTerm_78 (by decide) ?_
                refine q_sub (lv2 := [(0, vr t), (1, vi 4), (2, vi 0), (3, vi (i + 1))]) [0, 1, 2, 3] rfl ?_
                exact ih5 0 (i + 1) h70 L 0 0 cd (⟨⟨by omega, by omega⟩, hfr.tr (((am_fr.rf.tr (am_fr.st e43 (by omega) (by omega))).tr Fh53).tr Fh70), Or.inr ⟨rfl, _, _, hJ9.symm.trans (rJ_no (by omega) (by omega) qh53), Xh70⟩⟩) (by omega)
          · skip
            refine q_blk (lv2 := [(0, vr t), (1, vi 4), (2, vi g), (3, vi i), (4, vi (kd e9))]) (st2 := [vi 1]) kX6_readTerm_39 rfl ?_
            exact q_rz rfl eX6_readTerm_40 (by decide) ⟨1, rfl, Or.inl ⟨rfl, L9, e9, hJ9.symm.trans (rJ_end (Or.inr ⟨by omega, by omega⟩)), ⟨by omega, by omega, by omega⟩, _, _, ⟨_, w0, w1, w2, w3, w4, cj, w5, wL⟩, hL9⟩, hfr.tr am_fr.rf⟩
  · skip
    refine q_blk (lv2 := [(0, vr t), (1, vi 4), (2, vi 0), (3, vi 0)]) (st2 := []) kX6_readTerm_5 rfl ?_
    refine am_lp7 (I := fun (g : Int) (i : Int) (hh : AH) (L9 : GL) (e9 : Int) (v9 : Int) (c9 : Int → Int) => (0 ≤ i ∧ i ≤ 800) ∧ am_fr h hh t (t + 7) ∧ ((g = 1 ∧ (he < e9 ∧ e9 ≤ n ∧ (L9.length : Int) ≤ (L.length : Int) + (e9 - he)) ∧ rJ kd (rA kd st vl none) 42 47 4 5 (800 - i.toNat) L9 e9 = rM kd st vl none L he ∧ CL c9 L9 ∧ SU hh t u b j kd st vl e9 v9 px (L9.length : Int) hs er ea c9) ∨ (g = 0 ∧ ∃ e a, rM kd st vl none L he = .inl (e, a) ∧ SF hh t u b j kd st vl e a))) (μ := fun (g : Int) (i : Int) (hh : AH) (L9 : GL) (e9 : Int) (v9 : Int) (c9 : Int → Int) => (800 - i).toNat) (G := fun (g : Int) (i : Int) (hh : AH) (L9 : GL) (e9 : Int) (v9 : Int) (c9 : Int → Int) => AQ w m_X6_readTerm 5 8 [(0, vr t), (1, vi 4), (2, vi g), (3, vi i)] [] hh (am_int (fun z h1 => ((z = 1 ∧ ∃ L' he', rM kd st vl none L he = .inr (L', he') ∧ (he < he' ∧ he' ≤ n ∧ (L'.length : Int) ≤ (L.length : Int) + (he' - he)) ∧ ∃ nu' cd', SU h1 t u b j kd st vl he' nu' px (L'.length : Int) hs er ea cd' ∧ CL cd' L') ∨ (z = 0 ∧ ∃ e a, rM kd st vl none L he = .inl (e, a) ∧ SF h1 t u b j kd st vl e a)) ∧ am_fr h h1 t (t + 7)))) ?_ 0 0 h3 L 0 0 cd (⟨⟨by omega, by omega⟩, (am_fr.rf.tr Fh3), Or.inr ⟨rfl, _, _, by unfold rM; exact rB_l qh3 _, Xh3⟩⟩)
    intro g i hh L9 e9 v9 c9 hI72 ih71
    obtain ⟨⟨i0, i1⟩, hfr, hG⟩ := hI72
    have hg9 : g = 0 ∨ g = 1 := by rcases hG with q | q; exact Or.inr q.1; exact Or.inl q.1
    refine q_blk (lv2 := [(0, vr t), (1, vi 4), (2, vi g), (3, vi i)]) (st2 := [vi 800, vi i]) kX6_readTerm_8 rfl ?_
    refine AQ.ic_ge (tgt := 81) eX6_readTerm_12 (by decide) (by first | assumption | exact ⟨by omega, by omega⟩) ⟨by decide, by decide⟩ (fun br73 => ?_) (fun br73 => ?_)
    · skip
      refine q_blk (lv2 := [(0, vr t), (1, vi 4), (2, vi g), (3, vi i)]) (st2 := [vi g]) kX6_readTerm_81 rfl ?_
      exact q_rz rfl eX6_readTerm_82 (by omega) ⟨g, rfl, (by rcases hG with ⟨rfl, hb9, hJ9, hL9, hS9⟩ | hG; exact Or.inl ⟨rfl, L9, e9, hJ9.symm.trans (rJ_end (Or.inl (by omega))), hb9, _, _, hS9, hL9⟩; exact Or.inr hG), hfr⟩
    · skip
      refine q_blk (lv2 := [(0, vr t), (1, vi 4), (2, vi g), (3, vi i)]) (st2 := [vi g]) kX6_readTerm_15 rfl ?_
      refine AQ.if_eq (tgt := 81) eX6_readTerm_16 (by decide) (by first | assumption | exact ⟨by omega, by omega⟩) (fun br74 => ?_) (fun br74 => ?_)
      · skip
        refine q_blk (lv2 := [(0, vr t), (1, vi 4), (2, vi g), (3, vi i)]) (st2 := [vi g]) kX6_readTerm_81 rfl ?_
        exact q_rz rfl eX6_readTerm_82 (by omega) ⟨g, rfl, (by rcases hG with ⟨rfl, hb9, hJ9, hL9, hS9⟩ | hG; exact Or.inl ⟨rfl, L9, e9, hJ9.symm.trans (rJ_end (Or.inl (by omega))), hb9, _, _, hS9, hL9⟩; exact Or.inr hG), hfr⟩
      · skip
        obtain ⟨-, ⟨b9a, b9b, b9c⟩, hJ9, hL9, hS9⟩ := hG.resolve_right (fun q => absurd q.1 (by omega))
        obtain ⟨wt, w0, w1, w2, w3, w4, wj, w5, wL⟩ := id hS9
        have kr9 := kr e9 (by omega) (by omega)
        have hen9 : kd e9 ≠ 0 → e9 ≠ n := fun q e => by rw [e] at q; omega
        refine q_blk (lv2 := [(0, vr t), (1, vi 4), (2, vi g), (3, vi i)]) (st2 := [vr t]) kX6_readTerm_19 rfl ?_
        refine q_Vi (av := []) (st := []) (c_X6_kindHere ⟨_, w0, w1, w2, w3, w4, cj, w5, wL⟩ (by omega) (by omega)) lk_RX6_70 (by decide) rfl rfl ⟨_, _, _, w0⟩ ⟨_, rfl, rfl⟩ (Nat.le_of_ble_eq_true rfl) eX6_readTerm_20 (fun z75 e76 => ?_)
        subst e76
        refine q_blk (lv2 := [(0, vr t), (1, vi 4), (2, vi g), (3, vi i), (4, vi (kd e9))]) (st2 := [vi 42, vi (kd e9)]) kX6_readTerm_23 rfl ?_
        refine AQ.ic_eq (tgt := 41) eX6_readTerm_29 (by decide) (by first | assumption | exact ⟨by omega, by omega⟩) ⟨by decide, by decide⟩ (fun br77 => ?_) (fun br77 => ?_)
        · skip
          refine q_blk (lv2 := [(0, vr t), (1, vi 4), (2, vi g), (3, vi i), (4, vi (kd e9))]) (st2 := [vr t, vr t]) kX6_readTerm_41 rfl ?_
          refine q_gi eX6_readTerm_43 fl_RX6_28 (Or.inl rfl) w0 (z := e9) rfl ?_
          refine q_blk (lv2 := [(0, vr t), (1, vi 4), (2, vi g), (3, vi i), (4, vi (kd e9))]) (st2 := [vi (e9 + 1), vr t]) kX6_readTerm_46 rfl ?_
          refine q_pi eX6_readTerm_48 fl_RX6_28 (fun q hq => by cases hq; exact Or.inl rfl) (Or.inl rfl) w0 (Nat.le_of_ble_eq_true rfl) (l2 := [0, 0, 0, 0, 0, 0, 0, wt, (e9 + 1), v9, px, (L9.length : Int), hs, er, ea]) rfl (fun h78 e79 => ?_)
          have k80 := am_at e79
          have k81 := (am_ne e79 (t + 3) (by omega)).trans w1
          have k82 := (am_ne e79 (t + 4) (by omega)).trans w2
          have k83 := (am_ne e79 (t + 5) (by omega)).trans w3
          have k84 := (am_ne e79 (t + 6) (by omega)).trans w4
          have k85 := (am_ne e79 j (by omega)).trans w5
          have k86 := wL.kept (lo := t) (hi := t + 1) (am_fr.st e79 (by omega) (by omega)) (by omega)
          refine q_blk (lv2 := [(0, vr t), (1, vi 4), (2, vi g), (3, vi i), (4, vi (kd e9))]) (st2 := [vi 4, vr t]) kX6_readTerm_51 rfl ?_
          refine AQ.callVi (av := [vi 4]) (st := []) (c_X6_readFactor4 (L := L9) ⟨_, k80, k81, k82, k83, k84, cj, k85, k86⟩ n0 kn (by omega) (by omega) kr vq hL9 (by omega)) lk_RX6_233 (by decide) rfl rfl ⟨_, _, _, k80⟩ ⟨_, rfl, rfl⟩ (Nat.le_of_ble_eq_true rfl) eX6_readTerm_53 (fun z87 h89 e88 => ?_)
          rcases e88 with ⟨⟨rfl, Lh89, hh89e, qh89, ⟨bh89a, bh89b, bh89c⟩, hh89n, hh89c, Xh89, Ch89⟩ | ⟨rfl, eh89, ah89, qh89, Xh89⟩, Fh89⟩
          · skip
            obtain ⟨g90t, g900, g901, g902, g903, g904, g90j, g905, g90L⟩ := id Xh89
            refine q_blk (lv2 := [(0, vr t), (1, vi 4), (2, vi 1), (3, vi i), (4, vi (kd e9))]) (st2 := [vi 42, vi (kd e9), vr t]) kX6_readTerm_56 rfl ?_
            refine AQ.ic_ne (tgt := 70) eX6_readTerm_62 (by decide) (by first | assumption | exact ⟨by omega, by omega⟩) ⟨by decide, by decide⟩ (fun br91 => ?_) (fun br91 => ?_)
            · skip
              refine q_blk (lv2 := [(0, vr t), (1, vi 4), (2, vi 1), (3, vi i), (4, vi (kd e9))]) (st2 := [vi (-9), vr t]) kX6_readTerm_70 rfl ?_
              refine AQ.callVv (av := [vi (-9)]) (st := []) (c_X6_addCode (v := (-9)) ⟨_, g900, g901, g902, g903, g904, cj, g905, g90L⟩ (by omega) (by omega)) lk_RX6_230 (by decide) rfl rfl ⟨_, _, _, g900⟩ ⟨_, rfl, rfl⟩ (Nat.le_of_ble_eq_true rfl) eX6_readTerm_72 (fun h94 e93 => ?_)
              obtain ⟨Xh94, Fh94⟩ := e93
              obtain ⟨g95t, g950, g951, g952, g953, g954, g95j, g955, g95L⟩ := id Xh94
              refine q_blk (lv2 := [(0, vr t), (1, vi 4), (2, vi 1), (3, vi (i + 1)), (4, vi (kd e9))]) (st2 := []) kX6_readTerm_75 rfl ?_
              refine q_goto (tgt := 8) eX6_readTerm_78 (by decide) ?_
              refine q_sub (lv2 := [(0, vr t), (1, vi 4), (2, vi 1), (3, vi (i + 1))]) [0, 1, 2, 3] rfl ?_
              exact ih71 1 (i + 1) h94 (Lh89 ++ [(5, 0)]) hh89e hh89n (am_uI hh89c (Lh89.length : Int) (-9)) (⟨⟨by omega, by omega⟩, hfr.tr (((am_fr.rf.tr (am_fr.st e79 (by omega) (by omega))).tr Fh89).tr Fh94), Or.inl ⟨rfl, ⟨by omega, by omega, by simp; omega⟩, by rw [show 800 - (i + 1).toNat = 800 - i.toNat - 1 by omega]; exact (rJ_go (o := 5) (by omega) (by omega) qh89).symm.trans hJ9, Ch89.add (by unfold gm_en; simp), SU.cast ⟨_, g950, g951, g952, g953, g954, cj, g955, g95L⟩ (by simp)⟩⟩) (by omega)
            · skip
              refine q_blk (lv2 := [(0, vr t), (1, vi 4), (2, vi 1), (3, vi i), (4, vi (kd e9))]) (st2 := [vi (-8), vr t]) kX6_readTerm_65 rfl ?_
              refine q_goto (tgt := 72) eX6_readTerm_67 (by decide) ?_
              refine AQ.callVv (av := [vi (-8)]) (st := []) (c_X6_addCode (v := (-8)) ⟨_, g900, g901, g902, g903, g904, cj, g905, g90L⟩ (by omega) (by omega)) lk_RX6_230 (by decide) rfl rfl ⟨_, _, _, g900⟩ ⟨_, rfl, rfl⟩ (Nat.le_of_ble_eq_true rfl) eX6_readTerm_72 (fun h98 e97 => ?_)
              obtain ⟨Xh98, Fh98⟩ := e97
              obtain ⟨g99t, g990, g991, g992, g993, g994, g99j, g995, g99L⟩ := id Xh98
              refine q_blk (lv2 := [(0, vr t), (1, vi 4), (2, vi 1), (3, vi (i + 1)), (4, vi (kd e9))]) (st2 := []) kX6_readTerm_75 rfl ?_
              refine q_goto (tgt := 8) eX6_readTerm_78 (by decide) ?_
              refine q_sub (lv2 := [(0, vr t), (1, vi 4), (2, vi 1), (3, vi (i + 1))]) [0, 1, 2, 3] rfl ?_
              exact ih71 1 (i + 1) h98 (Lh89 ++ [(4, 0)]) hh89e hh89n (am_uI hh89c (Lh89.length : Int) (-8)) (⟨⟨by omega, by omega⟩, hfr.tr (((am_fr.rf.tr (am_fr.st e79 (by omega) (by omega))).tr Fh89).tr Fh98), Or.inl ⟨rfl, ⟨by omega, by omega, by simp; omega⟩, by rw [show 800 - (i + 1).toNat = 800 - i.toNat - 1 by omega]; exact (rJ_go (o := 4) (by omega) (by omega) qh89).symm.trans hJ9, Ch89.add (by unfold gm_en; simp), SU.cast ⟨_, g990, g991, g992, g993, g994, cj, g995, g99L⟩ (by simp)⟩⟩) (by omega)
          · skip
            refine q_blk (lv2 := [(0, vr t), (1, vi 4), (2, vi 0), (3, vi i), (4, vi (kd e9))]) (st2 := [vi 42, vi (kd e9), vr t]) kX6_readTerm_56 rfl ?_
            refine AQ.ic_ne (tgt := 70) eX6_readTerm_62 (by decide) (by first | assumption | exact ⟨by omega, by omega⟩) ⟨by decide, by decide⟩ (fun br100 => ?_) (fun br100 => ?_)
            · skip
              refine q_blk (lv2 := [(0, vr t), (1, vi 4), (2, vi 0), (3, vi i), (4, vi (kd e9))]) (st2 := [vi (-9), vr t]) kX6_readTerm_70 rfl ?_
              refine AQ.callVv (av := [vi (-9)]) (st := []) (c_X6_addCodeF Xh89 (v := (-9))) lk_RX6_230 (by decide) rfl rfl (SF.ob Xh89) ⟨_, rfl, rfl⟩ (Nat.le_of_ble_eq_true rfl) eX6_readTerm_72 (fun h103 e102 => ?_)
              obtain ⟨Xh103, Fh103⟩ := e102
              refine q_blk (lv2 := [(0, vr t), (1, vi 4), (2, vi 0), (3, vi (i + 1)), (4, vi (kd e9))]) (st2 := []) kX6_readTerm_75 rfl ?_
              refine q_goto (tgt := 8) eX6_readTerm_78 (by decide) ?_
              refine q_sub (lv2 := [(0, vr t), (1, vi 4), (2, vi 0), (3, vi (i + 1))]) [0, 1, 2, 3] rfl ?_
              exact ih71 0 (i + 1) h103 L 0 0 cd (⟨⟨by omega, by omega⟩, hfr.tr (((am_fr.rf.tr (am_fr.st e79 (by omega) (by omega))).tr Fh89).tr Fh103), Or.inr ⟨rfl, _, _, hJ9.symm.trans (rJ_no (by omega) (by omega) qh89), Xh103⟩⟩) (by omega)
            · skip
              refine q_blk (lv2 := [(0, vr t), (1, vi 4), (2, vi 0), (3, vi i), (4, vi (kd e9))]) (st2 := [vi (-8), vr t]) kX6_readTerm_65 rfl ?_
              refine q_goto (tgt := 72) eX6_readTerm_67 (by decide) ?_
              refine AQ.callVv (av := [vi (-8)]) (st := []) (c_X6_addCodeF Xh89 (v := (-8))) lk_RX6_230 (by decide) rfl rfl (SF.ob Xh89) ⟨_, rfl, rfl⟩ (Nat.le_of_ble_eq_true rfl) eX6_readTerm_72 (fun h106 e105 => ?_)
              obtain ⟨Xh106, Fh106⟩ := e105
              refine q_blk (lv2 := [(0, vr t), (1, vi 4), (2, vi 0), (3, vi (i + 1)), (4, vi (kd e9))]) (st2 := []) kX6_readTerm_75 rfl ?_
              refine q_goto (tgt := 8) eX6_readTerm_78 (by decide) ?_
              refine q_sub (lv2 := [(0, vr t), (1, vi 4), (2, vi 0), (3, vi (i + 1))]) [0, 1, 2, 3] rfl ?_
              exact ih71 0 (i + 1) h106 L 0 0 cd (⟨⟨by omega, by omega⟩, hfr.tr (((am_fr.rf.tr (am_fr.st e79 (by omega) (by omega))).tr Fh89).tr Fh106), Or.inr ⟨rfl, _, _, hJ9.symm.trans (rJ_no (by omega) (by omega) qh89), Xh106⟩⟩) (by omega)
        · skip
          refine q_blk (lv2 := [(0, vr t), (1, vi 4), (2, vi g), (3, vi i), (4, vi (kd e9))]) (st2 := [vi 47, vi (kd e9)]) kX6_readTerm_32 rfl ?_
          refine AQ.ic_eq (tgt := 41) eX6_readTerm_36 (by decide) (by first | assumption | exact ⟨by omega, by omega⟩) ⟨by decide, by decide⟩ (fun br107 => ?_) (fun br107 => ?_)
          · skip
            refine q_blk (lv2 := [(0, vr t), (1, vi 4), (2, vi g), (3, vi i), (4, vi (kd e9))]) (st2 := [vr t, vr t]) kX6_readTerm_41 rfl ?_
            refine q_gi eX6_readTerm_43 fl_RX6_28 (Or.inl rfl) w0 (z := e9) rfl ?_
            refine q_blk (lv2 := [(0, vr t), (1, vi 4), (2, vi g), (3, vi i), (4, vi (kd e9))]) (st2 := [vi (e9 + 1), vr t]) kX6_readTerm_46 rfl ?_
            refine q_pi eX6_readTerm_48 fl_RX6_28 (fun q hq => by cases hq; exact Or.inl rfl) (Or.inl rfl) w0 (Nat.le_of_ble_eq_true rfl) (l2 := [0, 0, 0, 0, 0, 0, 0, wt, (e9 + 1), v9, px, (L9.length : Int), hs, er, ea]) rfl (fun h108 e109 => ?_)
            have k110 := am_at e109
            have k111 := (am_ne e109 (t + 3) (by omega)).trans w1
            have k112 := (am_ne e109 (t + 4) (by omega)).trans w2
            have k113 := (am_ne e109 (t + 5) (by omega)).trans w3
            have k114 := (am_ne e109 (t + 6) (by omega)).trans w4
            have k115 := (am_ne e109 j (by omega)).trans w5
            have k116 := wL.kept (lo := t) (hi := t + 1) (am_fr.st e109 (by omega) (by omega)) (by omega)
            refine q_blk (lv2 := [(0, vr t), (1, vi 4), (2, vi g), (3, vi i), (4, vi (kd e9))]) (st2 := [vi 4, vr t]) kX6_readTerm_51 rfl ?_
            refine AQ.callVi (av := [vi 4]) (st := []) (c_X6_readFactor4 (L := L9) ⟨_, k110, k111, k112, k113, k114, cj, k115, k116⟩ n0 kn (by omega) (by omega) kr vq hL9 (by omega)) lk_RX6_233 (by decide) rfl rfl ⟨_, _, _, k110⟩ ⟨_, rfl, rfl⟩ (Nat.le_of_ble_eq_true rfl) eX6_readTerm_53 (fun z117 h119 e118 => ?_)
            rcases e118 with ⟨⟨rfl, Lh119, hh119e, qh119, ⟨bh119a, bh119b, bh119c⟩, hh119n, hh119c, Xh119, Ch119⟩ | ⟨rfl, eh119, ah119, qh119, Xh119⟩, Fh119⟩
            · skip
              obtain ⟨g120t, g1200, g1201, g1202, g1203, g1204, g120j, g1205, g120L⟩ := id Xh119
              refine q_blk (lv2 := [(0, vr t), (1, vi 4), (2, vi 1), (3, vi i), (4, vi (kd e9))]) (st2 := [vi 42, vi (kd e9), vr t]) kX6_readTerm_56 rfl ?_
              refine AQ.ic_ne (tgt := 70) eX6_readTerm_62 (by decide) (by first | assumption | exact ⟨by omega, by omega⟩) ⟨by decide, by decide⟩ (fun br121 => ?_) (fun br121 => ?_)
              · skip
                refine q_blk (lv2 := [(0, vr t), (1, vi 4), (2, vi 1), (3, vi i), (4, vi (kd e9))]) (st2 := [vi (-9), vr t]) kX6_readTerm_70 rfl ?_
                refine AQ.callVv (av := [vi (-9)]) (st := []) (c_X6_addCode (v := (-9)) ⟨_, g1200, g1201, g1202, g1203, g1204, cj, g1205, g120L⟩ (by omega) (by omega)) lk_RX6_230 (by decide) rfl rfl ⟨_, _, _, g1200⟩ ⟨_, rfl, rfl⟩ (Nat.le_of_ble_eq_true rfl) eX6_readTerm_72 (fun h124 e123 => ?_)
                obtain ⟨Xh124, Fh124⟩ := e123
                obtain ⟨g125t, g1250, g1251, g1252, g1253, g1254, g125j, g1255, g125L⟩ := id Xh124
                refine q_blk (lv2 := [(0, vr t), (1, vi 4), (2, vi 1), (3, vi (i + 1)), (4, vi (kd e9))]) (st2 := []) kX6_readTerm_75 rfl ?_
                refine q_goto (tgt := 8) eX6_readTerm_78 (by decide) ?_
                refine q_sub (lv2 := [(0, vr t), (1, vi 4), (2, vi 1), (3, vi (i + 1))]) [0, 1, 2, 3] rfl ?_
                exact ih71 1 (i + 1) h124 (Lh119 ++ [(5, 0)]) hh119e hh119n (am_uI hh119c (Lh119.length : Int) (-9)) (⟨⟨by omega, by omega⟩, hfr.tr (((am_fr.rf.tr (am_fr.st e109 (by omega) (by omega))).tr Fh119).tr Fh124), Or.inl ⟨rfl, ⟨by omega, by omega, by simp; omega⟩, by rw [show 800 - (i + 1).toNat = 800 - i.toNat - 1 by omega]; exact (rJ_go (o := 5) (by omega) (by omega) qh119).symm.trans hJ9, Ch119.add (by unfold gm_en; simp), SU.cast ⟨_, g1250, g1251, g1252, g1253, g1254, cj, g1255, g125L⟩ (by simp)⟩⟩) (by omega)
              · skip
                refine q_blk (lv2 := [(0, vr t), (1, vi 4), (2, vi 1), (3, vi i), (4, vi (kd e9))]) (st2 := [vi (-8), vr t]) kX6_readTerm_65 rfl ?_
                refine q_goto (tgt := 72) eX6_readTerm_67 (by decide) ?_
                refine AQ.callVv (av := [vi (-8)]) (st := []) (c_X6_addCode (v := (-8)) ⟨_, g1200, g1201, g1202, g1203, g1204, cj, g1205, g120L⟩ (by omega) (by omega)) lk_RX6_230 (by decide) rfl rfl ⟨_, _, _, g1200⟩ ⟨_, rfl, rfl⟩ (Nat.le_of_ble_eq_true rfl) eX6_readTerm_72 (fun h128 e127 => ?_)
                obtain ⟨Xh128, Fh128⟩ := e127
                obtain ⟨g129t, g1290, g1291, g1292, g1293, g1294, g129j, g1295, g129L⟩ := id Xh128
                refine q_blk (lv2 := [(0, vr t), (1, vi 4), (2, vi 1), (3, vi (i + 1)), (4, vi (kd e9))]) (st2 := []) kX6_readTerm_75 rfl ?_
                refine q_goto (tgt := 8) eX6_readTerm_78 (by decide) ?_
                refine q_sub (lv2 := [(0, vr t), (1, vi 4), (2, vi 1), (3, vi (i + 1))]) [0, 1, 2, 3] rfl ?_
                exact ih71 1 (i + 1) h128 (Lh119 ++ [(4, 0)]) hh119e hh119n (am_uI hh119c (Lh119.length : Int) (-8)) (⟨⟨by omega, by omega⟩, hfr.tr (((am_fr.rf.tr (am_fr.st e109 (by omega) (by omega))).tr Fh119).tr Fh128), Or.inl ⟨rfl, ⟨by omega, by omega, by simp; omega⟩, by rw [show 800 - (i + 1).toNat = 800 - i.toNat - 1 by omega]; exact (rJ_go (o := 4) (by omega) (by omega) qh119).symm.trans hJ9, Ch119.add (by unfold gm_en; simp), SU.cast ⟨_, g1290, g1291, g1292, g1293, g1294, cj, g1295, g129L⟩ (by simp)⟩⟩) (by omega)
            · skip
              refine q_blk (lv2 := [(0, vr t), (1, vi 4), (2, vi 0), (3, vi i), (4, vi (kd e9))]) (st2 := [vi 42, vi (kd e9), vr t]) kX6_readTerm_56 rfl ?_
              refine AQ.ic_ne (tgt := 70) eX6_readTerm_62 (by decide) (by first | assumption | exact ⟨by omega, by omega⟩) ⟨by decide, by decide⟩ (fun br130 => ?_) (fun br130 => ?_)
              · skip
                refine q_blk (lv2 := [(0, vr t), (1, vi 4), (2, vi 0), (3, vi i), (4, vi (kd e9))]) (st2 := [vi (-9), vr t]) kX6_readTerm_70 rfl ?_
                refine AQ.callVv (av := [vi (-9)]) (st := []) (c_X6_addCodeF Xh119 (v := (-9))) lk_RX6_230 (by decide) rfl rfl (SF.ob Xh119) ⟨_, rfl, rfl⟩ (Nat.le_of_ble_eq_true rfl) eX6_readTerm_72 (fun h133 e132 => ?_)
                obtain ⟨Xh133, Fh133⟩ := e132
                refine q_blk (lv2 := [(0, vr t), (1, vi 4), (2, vi 0), (3, vi (i + 1)), (4, vi (kd e9))]) (st2 := []) kX6_readTerm_75 rfl ?_
                refine q_goto (tgt := 8) eX6_readTerm_78 (by decide) ?_
                refine q_sub (lv2 := [(0, vr t), (1, vi 4), (2, vi 0), (3, vi (i + 1))]) [0, 1, 2, 3] rfl ?_
                exact ih71 0 (i + 1) h133 L 0 0 cd (⟨⟨by omega, by omega⟩, hfr.tr (((am_fr.rf.tr (am_fr.st e109 (by omega) (by omega))).tr Fh119).tr Fh133), Or.inr ⟨rfl, _, _, hJ9.symm.trans (rJ_no (by omega) (by omega) qh119), Xh133⟩⟩) (by omega)
              · skip
                refine q_blk (lv2 := [(0, vr t), (1, vi 4), (2, vi 0), (3, vi i), (4, vi (kd e9))]) (st2 := [vi (-8), vr t]) kX6_readTerm_65 rfl ?_
                refine q_goto (tgt := 72) eX6_readTerm_67 (by decide) ?_
                refine AQ.callVv (av := [vi (-8)]) (st := []) (c_X6_addCodeF Xh119 (v := (-8))) lk_RX6_230 (by decide) rfl rfl (SF.ob Xh119) ⟨_, rfl, rfl⟩ (Nat.le_of_ble_eq_true rfl) eX6_readTerm_72 (fun h136 e135 => ?_)
                obtain ⟨Xh136, Fh136⟩ := e135
                refine q_blk (lv2 := [(0, vr t), (1, vi 4), (2, vi 0), (3, vi (i + 1)), (4, vi (kd e9))]) (st2 := []) kX6_readTerm_75 rfl ?_
                refine q_goto (tgt := 8) eX6_readTerm_78 (by decide) ?_
                refine q_sub (lv2 := [(0, vr t), (1, vi 4), (2, vi 0), (3, vi (i + 1))]) [0, 1, 2, 3] rfl ?_
                exact ih71 0 (i + 1) h136 L 0 0 cd (⟨⟨by omega, by omega⟩, hfr.tr (((am_fr.rf.tr (am_fr.st e109 (by omega) (by omega))).tr Fh119).tr Fh136), Or.inr ⟨rfl, _, _, hJ9.symm.trans (rJ_no (by omega) (by omega) qh119), Xh136⟩⟩) (by omega)
          · skip
            refine q_blk (lv2 := [(0, vr t), (1, vi 4), (2, vi g), (3, vi i), (4, vi (kd e9))]) (st2 := [vi 1]) kX6_readTerm_39 rfl ?_
            exact q_rz rfl eX6_readTerm_40 (by decide) ⟨1, rfl, Or.inl ⟨rfl, L9, e9, hJ9.symm.trans (rJ_end (Or.inr ⟨by omega, by omega⟩)), ⟨by omega, by omega, by omega⟩, _, _, ⟨_, w0, w1, w2, w3, w4, cj, w5, wL⟩, hL9⟩, hfr.tr am_fr.rf⟩

set_option maxHeartbeats 1000000 in
theorem c_X6_readSum4 {w : am_w} {h : AH} {L : GL} {t u b j : Nat} {kd st vl : Int → Int} {he nu px hs er ea : Int} {cd : Int → Int} (hS : SU h t u b j kd st vl he nu px (L.length : Int) hs er ea cd) {n : Int} (n0 : n ≤ 800) (kn : kd n = 0) (he0 : 0 ≤ he) (he1 : he ≤ n) (kr : ∀ i, 0 ≤ i → i < 801 → -5 ≤ kd i ∧ kd i ≤ 100) (vq : ∀ i, 0 ≤ i → i < 801 → 0 ≤ vl i ∧ vl i ≤ 10000) (hL : CL cd L) (hl : (L.length : Int) ≤ he)  : AE w m_X6_readSum 6 [vr t, vi 4] h (am_int (fun z h1 => ((z = 1 ∧ ∃ L' he', rU kd st vl 0 L he = .inr (L', he') ∧ (he < he' ∧ he' ≤ n ∧ (L'.length : Int) ≤ (L.length : Int) + (he' - he)) ∧ ∃ nu' cd', SU h1 t u b j kd st vl he' nu' px (L'.length : Int) hs er ea cd' ∧ CL cd' L') ∨ (z = 0 ∧ ∃ e a, rU kd st vl 0 L he = .inl (e, a) ∧ SF h1 t u b j kd st vl e a)) ∧ am_fr h h1 t (t + 7))) := by
  refine AE.of wf_X6_readSum (Nat.le_of_ble_eq_true rfl) (am_ok_z (fun z h1 q => by rcases q.1 with q | q; exact Or.inr q.1; exact Or.inl q.1)) ?_
  obtain ⟨tc, c0, c1, c2, c3, c4, cj, c5, cL⟩ := id hS
  have kr1 := kr he he0 (by omega)
  have vr1 := vq he he0 (by omega)
  have hen : kd he ≠ 0 → he ≠ n := fun q e9 => by rw [e9] at q; omega
  refine q_blk (lv2 := [(0, vr t), (1, vi 4)]) (st2 := [vi 4, vr t]) kX6_readSum_0 rfl ?_
  refine AQ.callVi (av := [vi 4]) (st := []) (c_X6_readTerm4 (L := L) ⟨_, c0, c1, c2, c3, c4, cj, c5, cL⟩ n0 kn (by omega) (by omega) kr vq hL (by omega)) lk_RX6_227 (by decide) rfl rfl ⟨_, _, _, c0⟩ ⟨_, rfl, rfl⟩ (Nat.le_of_ble_eq_true rfl) eX6_readSum_2 (fun z1 h3 e2 => ?_)
  rcases e2 with ⟨⟨rfl, Lh3, hh3e, qh3, ⟨bh3a, bh3b, bh3c⟩, hh3n, hh3c, Xh3, Ch3⟩ | ⟨rfl, eh3, ah3, qh3, Xh3⟩, Fh3⟩
  · skip
    obtain ⟨g4t, g40, g41, g42, g43, g44, g4j, g45, g4L⟩ := id Xh3
    refine q_blk (lv2 := [(0, vr t), (1, vi 4), (2, vi 1), (3, vi 0)]) (st2 := []) kX6_readSum_5 rfl ?_
    refine am_lp7 (I := fun (g : Int) (i : Int) (hh : AH) (L9 : GL) (e9 : Int) (v9 : Int) (c9 : Int → Int) => (0 ≤ i ∧ i ≤ 800) ∧ am_fr h hh t (t + 7) ∧ ((g = 1 ∧ (he < e9 ∧ e9 ≤ n ∧ (L9.length : Int) ≤ (L.length : Int) + (e9 - he)) ∧ rJ kd (rM kd st vl none) 43 45 2 3 (800 - i.toNat) L9 e9 = rU kd st vl 0 L he ∧ CL c9 L9 ∧ SU hh t u b j kd st vl e9 v9 px (L9.length : Int) hs er ea c9) ∨ (g = 0 ∧ ∃ e a, rU kd st vl 0 L he = .inl (e, a) ∧ SF hh t u b j kd st vl e a))) (μ := fun (g : Int) (i : Int) (hh : AH) (L9 : GL) (e9 : Int) (v9 : Int) (c9 : Int → Int) => (800 - i).toNat) (G := fun (g : Int) (i : Int) (hh : AH) (L9 : GL) (e9 : Int) (v9 : Int) (c9 : Int → Int) => AQ w m_X6_readSum 6 8 [(0, vr t), (1, vi 4), (2, vi g), (3, vi i)] [] hh (am_int (fun z h1 => ((z = 1 ∧ ∃ L' he', rU kd st vl 0 L he = .inr (L', he') ∧ (he < he' ∧ he' ≤ n ∧ (L'.length : Int) ≤ (L.length : Int) + (he' - he)) ∧ ∃ nu' cd', SU h1 t u b j kd st vl he' nu' px (L'.length : Int) hs er ea cd' ∧ CL cd' L') ∨ (z = 0 ∧ ∃ e a, rU kd st vl 0 L he = .inl (e, a) ∧ SF h1 t u b j kd st vl e a)) ∧ am_fr h h1 t (t + 7)))) ?_ 1 0 h3 Lh3 hh3e hh3n hh3c (⟨⟨by omega, by omega⟩, (am_fr.rf.tr Fh3), Or.inl ⟨rfl, ⟨by omega, by omega, by omega⟩, by rw [show (800 - (0 : Int).toNat : Nat) = 800 from rfl]; rw [rU_0]; rw [rB_r qh3], Ch3, ⟨_, g40, g41, g42, g43, g44, cj, g45, g4L⟩⟩⟩)
    intro g i hh L9 e9 v9 c9 hI6 ih5
    obtain ⟨⟨i0, i1⟩, hfr, hG⟩ := hI6
    have hg9 : g = 0 ∨ g = 1 := by rcases hG with q | q; exact Or.inr q.1; exact Or.inl q.1
    refine q_blk (lv2 := [(0, vr t), (1, vi 4), (2, vi g), (3, vi i)]) (st2 := [vi 800, vi i]) kX6_readSum_8 rfl ?_
    refine AQ.ic_ge (tgt := 81) eX6_readSum_12 (by decide) (by first | assumption | exact ⟨by omega, by omega⟩) ⟨by decide, by decide⟩ (fun br7 => ?_) (fun br7 => ?_)
    · skip
      refine q_blk (lv2 := [(0, vr t), (1, vi 4), (2, vi g), (3, vi i)]) (st2 := [vi g]) kX6_readSum_81 rfl ?_
      exact q_rz rfl eX6_readSum_82 (by omega) ⟨g, rfl, (by rcases hG with ⟨rfl, hb9, hJ9, hL9, hS9⟩ | hG; exact Or.inl ⟨rfl, L9, e9, hJ9.symm.trans (rJ_end (Or.inl (by omega))), hb9, _, _, hS9, hL9⟩; exact Or.inr hG), hfr⟩
    · skip
      refine q_blk (lv2 := [(0, vr t), (1, vi 4), (2, vi g), (3, vi i)]) (st2 := [vi g]) kX6_readSum_15 rfl ?_
      refine AQ.if_eq (tgt := 81) eX6_readSum_16 (by decide) (by first | assumption | exact ⟨by omega, by omega⟩) (fun br8 => ?_) (fun br8 => ?_)
      · skip
        refine q_blk (lv2 := [(0, vr t), (1, vi 4), (2, vi g), (3, vi i)]) (st2 := [vi g]) kX6_readSum_81 rfl ?_
        exact q_rz rfl eX6_readSum_82 (by omega) ⟨g, rfl, (by rcases hG with ⟨rfl, hb9, hJ9, hL9, hS9⟩ | hG; exact Or.inl ⟨rfl, L9, e9, hJ9.symm.trans (rJ_end (Or.inl (by omega))), hb9, _, _, hS9, hL9⟩; exact Or.inr hG), hfr⟩
      · skip
        obtain ⟨-, ⟨b9a, b9b, b9c⟩, hJ9, hL9, hS9⟩ := hG.resolve_right (fun q => absurd q.1 (by omega))
        obtain ⟨wt, w0, w1, w2, w3, w4, wj, w5, wL⟩ := id hS9
        have kr9 := kr e9 (by omega) (by omega)
        have hen9 : kd e9 ≠ 0 → e9 ≠ n := fun q e => by rw [e] at q; omega
        refine q_blk (lv2 := [(0, vr t), (1, vi 4), (2, vi g), (3, vi i)]) (st2 := [vr t]) kX6_readSum_19 rfl ?_
        refine q_Vi (av := []) (st := []) (c_X6_kindHere ⟨_, w0, w1, w2, w3, w4, cj, w5, wL⟩ (by omega) (by omega)) lk_RX6_70 (by decide) rfl rfl ⟨_, _, _, w0⟩ ⟨_, rfl, rfl⟩ (Nat.le_of_ble_eq_true rfl) eX6_readSum_20 (fun z9 e10 => ?_)
        subst e10
        refine q_blk (lv2 := [(0, vr t), (1, vi 4), (2, vi g), (3, vi i), (4, vi (kd e9))]) (st2 := [vi 43, vi (kd e9)]) kX6_readSum_23 rfl ?_
        refine AQ.ic_eq (tgt := 41) eX6_readSum_29 (by decide) (by first | assumption | exact ⟨by omega, by omega⟩) ⟨by decide, by decide⟩ (fun br11 => ?_) (fun br11 => ?_)
        · skip
          refine q_blk (lv2 := [(0, vr t), (1, vi 4), (2, vi g), (3, vi i), (4, vi (kd e9))]) (st2 := [vr t, vr t]) kX6_readSum_41 rfl ?_
          refine q_gi eX6_readSum_43 fl_RX6_28 (Or.inl rfl) w0 (z := e9) rfl ?_
          refine q_blk (lv2 := [(0, vr t), (1, vi 4), (2, vi g), (3, vi i), (4, vi (kd e9))]) (st2 := [vi (e9 + 1), vr t]) kX6_readSum_46 rfl ?_
          refine q_pi eX6_readSum_48 fl_RX6_28 (fun q hq => by cases hq; exact Or.inl rfl) (Or.inl rfl) w0 (Nat.le_of_ble_eq_true rfl) (l2 := [0, 0, 0, 0, 0, 0, 0, wt, (e9 + 1), v9, px, (L9.length : Int), hs, er, ea]) rfl (fun h12 e13 => ?_)
          have k14 := am_at e13
          have k15 := (am_ne e13 (t + 3) (by omega)).trans w1
          have k16 := (am_ne e13 (t + 4) (by omega)).trans w2
          have k17 := (am_ne e13 (t + 5) (by omega)).trans w3
          have k18 := (am_ne e13 (t + 6) (by omega)).trans w4
          have k19 := (am_ne e13 j (by omega)).trans w5
          have k20 := wL.kept (lo := t) (hi := t + 1) (am_fr.st e13 (by omega) (by omega)) (by omega)
          refine q_blk (lv2 := [(0, vr t), (1, vi 4), (2, vi g), (3, vi i), (4, vi (kd e9))]) (st2 := [vi 4, vr t]) kX6_readSum_51 rfl ?_
          refine AQ.callVi (av := [vi 4]) (st := []) (c_X6_readTerm4 (L := L9) ⟨_, k14, k15, k16, k17, k18, cj, k19, k20⟩ n0 kn (by omega) (by omega) kr vq hL9 (by omega)) lk_RX6_227 (by decide) rfl rfl ⟨_, _, _, k14⟩ ⟨_, rfl, rfl⟩ (Nat.le_of_ble_eq_true rfl) eX6_readSum_53 (fun z21 h23 e22 => ?_)
          rcases e22 with ⟨⟨rfl, Lh23, hh23e, qh23, ⟨bh23a, bh23b, bh23c⟩, hh23n, hh23c, Xh23, Ch23⟩ | ⟨rfl, eh23, ah23, qh23, Xh23⟩, Fh23⟩
          · skip
            obtain ⟨g24t, g240, g241, g242, g243, g244, g24j, g245, g24L⟩ := id Xh23
            refine q_blk (lv2 := [(0, vr t), (1, vi 4), (2, vi 1), (3, vi i), (4, vi (kd e9))]) (st2 := [vi 43, vi (kd e9), vr t]) kX6_readSum_56 rfl ?_
            refine AQ.ic_ne (tgt := 70) eX6_readSum_62 (by decide) (by first | assumption | exact ⟨by omega, by omega⟩) ⟨by decide, by decide⟩ (fun br25 => ?_) (fun br25 => ?_)
            · skip
              refine q_blk (lv2 := [(0, vr t), (1, vi 4), (2, vi 1), (3, vi i), (4, vi (kd e9))]) (st2 := [vi (-7), vr t]) kX6_readSum_70 rfl ?_
              refine AQ.callVv (av := [vi (-7)]) (st := []) (c_X6_addCode (v := (-7)) ⟨_, g240, g241, g242, g243, g244, cj, g245, g24L⟩ (by omega) (by omega)) lk_RX6_230 (by decide) rfl rfl ⟨_, _, _, g240⟩ ⟨_, rfl, rfl⟩ (Nat.le_of_ble_eq_true rfl) eX6_readSum_72 (fun h28 e27 => ?_)
              obtain ⟨Xh28, Fh28⟩ := e27
              obtain ⟨g29t, g290, g291, g292, g293, g294, g29j, g295, g29L⟩ := id Xh28
              refine q_blk (lv2 := [(0, vr t), (1, vi 4), (2, vi 1), (3, vi (i + 1)), (4, vi (kd e9))]) (st2 := []) kX6_readSum_75 rfl ?_
              refine q_goto (tgt := 8) eX6_readSum_78 (by decide) ?_
              refine q_sub (lv2 := [(0, vr t), (1, vi 4), (2, vi 1), (3, vi (i + 1))]) [0, 1, 2, 3] rfl ?_
              exact ih5 1 (i + 1) h28 (Lh23 ++ [(3, 0)]) hh23e hh23n (am_uI hh23c (Lh23.length : Int) (-7)) (⟨⟨by omega, by omega⟩, hfr.tr (((am_fr.rf.tr (am_fr.st e13 (by omega) (by omega))).tr Fh23).tr Fh28), Or.inl ⟨rfl, ⟨by omega, by omega, by simp; omega⟩, by rw [show 800 - (i + 1).toNat = 800 - i.toNat - 1 by omega]; exact (rJ_go (o := 3) (by omega) (by omega) qh23).symm.trans hJ9, Ch23.add (by unfold gm_en; simp), SU.cast ⟨_, g290, g291, g292, g293, g294, cj, g295, g29L⟩ (by simp)⟩⟩) (by omega)
            · skip
              refine q_blk (lv2 := [(0, vr t), (1, vi 4), (2, vi 1), (3, vi i), (4, vi (kd e9))]) (st2 := [vi (-6), vr t]) kX6_readSum_65 rfl ?_
              refine q_goto (tgt := 72) eX6_readSum_67 (by decide) ?_
              refine AQ.callVv (av := [vi (-6)]) (st := []) (c_X6_addCode (v := (-6)) ⟨_, g240, g241, g242, g243, g244, cj, g245, g24L⟩ (by omega) (by omega)) lk_RX6_230 (by decide) rfl rfl ⟨_, _, _, g240⟩ ⟨_, rfl, rfl⟩ (Nat.le_of_ble_eq_true rfl) eX6_readSum_72 (fun h32 e31 => ?_)
              obtain ⟨Xh32, Fh32⟩ := e31
              obtain ⟨g33t, g330, g331, g332, g333, g334, g33j, g335, g33L⟩ := id Xh32
              refine q_blk (lv2 := [(0, vr t), (1, vi 4), (2, vi 1), (3, vi (i + 1)), (4, vi (kd e9))]) (st2 := []) kX6_readSum_75 rfl ?_
              refine q_goto (tgt := 8) eX6_readSum_78 (by decide) ?_
              refine q_sub (lv2 := [(0, vr t), (1, vi 4), (2, vi 1), (3, vi (i + 1))]) [0, 1, 2, 3] rfl ?_
              exact ih5 1 (i + 1) h32 (Lh23 ++ [(2, 0)]) hh23e hh23n (am_uI hh23c (Lh23.length : Int) (-6)) (⟨⟨by omega, by omega⟩, hfr.tr (((am_fr.rf.tr (am_fr.st e13 (by omega) (by omega))).tr Fh23).tr Fh32), Or.inl ⟨rfl, ⟨by omega, by omega, by simp; omega⟩, by rw [show 800 - (i + 1).toNat = 800 - i.toNat - 1 by omega]; exact (rJ_go (o := 2) (by omega) (by omega) qh23).symm.trans hJ9, Ch23.add (by unfold gm_en; simp), SU.cast ⟨_, g330, g331, g332, g333, g334, cj, g335, g33L⟩ (by simp)⟩⟩) (by omega)
          · skip
            refine q_blk (lv2 := [(0, vr t), (1, vi 4), (2, vi 0), (3, vi i), (4, vi (kd e9))]) (st2 := [vi 43, vi (kd e9), vr t]) kX6_readSum_56 rfl ?_
            refine AQ.ic_ne (tgt := 70) eX6_readSum_62 (by decide) (by first | assumption | exact ⟨by omega, by omega⟩) ⟨by decide, by decide⟩ (fun br34 => ?_) (fun br34 => ?_)
            · skip
              refine q_blk (lv2 := [(0, vr t), (1, vi 4), (2, vi 0), (3, vi i), (4, vi (kd e9))]) (st2 := [vi (-7), vr t]) kX6_readSum_70 rfl ?_
              refine AQ.callVv (av := [vi (-7)]) (st := []) (c_X6_addCodeF Xh23 (v := (-7))) lk_RX6_230 (by decide) rfl rfl (SF.ob Xh23) ⟨_, rfl, rfl⟩ (Nat.le_of_ble_eq_true rfl) eX6_readSum_72 (fun h37 e36 => ?_)
              obtain ⟨Xh37, Fh37⟩ := e36
              refine q_blk (lv2 := [(0, vr t), (1, vi 4), (2, vi 0), (3, vi (i + 1)), (4, vi (kd e9))]) (st2 := []) kX6_readSum_75 rfl ?_
              refine q_goto (tgt := 8) eX6_readSum_78 (by decide) ?_
              refine q_sub (lv2 := [(0, vr t), (1, vi 4), (2, vi 0), (3, vi (i + 1))]) [0, 1, 2, 3] rfl ?_
              exact ih5 0 (i + 1) h37 L 0 0 cd (⟨⟨by omega, by omega⟩, hfr.tr (((am_fr.rf.tr (am_fr.st e13 (by omega) (by omega))).tr Fh23).tr Fh37), Or.inr ⟨rfl, _, _, hJ9.symm.trans (rJ_no (by omega) (by omega) qh23), Xh37⟩⟩) (by omega)
            · skip
              refine q_blk (lv2 := [(0, vr t), (1, vi 4), (2, vi 0), (3, vi i), (4, vi (kd e9))]) (st2 := [vi (-6), vr t]) kX6_readSum_65 rfl ?_
              refine q_goto (tgt := 72) eX6_readSum_67 (by decide) ?_
              refine AQ.callVv (av := [vi (-6)]) (st := []) (c_X6_addCodeF Xh23 (v := (-6))) lk_RX6_230 (by decide) rfl rfl (SF.ob Xh23) ⟨_, rfl, rfl⟩ (Nat.le_of_ble_eq_true rfl) eX6_readSum_72 (fun h40 e39 => ?_)
              obtain ⟨Xh40, Fh40⟩ := e39
              refine q_blk (lv2 := [(0, vr t), (1, vi 4), (2, vi 0), (3, vi (i + 1)), (4, vi (kd e9))]) (st2 := []) kX6_readSum_75 rfl ?_
              refine q_goto (tgt := 8) eX6_readSum_78 (by decide) ?_
              refine q_sub (lv2 := [(0, vr t), (1, vi 4), (2, vi 0), (3, vi (i + 1))]) [0, 1, 2, 3] rfl ?_
              exact ih5 0 (i + 1) h40 L 0 0 cd (⟨⟨by omega, by omega⟩, hfr.tr (((am_fr.rf.tr (am_fr.st e13 (by omega) (by omega))).tr Fh23).tr Fh40), Or.inr ⟨rfl, _, _, hJ9.symm.trans (rJ_no (by omega) (by omega) qh23), Xh40⟩⟩) (by omega)
        · skip
          refine q_blk (lv2 := [(0, vr t), (1, vi 4), (2, vi g), (3, vi i), (4, vi (kd e9))]) (st2 := [vi 45, vi (kd e9)]) kX6_readSum_32 rfl ?_
          refine AQ.ic_eq (tgt := 41) eX6_readSum_36 (by decide) (by first | assumption | exact ⟨by omega, by omega⟩) ⟨by decide, by decide⟩ (fun br41 => ?_) (fun br41 => ?_)
          · skip
            refine q_blk (lv2 := [(0, vr t), (1, vi 4), (2, vi g), (3, vi i), (4, vi (kd e9))]) (st2 := [vr t, vr t]) kX6_readSum_41 rfl ?_
            refine q_gi eX6_readSum_43 fl_RX6_28 (Or.inl rfl) w0 (z := e9) rfl ?_
            refine q_blk (lv2 := [(0, vr t), (1, vi 4), (2, vi g), (3, vi i), (4, vi (kd e9))]) (st2 := [vi (e9 + 1), vr t]) kX6_readSum_46 rfl ?_
            refine q_pi eX6_readSum_48 fl_RX6_28 (fun q hq => by cases hq; exact Or.inl rfl) (Or.inl rfl) w0 (Nat.le_of_ble_eq_true rfl) (l2 := [0, 0, 0, 0, 0, 0, 0, wt, (e9 + 1), v9, px, (L9.length : Int), hs, er, ea]) rfl (fun h42 e43 => ?_)
            have k44 := am_at e43
            have k45 := (am_ne e43 (t + 3) (by omega)).trans w1
            have k46 := (am_ne e43 (t + 4) (by omega)).trans w2
            have k47 := (am_ne e43 (t + 5) (by omega)).trans w3
            have k48 := (am_ne e43 (t + 6) (by omega)).trans w4
            have k49 := (am_ne e43 j (by omega)).trans w5
            have k50 := wL.kept (lo := t) (hi := t + 1) (am_fr.st e43 (by omega) (by omega)) (by omega)
            refine q_blk (lv2 := [(0, vr t), (1, vi 4), (2, vi g), (3, vi i), (4, vi (kd e9))]) (st2 := [vi 4, vr t]) kX6_readSum_51 rfl ?_
            refine AQ.callVi (av := [vi 4]) (st := []) (c_X6_readTerm4 (L := L9) ⟨_, k44, k45, k46, k47, k48, cj, k49, k50⟩ n0 kn (by omega) (by omega) kr vq hL9 (by omega)) lk_RX6_227 (by decide) rfl rfl ⟨_, _, _, k44⟩ ⟨_, rfl, rfl⟩ (Nat.le_of_ble_eq_true rfl) eX6_readSum_53 (fun z51 h53 e52 => ?_)
            rcases e52 with ⟨⟨rfl, Lh53, hh53e, qh53, ⟨bh53a, bh53b, bh53c⟩, hh53n, hh53c, Xh53, Ch53⟩ | ⟨rfl, eh53, ah53, qh53, Xh53⟩, Fh53⟩
            · skip
              obtain ⟨g54t, g540, g541, g542, g543, g544, g54j, g545, g54L⟩ := id Xh53
              refine q_blk (lv2 := [(0, vr t), (1, vi 4), (2, vi 1), (3, vi i), (4, vi (kd e9))]) (st2 := [vi 43, vi (kd e9), vr t]) kX6_readSum_56 rfl ?_
              refine AQ.ic_ne (tgt := 70) eX6_readSum_62 (by decide) (by first | assumption | exact ⟨by omega, by omega⟩) ⟨by decide, by decide⟩ (fun br55 => ?_) (fun br55 => ?_)
              · skip
                refine q_blk (lv2 := [(0, vr t), (1, vi 4), (2, vi 1), (3, vi i), (4, vi (kd e9))]) (st2 := [vi (-7), vr t]) kX6_readSum_70 rfl ?_
                refine AQ.callVv (av := [vi (-7)]) (st := []) (c_X6_addCode (v := (-7)) ⟨_, g540, g541, g542, g543, g544, cj, g545, g54L⟩ (by omega) (by omega)) lk_RX6_230 (by decide) rfl rfl ⟨_, _, _, g540⟩ ⟨_, rfl, rfl⟩ (Nat.le_of_ble_eq_true rfl) eX6_readSum_72 (fun h58 e57 => ?_)
                obtain ⟨Xh58, Fh58⟩ := e57
                obtain ⟨g59t, g590, g591, g592, g593, g594, g59j, g595, g59L⟩ := id Xh58
                refine q_blk (lv2 := [(0, vr t), (1, vi 4), (2, vi 1), (3, vi (i + 1)), (4, vi (kd e9))]) (st2 := []) kX6_readSum_75 rfl ?_
                refine q_goto (tgt := 8) eX6_readSum_78 (by decide) ?_
                refine q_sub (lv2 := [(0, vr t), (1, vi 4), (2, vi 1), (3, vi (i + 1))]) [0, 1, 2, 3] rfl ?_
                exact ih5 1 (i + 1) h58 (Lh53 ++ [(3, 0)]) hh53e hh53n (am_uI hh53c (Lh53.length : Int) (-7)) (⟨⟨by omega, by omega⟩, hfr.tr (((am_fr.rf.tr (am_fr.st e43 (by omega) (by omega))).tr Fh53).tr Fh58), Or.inl ⟨rfl, ⟨by omega, by omega, by simp; omega⟩, by rw [show 800 - (i + 1).toNat = 800 - i.toNat - 1 by omega]; exact (rJ_go (o := 3) (by omega) (by omega) qh53).symm.trans hJ9, Ch53.add (by unfold gm_en; simp), SU.cast ⟨_, g590, g591, g592, g593, g594, cj, g595, g59L⟩ (by simp)⟩⟩) (by omega)
              · skip
                refine q_blk (lv2 := [(0, vr t), (1, vi 4), (2, vi 1), (3, vi i), (4, vi (kd e9))]) (st2 := [vi (-6), vr t]) kX6_readSum_65 rfl ?_
                refine q_goto (tgt := 72) eX6_readSum_67 (by decide) ?_
                refine AQ.callVv (av := [vi (-6)]) (st := []) (c_X6_addCode (v := (-6)) ⟨_, g540, g541, g542, g543, g544, cj, g545, g54L⟩ (by omega) (by omega)) lk_RX6_230 (by decide) rfl rfl ⟨_, _, _, g540⟩ ⟨_, rfl, rfl⟩ (Nat.le_of_ble_eq_true rfl) eX6_readSum_72 (fun h62 e61 => ?_)
                obtain ⟨Xh62, Fh62⟩ := e61
                obtain ⟨g63t, g630, g631, g632, g633, g634, g63j, g635, g63L⟩ := id Xh62
                refine q_blk (lv2 := [(0, vr t), (1, vi 4), (2, vi 1), (3, vi (i + 1)), (4, vi (kd e9))]) (st2 := []) kX6_readSum_75 rfl ?_
                refine q_goto (tgt := 8) eX6_readSum_78 (by decide) ?_
                refine q_sub (lv2 := [(0, vr t), (1, vi 4), (2, vi 1), (3, vi (i + 1))]) [0, 1, 2, 3] rfl ?_
                exact ih5 1 (i + 1) h62 (Lh53 ++ [(2, 0)]) hh53e hh53n (am_uI hh53c (Lh53.length : Int) (-6)) (⟨⟨by omega, by omega⟩, hfr.tr (((am_fr.rf.tr (am_fr.st e43 (by omega) (by omega))).tr Fh53).tr Fh62), Or.inl ⟨rfl, ⟨by omega, by omega, by simp; omega⟩, by rw [show 800 - (i + 1).toNat = 800 - i.toNat - 1 by omega]; exact (rJ_go (o := 2) (by omega) (by omega) qh53).symm.trans hJ9, Ch53.add (by unfold gm_en; simp), SU.cast ⟨_, g630, g631, g632, g633, g634, cj, g635, g63L⟩ (by simp)⟩⟩) (by omega)
            · skip
              refine q_blk (lv2 := [(0, vr t), (1, vi 4), (2, vi 0), (3, vi i), (4, vi (kd e9))]) (st2 := [vi 43, vi (kd e9), vr t]) kX6_readSum_56 rfl ?_
              refine AQ.ic_ne (tgt := 70) eX6_readSum_62 (by decide) (by first | assumption | exact ⟨by omega, by omega⟩) ⟨by decide, by decide⟩ (fun br64 => ?_) (fun br64 => ?_)
              · skip
                refine q_blk (lv2 := [(0, vr t), (1, vi 4), (2, vi 0), (3, vi i), (4, vi (kd e9))]) (st2 := [vi (-7), vr t]) kX6_readSum_70 rfl ?_
                refine AQ.callVv (av := [vi (-7)]) (st := []) (c_X6_addCodeF Xh53 (v := (-7))) lk_RX6_230 (by decide) rfl rfl (SF.ob Xh53) ⟨_, rfl, rfl⟩ (Nat.le_of_ble_eq_true rfl) eX6_readSum_72 (fun h67 e66 => ?_)
                obtain ⟨Xh67, Fh67⟩ := e66
                refine q_blk (lv2 := [(0, vr t), (1, vi 4), (2, vi 0), (3, vi (i + 1)), (4, vi (kd e9))]) (st2 := []) kX6_readSum_75 rfl ?_
                refine q_goto (tgt := 8) eX6_readSum_78 (by decide) ?_
                refine q_sub (lv2 := [(0, vr t), (1, vi 4), (2, vi 0), (3, vi (i + 1))]) [0, 1, 2, 3] rfl ?_
                exact ih5 0 (i + 1) h67 L 0 0 cd (⟨⟨by omega, by omega⟩, hfr.tr (((am_fr.rf.tr (am_fr.st e43 (by omega) (by omega))).tr Fh53).tr Fh67), Or.inr ⟨rfl, _, _, hJ9.symm.trans (rJ_no (by omega) (by omega) qh53), Xh67⟩⟩) (by omega)
              · skip
                refine q_blk (lv2 := [(0, vr t), (1, vi 4), (2, vi 0), (3, vi i), (4, vi (kd e9))]) (st2 := [vi (-6), vr t]) kX6_readSum_65 rfl ?_
                refine q_goto (tgt := 72) eX6_readSum_67 (by decide) ?_
                refine AQ.callVv (av := [vi (-6)]) (st := []) (c_X6_addCodeF Xh53 (v := (-6))) lk_RX6_230 (by decide) rfl rfl (SF.ob Xh53) ⟨_, rfl, rfl⟩ (Nat.le_of_ble_eq_true rfl) eX6_readSum_72 (fun h70 e69 => ?_)
                obtain ⟨Xh70, Fh70⟩ := e69
                refine q_blk (lv2 := [(0, vr t), (1, vi 4), (2, vi 0), (3, vi (i + 1)), (4, vi (kd e9))]) (st2 := []) kX6_readSum_75 rfl ?_
                refine q_goto (tgt := 8) eX6_readSum_78 (by decide) ?_
                refine q_sub (lv2 := [(0, vr t), (1, vi 4), (2, vi 0), (3, vi (i + 1))]) [0, 1, 2, 3] rfl ?_
                exact ih5 0 (i + 1) h70 L 0 0 cd (⟨⟨by omega, by omega⟩, hfr.tr (((am_fr.rf.tr (am_fr.st e43 (by omega) (by omega))).tr Fh53).tr Fh70), Or.inr ⟨rfl, _, _, hJ9.symm.trans (rJ_no (by omega) (by omega) qh53), Xh70⟩⟩) (by omega)
          · skip
            refine q_blk (lv2 := [(0, vr t), (1, vi 4), (2, vi g), (3, vi i), (4, vi (kd e9))]) (st2 := [vi 1]) kX6_readSum_39 rfl ?_
            exact q_rz rfl eX6_readSum_40 (by decide) ⟨1, rfl, Or.inl ⟨rfl, L9, e9, hJ9.symm.trans (rJ_end (Or.inr ⟨by omega, by omega⟩)), ⟨by omega, by omega, by omega⟩, _, _, ⟨_, w0, w1, w2, w3, w4, cj, w5, wL⟩, hL9⟩, hfr.tr am_fr.rf⟩
  · skip
    refine q_blk (lv2 := [(0, vr t), (1, vi 4), (2, vi 0), (3, vi 0)]) (st2 := []) kX6_readSum_5 rfl ?_
    refine am_lp7 (I := fun (g : Int) (i : Int) (hh : AH) (L9 : GL) (e9 : Int) (v9 : Int) (c9 : Int → Int) => (0 ≤ i ∧ i ≤ 800) ∧ am_fr h hh t (t + 7) ∧ ((g = 1 ∧ (he < e9 ∧ e9 ≤ n ∧ (L9.length : Int) ≤ (L.length : Int) + (e9 - he)) ∧ rJ kd (rM kd st vl none) 43 45 2 3 (800 - i.toNat) L9 e9 = rU kd st vl 0 L he ∧ CL c9 L9 ∧ SU hh t u b j kd st vl e9 v9 px (L9.length : Int) hs er ea c9) ∨ (g = 0 ∧ ∃ e a, rU kd st vl 0 L he = .inl (e, a) ∧ SF hh t u b j kd st vl e a))) (μ := fun (g : Int) (i : Int) (hh : AH) (L9 : GL) (e9 : Int) (v9 : Int) (c9 : Int → Int) => (800 - i).toNat) (G := fun (g : Int) (i : Int) (hh : AH) (L9 : GL) (e9 : Int) (v9 : Int) (c9 : Int → Int) => AQ w m_X6_readSum 6 8 [(0, vr t), (1, vi 4), (2, vi g), (3, vi i)] [] hh (am_int (fun z h1 => ((z = 1 ∧ ∃ L' he', rU kd st vl 0 L he = .inr (L', he') ∧ (he < he' ∧ he' ≤ n ∧ (L'.length : Int) ≤ (L.length : Int) + (he' - he)) ∧ ∃ nu' cd', SU h1 t u b j kd st vl he' nu' px (L'.length : Int) hs er ea cd' ∧ CL cd' L') ∨ (z = 0 ∧ ∃ e a, rU kd st vl 0 L he = .inl (e, a) ∧ SF h1 t u b j kd st vl e a)) ∧ am_fr h h1 t (t + 7)))) ?_ 0 0 h3 L 0 0 cd (⟨⟨by omega, by omega⟩, (am_fr.rf.tr Fh3), Or.inr ⟨rfl, _, _, by rw [rU_0]; exact rB_l qh3 _, Xh3⟩⟩)
    intro g i hh L9 e9 v9 c9 hI72 ih71
    obtain ⟨⟨i0, i1⟩, hfr, hG⟩ := hI72
    have hg9 : g = 0 ∨ g = 1 := by rcases hG with q | q; exact Or.inr q.1; exact Or.inl q.1
    refine q_blk (lv2 := [(0, vr t), (1, vi 4), (2, vi g), (3, vi i)]) (st2 := [vi 800, vi i]) kX6_readSum_8 rfl ?_
    refine AQ.ic_ge (tgt := 81) eX6_readSum_12 (by decide) (by first | assumption | exact ⟨by omega, by omega⟩) ⟨by decide, by decide⟩ (fun br73 => ?_) (fun br73 => ?_)
    · skip
      refine q_blk (lv2 := [(0, vr t), (1, vi 4), (2, vi g), (3, vi i)]) (st2 := [vi g]) kX6_readSum_81 rfl ?_
      exact q_rz rfl eX6_readSum_82 (by omega) ⟨g, rfl, (by rcases hG with ⟨rfl, hb9, hJ9, hL9, hS9⟩ | hG; exact Or.inl ⟨rfl, L9, e9, hJ9.symm.trans (rJ_end (Or.inl (by omega))), hb9, _, _, hS9, hL9⟩; exact Or.inr hG), hfr⟩
    · skip
      refine q_blk (lv2 := [(0, vr t), (1, vi 4), (2, vi g), (3, vi i)]) (st2 := [vi g]) kX6_readSum_15 rfl ?_
      refine AQ.if_eq (tgt := 81) eX6_readSum_16 (by decide) (by first | assumption | exact ⟨by omega, by omega⟩) (fun br74 => ?_) (fun br74 => ?_)
      · skip
        refine q_blk (lv2 := [(0, vr t), (1, vi 4), (2, vi g), (3, vi i)]) (st2 := [vi g]) kX6_readSum_81 rfl ?_
        exact q_rz rfl eX6_readSum_82 (by omega) ⟨g, rfl, (by rcases hG with ⟨rfl, hb9, hJ9, hL9, hS9⟩ | hG; exact Or.inl ⟨rfl, L9, e9, hJ9.symm.trans (rJ_end (Or.inl (by omega))), hb9, _, _, hS9, hL9⟩; exact Or.inr hG), hfr⟩
      · skip
        obtain ⟨-, ⟨b9a, b9b, b9c⟩, hJ9, hL9, hS9⟩ := hG.resolve_right (fun q => absurd q.1 (by omega))
        obtain ⟨wt, w0, w1, w2, w3, w4, wj, w5, wL⟩ := id hS9
        have kr9 := kr e9 (by omega) (by omega)
        have hen9 : kd e9 ≠ 0 → e9 ≠ n := fun q e => by rw [e] at q; omega
        refine q_blk (lv2 := [(0, vr t), (1, vi 4), (2, vi g), (3, vi i)]) (st2 := [vr t]) kX6_readSum_19 rfl ?_
        refine q_Vi (av := []) (st := []) (c_X6_kindHere ⟨_, w0, w1, w2, w3, w4, cj, w5, wL⟩ (by omega) (by omega)) lk_RX6_70 (by decide) rfl rfl ⟨_, _, _, w0⟩ ⟨_, rfl, rfl⟩ (Nat.le_of_ble_eq_true rfl) eX6_readSum_20 (fun z75 e76 => ?_)
        subst e76
        refine q_blk (lv2 := [(0, vr t), (1, vi 4), (2, vi g), (3, vi i), (4, vi (kd e9))]) (st2 := [vi 43, vi (kd e9)]) kX6_readSum_23 rfl ?_
        refine AQ.ic_eq (tgt := 41) eX6_readSum_29 (by decide) (by first | assumption | exact ⟨by omega, by omega⟩) ⟨by decide, by decide⟩ (fun br77 => ?_) (fun br77 => ?_)
        · skip
          refine q_blk (lv2 := [(0, vr t), (1, vi 4), (2, vi g), (3, vi i), (4, vi (kd e9))]) (st2 := [vr t, vr t]) kX6_readSum_41 rfl ?_
          refine q_gi eX6_readSum_43 fl_RX6_28 (Or.inl rfl) w0 (z := e9) rfl ?_
          refine q_blk (lv2 := [(0, vr t), (1, vi 4), (2, vi g), (3, vi i), (4, vi (kd e9))]) (st2 := [vi (e9 + 1), vr t]) kX6_readSum_46 rfl ?_
          refine q_pi eX6_readSum_48 fl_RX6_28 (fun q hq => by cases hq; exact Or.inl rfl) (Or.inl rfl) w0 (Nat.le_of_ble_eq_true rfl) (l2 := [0, 0, 0, 0, 0, 0, 0, wt, (e9 + 1), v9, px, (L9.length : Int), hs, er, ea]) rfl (fun h78 e79 => ?_)
          have k80 := am_at e79
          have k81 := (am_ne e79 (t + 3) (by omega)).trans w1
          have k82 := (am_ne e79 (t + 4) (by omega)).trans w2
          have k83 := (am_ne e79 (t + 5) (by omega)).trans w3
          have k84 := (am_ne e79 (t + 6) (by omega)).trans w4
          have k85 := (am_ne e79 j (by omega)).trans w5
          have k86 := wL.kept (lo := t) (hi := t + 1) (am_fr.st e79 (by omega) (by omega)) (by omega)
          refine q_blk (lv2 := [(0, vr t), (1, vi 4), (2, vi g), (3, vi i), (4, vi (kd e9))]) (st2 := [vi 4, vr t]) kX6_readSum_51 rfl ?_
          refine AQ.callVi (av := [vi 4]) (st := []) (c_X6_readTerm4 (L := L9) ⟨_, k80, k81, k82, k83, k84, cj, k85, k86⟩ n0 kn (by omega) (by omega) kr vq hL9 (by omega)) lk_RX6_227 (by decide) rfl rfl ⟨_, _, _, k80⟩ ⟨_, rfl, rfl⟩ (Nat.le_of_ble_eq_true rfl) eX6_readSum_53 (fun z87 h89 e88 => ?_)
          rcases e88 with ⟨⟨rfl, Lh89, hh89e, qh89, ⟨bh89a, bh89b, bh89c⟩, hh89n, hh89c, Xh89, Ch89⟩ | ⟨rfl, eh89, ah89, qh89, Xh89⟩, Fh89⟩
          · skip
            obtain ⟨g90t, g900, g901, g902, g903, g904, g90j, g905, g90L⟩ := id Xh89
            refine q_blk (lv2 := [(0, vr t), (1, vi 4), (2, vi 1), (3, vi i), (4, vi (kd e9))]) (st2 := [vi 43, vi (kd e9), vr t]) kX6_readSum_56 rfl ?_
            refine AQ.ic_ne (tgt := 70) eX6_readSum_62 (by decide) (by first | assumption | exact ⟨by omega, by omega⟩) ⟨by decide, by decide⟩ (fun br91 => ?_) (fun br91 => ?_)
            · skip
              refine q_blk (lv2 := [(0, vr t), (1, vi 4), (2, vi 1), (3, vi i), (4, vi (kd e9))]) (st2 := [vi (-7), vr t]) kX6_readSum_70 rfl ?_
              refine AQ.callVv (av := [vi (-7)]) (st := []) (c_X6_addCode (v := (-7)) ⟨_, g900, g901, g902, g903, g904, cj, g905, g90L⟩ (by omega) (by omega)) lk_RX6_230 (by decide) rfl rfl ⟨_, _, _, g900⟩ ⟨_, rfl, rfl⟩ (Nat.le_of_ble_eq_true rfl) eX6_readSum_72 (fun h94 e93 => ?_)
              obtain ⟨Xh94, Fh94⟩ := e93
              obtain ⟨g95t, g950, g951, g952, g953, g954, g95j, g955, g95L⟩ := id Xh94
              refine q_blk (lv2 := [(0, vr t), (1, vi 4), (2, vi 1), (3, vi (i + 1)), (4, vi (kd e9))]) (st2 := []) kX6_readSum_75 rfl ?_
              refine q_goto (tgt := 8) eX6_readSum_78 (by decide) ?_
              refine q_sub (lv2 := [(0, vr t), (1, vi 4), (2, vi 1), (3, vi (i + 1))]) [0, 1, 2, 3] rfl ?_
              exact ih71 1 (i + 1) h94 (Lh89 ++ [(3, 0)]) hh89e hh89n (am_uI hh89c (Lh89.length : Int) (-7)) (⟨⟨by omega, by omega⟩, hfr.tr (((am_fr.rf.tr (am_fr.st e79 (by omega) (by omega))).tr Fh89).tr Fh94), Or.inl ⟨rfl, ⟨by omega, by omega, by simp; omega⟩, by rw [show 800 - (i + 1).toNat = 800 - i.toNat - 1 by omega]; exact (rJ_go (o := 3) (by omega) (by omega) qh89).symm.trans hJ9, Ch89.add (by unfold gm_en; simp), SU.cast ⟨_, g950, g951, g952, g953, g954, cj, g955, g95L⟩ (by simp)⟩⟩) (by omega)
            · skip
              refine q_blk (lv2 := [(0, vr t), (1, vi 4), (2, vi 1), (3, vi i), (4, vi (kd e9))]) (st2 := [vi (-6), vr t]) kX6_readSum_65 rfl ?_
              refine q_goto (tgt := 72) eX6_readSum_67 (by decide) ?_
              refine AQ.callVv (av := [vi (-6)]) (st := []) (c_X6_addCode (v := (-6)) ⟨_, g900, g901, g902, g903, g904, cj, g905, g90L⟩ (by omega) (by omega)) lk_RX6_230 (by decide) rfl rfl ⟨_, _, _, g900⟩ ⟨_, rfl, rfl⟩ (Nat.le_of_ble_eq_true rfl) eX6_readSum_72 (fun h98 e97 => ?_)
              obtain ⟨Xh98, Fh98⟩ := e97
              obtain ⟨g99t, g990, g991, g992, g993, g994, g99j, g995, g99L⟩ := id Xh98
              refine q_blk (lv2 := [(0, vr t), (1, vi 4), (2, vi 1), (3, vi (i + 1)), (4, vi (kd e9))]) (st2 := []) kX6_readSum_75 rfl ?_
              refine q_goto (tgt := 8) eX6_readSum_78 (by decide) ?_
              refine q_sub (lv2 := [(0, vr t), (1, vi 4), (2, vi 1), (3, vi (i + 1))]) [0, 1, 2, 3] rfl ?_
              exact ih71 1 (i + 1) h98 (Lh89 ++ [(2, 0)]) hh89e hh89n (am_uI hh89c (Lh89.length : Int) (-6)) (⟨⟨by omega, by omega⟩, hfr.tr (((am_fr.rf.tr (am_fr.st e79 (by omega) (by omega))).tr Fh89).tr Fh98), Or.inl ⟨rfl, ⟨by omega, by omega, by simp; omega⟩, by rw [show 800 - (i + 1).toNat = 800 - i.toNat - 1 by omega]; exact (rJ_go (o := 2) (by omega) (by omega) qh89).symm.trans hJ9, Ch89.add (by unfold gm_en; simp), SU.cast ⟨_, g990, g991, g992, g993, g994, cj, g995, g99L⟩ (by simp)⟩⟩) (by omega)
          · skip
            refine q_blk (lv2 := [(0, vr t), (1, vi 4), (2, vi 0), (3, vi i), (4, vi (kd e9))]) (st2 := [vi 43, vi (kd e9), vr t]) kX6_readSum_56 rfl ?_
            refine AQ.ic_ne (tgt := 70) eX6_readSum_62 (by decide) (by first | assumption | exact ⟨by omega, by omega⟩) ⟨by decide, by decide⟩ (fun br100 => ?_) (fun br100 => ?_)
            · skip
              refine q_blk (lv2 := [(0, vr t), (1, vi 4), (2, vi 0), (3, vi i), (4, vi (kd e9))]) (st2 := [vi (-7), vr t]) kX6_readSum_70 rfl ?_
              refine AQ.callVv (av := [vi (-7)]) (st := []) (c_X6_addCodeF Xh89 (v := (-7))) lk_RX6_230 (by decide) rfl rfl (SF.ob Xh89) ⟨_, rfl, rfl⟩ (Nat.le_of_ble_eq_true rfl) eX6_readSum_72 (fun h103 e102 => ?_)
              obtain ⟨Xh103, Fh103⟩ := e102
              refine q_blk (lv2 := [(0, vr t), (1, vi 4), (2, vi 0), (3, vi (i + 1)), (4, vi (kd e9))]) (st2 := []) kX6_readSum_75 rfl ?_
              refine q_goto (tgt := 8) eX6_readSum_78 (by decide) ?_
              refine q_sub (lv2 := [(0, vr t), (1, vi 4), (2, vi 0), (3, vi (i + 1))]) [0, 1, 2, 3] rfl ?_
              exact ih71 0 (i + 1) h103 L 0 0 cd (⟨⟨by omega, by omega⟩, hfr.tr (((am_fr.rf.tr (am_fr.st e79 (by omega) (by omega))).tr Fh89).tr Fh103), Or.inr ⟨rfl, _, _, hJ9.symm.trans (rJ_no (by omega) (by omega) qh89), Xh103⟩⟩) (by omega)
            · skip
              refine q_blk (lv2 := [(0, vr t), (1, vi 4), (2, vi 0), (3, vi i), (4, vi (kd e9))]) (st2 := [vi (-6), vr t]) kX6_readSum_65 rfl ?_
              refine q_goto (tgt := 72) eX6_readSum_67 (by decide) ?_
              refine AQ.callVv (av := [vi (-6)]) (st := []) (c_X6_addCodeF Xh89 (v := (-6))) lk_RX6_230 (by decide) rfl rfl (SF.ob Xh89) ⟨_, rfl, rfl⟩ (Nat.le_of_ble_eq_true rfl) eX6_readSum_72 (fun h106 e105 => ?_)
              obtain ⟨Xh106, Fh106⟩ := e105
              refine q_blk (lv2 := [(0, vr t), (1, vi 4), (2, vi 0), (3, vi (i + 1)), (4, vi (kd e9))]) (st2 := []) kX6_readSum_75 rfl ?_
              refine q_goto (tgt := 8) eX6_readSum_78 (by decide) ?_
              refine q_sub (lv2 := [(0, vr t), (1, vi 4), (2, vi 0), (3, vi (i + 1))]) [0, 1, 2, 3] rfl ?_
              exact ih71 0 (i + 1) h106 L 0 0 cd (⟨⟨by omega, by omega⟩, hfr.tr (((am_fr.rf.tr (am_fr.st e79 (by omega) (by omega))).tr Fh89).tr Fh106), Or.inr ⟨rfl, _, _, hJ9.symm.trans (rJ_no (by omega) (by omega) qh89), Xh106⟩⟩) (by omega)
        · skip
          refine q_blk (lv2 := [(0, vr t), (1, vi 4), (2, vi g), (3, vi i), (4, vi (kd e9))]) (st2 := [vi 45, vi (kd e9)]) kX6_readSum_32 rfl ?_
          refine AQ.ic_eq (tgt := 41) eX6_readSum_36 (by decide) (by first | assumption | exact ⟨by omega, by omega⟩) ⟨by decide, by decide⟩ (fun br107 => ?_) (fun br107 => ?_)
          · skip
            refine q_blk (lv2 := [(0, vr t), (1, vi 4), (2, vi g), (3, vi i), (4, vi (kd e9))]) (st2 := [vr t, vr t]) kX6_readSum_41 rfl ?_
            refine q_gi eX6_readSum_43 fl_RX6_28 (Or.inl rfl) w0 (z := e9) rfl ?_
            refine q_blk (lv2 := [(0, vr t), (1, vi 4), (2, vi g), (3, vi i), (4, vi (kd e9))]) (st2 := [vi (e9 + 1), vr t]) kX6_readSum_46 rfl ?_
            refine q_pi eX6_readSum_48 fl_RX6_28 (fun q hq => by cases hq; exact Or.inl rfl) (Or.inl rfl) w0 (Nat.le_of_ble_eq_true rfl) (l2 := [0, 0, 0, 0, 0, 0, 0, wt, (e9 + 1), v9, px, (L9.length : Int), hs, er, ea]) rfl (fun h108 e109 => ?_)
            have k110 := am_at e109
            have k111 := (am_ne e109 (t + 3) (by omega)).trans w1
            have k112 := (am_ne e109 (t + 4) (by omega)).trans w2
            have k113 := (am_ne e109 (t + 5) (by omega)).trans w3
            have k114 := (am_ne e109 (t + 6) (by omega)).trans w4
            have k115 := (am_ne e109 j (by omega)).trans w5
            have k116 := wL.kept (lo := t) (hi := t + 1) (am_fr.st e109 (by omega) (by omega)) (by omega)
            refine q_blk (lv2 := [(0, vr t), (1, vi 4), (2, vi g), (3, vi i), (4, vi (kd e9))]) (st2 := [vi 4, vr t]) kX6_readSum_51 rfl ?_
            refine AQ.callVi (av := [vi 4]) (st := []) (c_X6_readTerm4 (L := L9) ⟨_, k110, k111, k112, k113, k114, cj, k115, k116⟩ n0 kn (by omega) (by omega) kr vq hL9 (by omega)) lk_RX6_227 (by decide) rfl rfl ⟨_, _, _, k110⟩ ⟨_, rfl, rfl⟩ (Nat.le_of_ble_eq_true rfl) eX6_readSum_53 (fun z117 h119 e118 => ?_)
            rcases e118 with ⟨⟨rfl, Lh119, hh119e, qh119, ⟨bh119a, bh119b, bh119c⟩, hh119n, hh119c, Xh119, Ch119⟩ | ⟨rfl, eh119, ah119, qh119, Xh119⟩, Fh119⟩
            · skip
              obtain ⟨g120t, g1200, g1201, g1202, g1203, g1204, g120j, g1205, g120L⟩ := id Xh119
              refine q_blk (lv2 := [(0, vr t), (1, vi 4), (2, vi 1), (3, vi i), (4, vi (kd e9))]) (st2 := [vi 43, vi (kd e9), vr t]) kX6_readSum_56 rfl ?_
              refine AQ.ic_ne (tgt := 70) eX6_readSum_62 (by decide) (by first | assumption | exact ⟨by omega, by omega⟩) ⟨by decide, by decide⟩ (fun br121 => ?_) (fun br121 => ?_)
              · skip
                refine q_blk (lv2 := [(0, vr t), (1, vi 4), (2, vi 1), (3, vi i), (4, vi (kd e9))]) (st2 := [vi (-7), vr t]) kX6_readSum_70 rfl ?_
                refine AQ.callVv (av := [vi (-7)]) (st := []) (c_X6_addCode (v := (-7)) ⟨_, g1200, g1201, g1202, g1203, g1204, cj, g1205, g120L⟩ (by omega) (by omega)) lk_RX6_230 (by decide) rfl rfl ⟨_, _, _, g1200⟩ ⟨_, rfl, rfl⟩ (Nat.le_of_ble_eq_true rfl) eX6_readSum_72 (fun h124 e123 => ?_)
                obtain ⟨Xh124, Fh124⟩ := e123
                obtain ⟨g125t, g1250, g1251, g1252, g1253, g1254, g125j, g1255, g125L⟩ := id Xh124
                refine q_blk (lv2 := [(0, vr t), (1, vi 4), (2, vi 1), (3, vi (i + 1)), (4, vi (kd e9))]) (st2 := []) kX6_readSum_75 rfl ?_
                refine q_goto (tgt := 8) eX6_readSum_78 (by decide) ?_
                refine q_sub (lv2 := [(0, vr t), (1, vi 4), (2, vi 1), (3, vi (i + 1))]) [0, 1, 2, 3] rfl ?_
                exact ih71 1 (i + 1) h124 (Lh119 ++ [(3, 0)]) hh119e hh119n (am_uI hh119c (Lh119.length : Int) (-7)) (⟨⟨by omega, by omega⟩, hfr.tr (((am_fr.rf.tr (am_fr.st e109 (by omega) (by omega))).tr Fh119).tr Fh124), Or.inl ⟨rfl, ⟨by omega, by omega, by simp; omega⟩, by rw [show 800 - (i + 1).toNat = 800 - i.toNat - 1 by omega]; exact (rJ_go (o := 3) (by omega) (by omega) qh119).symm.trans hJ9, Ch119.add (by unfold gm_en; simp), SU.cast ⟨_, g1250, g1251, g1252, g1253, g1254, cj, g1255, g125L⟩ (by simp)⟩⟩) (by omega)
              · skip
                refine q_blk (lv2 := [(0, vr t), (1, vi 4), (2, vi 1), (3, vi i), (4, vi (kd e9))]) (st2 := [vi (-6), vr t]) kX6_readSum_65 rfl ?_
                refine q_goto (tgt := 72) eX6_readSum_67 (by decide) ?_
                refine AQ.callVv (av := [vi (-6)]) (st := []) (c_X6_addCode (v := (-6)) ⟨_, g1200, g1201, g1202, g1203, g1204, cj, g1205, g120L⟩ (by omega) (by omega)) lk_RX6_230 (by decide) rfl rfl ⟨_, _, _, g1200⟩ ⟨_, rfl, rfl⟩ (Nat.le_of_ble_eq_true rfl) eX6_readSum_72 (fun h128 e127 => ?_)
                obtain ⟨Xh128, Fh128⟩ := e127
                obtain ⟨g129t, g1290, g1291, g1292, g1293, g1294, g129j, g1295, g129L⟩ := id Xh128
                refine q_blk (lv2 := [(0, vr t), (1, vi 4), (2, vi 1), (3, vi (i + 1)), (4, vi (kd e9))]) (st2 := []) kX6_readSum_75 rfl ?_
                refine q_goto (tgt := 8) eX6_readSum_78 (by decide) ?_
                refine q_sub (lv2 := [(0, vr t), (1, vi 4), (2, vi 1), (3, vi (i + 1))]) [0, 1, 2, 3] rfl ?_
                exact ih71 1 (i + 1) h128 (Lh119 ++ [(2, 0)]) hh119e hh119n (am_uI hh119c (Lh119.length : Int) (-6)) (⟨⟨by omega, by omega⟩, hfr.tr (((am_fr.rf.tr (am_fr.st e109 (by omega) (by omega))).tr Fh119).tr Fh128), Or.inl ⟨rfl, ⟨by omega, by omega, by simp; omega⟩, by rw [show 800 - (i + 1).toNat = 800 - i.toNat - 1 by omega]; exact (rJ_go (o := 2) (by omega) (by omega) qh119).symm.trans hJ9, Ch119.add (by unfold gm_en; simp), SU.cast ⟨_, g1290, g1291, g1292, g1293, g1294, cj, g1295, g129L⟩ (by simp)⟩⟩) (by omega)
            · skip
              refine q_blk (lv2 := [(0, vr t), (1, vi 4), (2, vi 0), (3, vi i), (4, vi (kd e9))]) (st2 := [vi 43, vi (kd e9), vr t]) kX6_readSum_56 rfl ?_
              refine AQ.ic_ne (tgt := 70) eX6_readSum_62 (by decide) (by first | assumption | exact ⟨by omega, by omega⟩) ⟨by decide, by decide⟩ (fun br130 => ?_) (fun br130 => ?_)
              · skip
                refine q_blk (lv2 := [(0, vr t), (1, vi 4), (2, vi 0), (3, vi i), (4, vi (kd e9))]) (st2 := [vi (-7), vr t]) kX6_readSum_70 rfl ?_
                refine AQ.callVv (av := [vi (-7)]) (st := []) (c_X6_addCodeF Xh119 (v := (-7))) lk_RX6_230 (by decide) rfl rfl (SF.ob Xh119) ⟨_, rfl, rfl⟩ (Nat.le_of_ble_eq_true rfl) eX6_readSum_72 (fun h133 e132 => ?_)
                obtain ⟨Xh133, Fh133⟩ := e132
                refine q_blk (lv2 := [(0, vr t), (1, vi 4), (2, vi 0), (3, vi (i + 1)), (4, vi (kd e9))]) (st2 := []) kX6_readSum_75 rfl ?_
                refine q_goto (tgt := 8) eX6_readSum_78 (by decide) ?_
                refine q_sub (lv2 := [(0, vr t), (1, vi 4), (2, vi 0), (3, vi (i + 1))]) [0, 1, 2, 3] rfl ?_
                exact ih71 0 (i + 1) h133 L 0 0 cd (⟨⟨by omega, by omega⟩, hfr.tr (((am_fr.rf.tr (am_fr.st e109 (by omega) (by omega))).tr Fh119).tr Fh133), Or.inr ⟨rfl, _, _, hJ9.symm.trans (rJ_no (by omega) (by omega) qh119), Xh133⟩⟩) (by omega)
              · skip
                refine q_blk (lv2 := [(0, vr t), (1, vi 4), (2, vi 0), (3, vi i), (4, vi (kd e9))]) (st2 := [vi (-6), vr t]) kX6_readSum_65 rfl ?_
                refine q_goto (tgt := 72) eX6_readSum_67 (by decide) ?_
                refine AQ.callVv (av := [vi (-6)]) (st := []) (c_X6_addCodeF Xh119 (v := (-6))) lk_RX6_230 (by decide) rfl rfl (SF.ob Xh119) ⟨_, rfl, rfl⟩ (Nat.le_of_ble_eq_true rfl) eX6_readSum_72 (fun h136 e135 => ?_)
                obtain ⟨Xh136, Fh136⟩ := e135
                refine q_blk (lv2 := [(0, vr t), (1, vi 4), (2, vi 0), (3, vi (i + 1)), (4, vi (kd e9))]) (st2 := []) kX6_readSum_75 rfl ?_
                refine q_goto (tgt := 8) eX6_readSum_78 (by decide) ?_
                refine q_sub (lv2 := [(0, vr t), (1, vi 4), (2, vi 0), (3, vi (i + 1))]) [0, 1, 2, 3] rfl ?_
                exact ih71 0 (i + 1) h136 L 0 0 cd (⟨⟨by omega, by omega⟩, hfr.tr (((am_fr.rf.tr (am_fr.st e109 (by omega) (by omega))).tr Fh119).tr Fh136), Or.inr ⟨rfl, _, _, hJ9.symm.trans (rJ_no (by omega) (by omega) qh119), Xh136⟩⟩) (by omega)
          · skip
            refine q_blk (lv2 := [(0, vr t), (1, vi 4), (2, vi g), (3, vi i), (4, vi (kd e9))]) (st2 := [vi 1]) kX6_readSum_39 rfl ?_
            exact q_rz rfl eX6_readSum_40 (by decide) ⟨1, rfl, Or.inl ⟨rfl, L9, e9, hJ9.symm.trans (rJ_end (Or.inr ⟨by omega, by omega⟩)), ⟨by omega, by omega, by omega⟩, _, _, ⟨_, w0, w1, w2, w3, w4, cj, w5, wL⟩, hL9⟩, hfr.tr am_fr.rf⟩

set_option maxHeartbeats 1000000 in
theorem c_X6_readFactor3 {w : am_w} {h : AH} {L : GL} {t u b j : Nat} {kd st vl : Int → Int} {he nu px hs er ea : Int} {cd : Int → Int} (hS : SU h t u b j kd st vl he nu px (L.length : Int) hs er ea cd) {n : Int} (n0 : n ≤ 800) (kn : kd n = 0) (he0 : 0 ≤ he) (he1 : he ≤ n) (kr : ∀ i, 0 ≤ i → i < 801 → -5 ≤ kd i ∧ kd i ≤ 100) (vq : ∀ i, 0 ≤ i → i < 801 → 0 ≤ vl i ∧ vl i ≤ 10000) (hL : CL cd L) (hl : (L.length : Int) ≤ he)  : AE w m_X6_readFactor 7 [vr t, vi 3] h (am_int (fun z h1 => ((z = 1 ∧ ∃ L' he', rA kd st vl (some (rU kd st vl 0)) L he = .inr (L', he') ∧ (he < he' ∧ he' ≤ n ∧ (L'.length : Int) ≤ (L.length : Int) + (he' - he)) ∧ ∃ nu' cd', SU h1 t u b j kd st vl he' nu' px (L'.length : Int) hs er ea cd' ∧ CL cd' L') ∨ (z = 0 ∧ ∃ e a, rA kd st vl (some (rU kd st vl 0)) L he = .inl (e, a) ∧ SF h1 t u b j kd st vl e a)) ∧ am_fr h h1 t (t + 7))) := by
  refine AE.of wf_X6_readFactor (Nat.le_of_ble_eq_true rfl) (am_ok_z (fun z h1 q => by rcases q.1 with q | q; exact Or.inr q.1; exact Or.inl q.1)) ?_
  obtain ⟨tc, c0, c1, c2, c3, c4, cj, c5, cL⟩ := id hS
  have kr1 := kr he he0 (by omega)
  have vr1 := vq he he0 (by omega)
  have hen : kd he ≠ 0 → he ≠ n := fun q e9 => by rw [e9] at q; omega
  refine q_blk (lv2 := [(0, vr t), (1, vi 3)]) (st2 := [vr t]) kX6_readFactor_0 rfl ?_
  refine q_Vi (av := []) (st := []) (c_X6_kindHere ⟨_, c0, c1, c2, c3, c4, cj, c5, cL⟩ (by omega) (by omega)) lk_RX6_70 (by decide) rfl rfl ⟨_, _, _, c0⟩ ⟨_, rfl, rfl⟩ (Nat.le_of_ble_eq_true rfl) eX6_readFactor_1 (fun z1 e2 => ?_)
  subst e2
  refine q_blk (lv2 := [(0, vr t), (1, vi 3), (2, vi (kd he))]) (st2 := [vi 40, vi (kd he)]) kX6_readFactor_4 rfl ?_
  refine AQ.ic_ne (tgt := 58) eX6_readFactor_8 (by decide) (by first | assumption | exact ⟨by omega, by omega⟩) ⟨by decide, by decide⟩ (fun br3 => ?_) (fun br3 => ?_)
  · skip
    refine q_blk (lv2 := [(0, vr t), (1, vi 3), (2, vi (kd he))]) (st2 := [vi (kd he)]) kX6_readFactor_58 rfl ?_
    refine AQ.if_ge (tgt := 79) eX6_readFactor_59 (by decide) (by first | assumption | exact ⟨by omega, by omega⟩) (fun br4 => ?_) (fun br4 => ?_)
    · skip
      refine q_blk (lv2 := [(0, vr t), (1, vi 3), (2, vi (kd he))]) (st2 := [vi 2, vi (kd he)]) kX6_readFactor_79 rfl ?_
      refine AQ.ic_eq (tgt := 91) eX6_readFactor_81 (by decide) (by first | assumption | exact ⟨by omega, by omega⟩) ⟨by decide, by decide⟩ (fun br5 => ?_) (fun br5 => ?_)
      · skip
        refine q_blk (lv2 := [(0, vr t), (1, vi 3), (2, vi (kd he))]) (st2 := [vr t, vr t]) kX6_readFactor_91 rfl ?_
        refine q_Vi (av := []) (st := [vr t]) (c_X6_valueHere ⟨_, c0, c1, c2, c3, c4, cj, c5, cL⟩ (by omega) (by omega)) lk_RX6_148 (by decide) rfl rfl ⟨_, _, _, c0⟩ ⟨_, rfl, rfl⟩ (Nat.le_of_ble_eq_true rfl) eX6_readFactor_93 (fun z6 e7 => ?_)
        subst e7
        refine q_pi eX6_readFactor_96 fl_RX6_31 (fun q hq => by cases hq; exact Or.inl rfl) (Or.inl rfl) c0 (Nat.le_of_ble_eq_true rfl) (l2 := [0, 0, 0, 0, 0, 0, 0, tc, he, (vl he), px, (L.length : Int), hs, er, ea]) rfl (fun h8 e9 => ?_)
        have k10 := am_at e9
        have k11 := (am_ne e9 (t + 3) (by omega)).trans c1
        have k12 := (am_ne e9 (t + 4) (by omega)).trans c2
        have k13 := (am_ne e9 (t + 5) (by omega)).trans c3
        have k14 := (am_ne e9 (t + 6) (by omega)).trans c4
        have k15 := (am_ne e9 j (by omega)).trans c5
        have k16 := cL.kept (lo := t) (hi := t + 1) (am_fr.st e9 (by omega) (by omega)) (by omega)
        refine q_blk (lv2 := [(0, vr t), (1, vi 3), (2, vi (kd he))]) (st2 := [vr t]) kX6_readFactor_99 rfl ?_
        refine q_gi eX6_readFactor_100 fl_RX6_31 (Or.inl rfl) k10 (z := (vl he)) rfl ?_
        refine q_blk (lv2 := [(0, vr t), (1, vi 3), (2, vi (kd he))]) (st2 := [vi 9999, vi (vl he)]) kX6_readFactor_103 rfl ?_
        refine AQ.ic_le (tgt := 116) eX6_readFactor_106 (by decide) (by first | assumption | exact ⟨by omega, by omega⟩) ⟨by decide, by decide⟩ (fun br17 => ?_) (fun br17 => ?_)
        · skip
          refine q_blk (lv2 := [(0, vr t), (1, vi 3), (2, vi (kd he))]) (st2 := [vr t, vr t]) kX6_readFactor_116 rfl ?_
          refine q_gi eX6_readFactor_118 fl_RX6_28 (Or.inl rfl) k10 (z := he) rfl ?_
          refine q_blk (lv2 := [(0, vr t), (1, vi 3), (2, vi (kd he))]) (st2 := [vi (he + 1), vr t]) kX6_readFactor_121 rfl ?_
          refine q_pi eX6_readFactor_123 fl_RX6_28 (fun q hq => by cases hq; exact Or.inl rfl) (Or.inl rfl) k10 (Nat.le_of_ble_eq_true rfl) (l2 := [0, 0, 0, 0, 0, 0, 0, tc, (he + 1), (vl he), px, (L.length : Int), hs, er, ea]) rfl (fun h18 e19 => ?_)
          have k20 := am_at e19
          have k21 := (am_ne e19 (t + 3) (by omega)).trans k11
          have k22 := (am_ne e19 (t + 4) (by omega)).trans k12
          have k23 := (am_ne e19 (t + 5) (by omega)).trans k13
          have k24 := (am_ne e19 (t + 6) (by omega)).trans k14
          have k25 := (am_ne e19 j (by omega)).trans k15
          have k26 := k16.kept (lo := t) (hi := t + 1) (am_fr.st e19 (by omega) (by omega)) (by omega)
          refine q_blk (lv2 := [(0, vr t), (1, vi 3), (2, vi (kd he))]) (st2 := [vr t, vr t]) kX6_readFactor_126 rfl ?_
          refine q_gi eX6_readFactor_128 fl_RX6_31 (Or.inl rfl) k20 (z := (vl he)) rfl ?_
          refine AQ.callVv (av := [vi (vl he)]) (st := []) (c_X6_addCode (v := (vl he)) ⟨_, k20, k21, k22, k23, k24, cj, k25, k26⟩ (by omega) (by omega)) lk_RX6_230 (by decide) rfl rfl ⟨_, _, _, k20⟩ ⟨_, rfl, rfl⟩ (Nat.le_of_ble_eq_true rfl) eX6_readFactor_131 (fun h29 e28 => ?_)
          obtain ⟨Xh29, Fh29⟩ := e28
          obtain ⟨g30t, g300, g301, g302, g303, g304, g30j, g305, g30L⟩ := id Xh29
          refine q_blk (lv2 := [(0, vr t), (1, vi 3), (2, vi (kd he))]) (st2 := [vi 1]) kX6_readFactor_134 rfl ?_
          exact q_rz rfl eX6_readFactor_135 (by decide) ⟨1, rfl, Or.inl ⟨rfl, L ++ [(0, vl he)], he + 1, by unfold rA; rw [if_neg (by omega), if_neg (by omega), if_pos (by omega), if_pos (by omega)], ⟨by omega, by omega, by simp; omega⟩, (vl he), (am_uI cd (L.length : Int) (vl he)), SU.cast ⟨_, g300, g301, g302, g303, g304, cj, g305, g30L⟩ (by simp), hL.add (by unfold gm_en; (try simp); (try omega))⟩, ((am_fr.rf.tr ((am_fr.st e9 (by omega) (by omega)).tr (am_fr.st e19 (by omega) (by omega)))).tr Fh29)⟩
        · skip
          refine q_blk (lv2 := [(0, vr t), (1, vi 3), (2, vi (kd he))]) (st2 := [vi (-3), vr t]) kX6_readFactor_109 rfl ?_
          refine AQ.callVi (av := [vi (-3)]) (st := []) (c_X6_fail (e := (-3)) ⟨_, k10, k11, k12, k13, k14, cj, k15, k16⟩ (by omega) (by omega)) lk_RX6_83 (by decide) rfl rfl ⟨_, _, _, k10⟩ ⟨_, rfl, rfl⟩ (Nat.le_of_ble_eq_true rfl) eX6_readFactor_112 (fun z31 h33 e32 => ?_)
          obtain ⟨z310, Xh33, Fh33⟩ := e32
          subst z310
          obtain ⟨g34t, g340, g341, g342, g343, g344, g34j, g345, g34L⟩ := id Xh33
          exact q_rz rfl eX6_readFactor_115 (by decide) ⟨0, rfl, Or.inr ⟨rfl, _, _, by unfold rA; rw [if_neg (by omega), if_neg (by omega), if_pos (by omega), if_neg (by omega)], ⟨_, _, _, _, _, _, ⟨_, g340, g341, g342, g343, g344, cj, g345, g34L⟩, by omega, by omega⟩⟩, ((am_fr.rf.tr (am_fr.st e9 (by omega) (by omega))).tr Fh33)⟩
      · skip
        refine q_blk (lv2 := [(0, vr t), (1, vi 3), (2, vi (kd he))]) (st2 := [vi (-2), vr t]) kX6_readFactor_84 rfl ?_
        refine AQ.callVi (av := [vi (-2)]) (st := []) (c_X6_fail (e := (-2)) ⟨_, c0, c1, c2, c3, c4, cj, c5, cL⟩ (by omega) (by omega)) lk_RX6_83 (by decide) rfl rfl ⟨_, _, _, c0⟩ ⟨_, rfl, rfl⟩ (Nat.le_of_ble_eq_true rfl) eX6_readFactor_87 (fun z35 h37 e36 => ?_)
        obtain ⟨z350, Xh37, Fh37⟩ := e36
        subst z350
        obtain ⟨g38t, g380, g381, g382, g383, g384, g38j, g385, g38L⟩ := id Xh37
        exact q_rz rfl eX6_readFactor_90 (by decide) ⟨0, rfl, Or.inr ⟨rfl, _, _, by unfold rA; rw [if_neg (by omega), if_neg (by omega), if_neg (by omega)], ⟨_, _, _, _, _, _, ⟨_, g380, g381, g382, g383, g384, cj, g385, g38L⟩, by omega, by omega⟩⟩, (am_fr.rf.tr Fh37)⟩
    · skip
      refine q_blk (lv2 := [(0, vr t), (1, vi 3), (2, vi (kd he))]) (st2 := [vr t, vr t]) kX6_readFactor_62 rfl ?_
      refine q_gi eX6_readFactor_64 fl_RX6_28 (Or.inl rfl) c0 (z := he) rfl ?_
      refine q_blk (lv2 := [(0, vr t), (1, vi 3), (2, vi (kd he))]) (st2 := [vi (he + 1), vr t]) kX6_readFactor_67 rfl ?_
      refine q_pi eX6_readFactor_69 fl_RX6_28 (fun q hq => by cases hq; exact Or.inl rfl) (Or.inl rfl) c0 (Nat.le_of_ble_eq_true rfl) (l2 := [0, 0, 0, 0, 0, 0, 0, tc, (he + 1), nu, px, (L.length : Int), hs, er, ea]) rfl (fun h39 e40 => ?_)
      have k41 := am_at e40
      have k42 := (am_ne e40 (t + 3) (by omega)).trans c1
      have k43 := (am_ne e40 (t + 4) (by omega)).trans c2
      have k44 := (am_ne e40 (t + 5) (by omega)).trans c3
      have k45 := (am_ne e40 (t + 6) (by omega)).trans c4
      have k46 := (am_ne e40 j (by omega)).trans c5
      have k47 := cL.kept (lo := t) (hi := t + 1) (am_fr.st e40 (by omega) (by omega)) (by omega)
      refine q_blk (lv2 := [(0, vr t), (1, vi 3), (2, vi (kd he))]) (st2 := [vi (kd he), vr t]) kX6_readFactor_72 rfl ?_
      refine AQ.callVv (av := [vi (kd he)]) (st := []) (c_X6_addCode (v := (kd he)) ⟨_, k41, k42, k43, k44, k45, cj, k46, k47⟩ (by omega) (by omega)) lk_RX6_230 (by decide) rfl rfl ⟨_, _, _, k41⟩ ⟨_, rfl, rfl⟩ (Nat.le_of_ble_eq_true rfl) eX6_readFactor_74 (fun h50 e49 => ?_)
      obtain ⟨Xh50, Fh50⟩ := e49
      obtain ⟨g51t, g510, g511, g512, g513, g514, g51j, g515, g51L⟩ := id Xh50
      refine q_blk (lv2 := [(0, vr t), (1, vi 3), (2, vi (kd he))]) (st2 := [vi 1]) kX6_readFactor_77 rfl ?_
      exact q_rz rfl eX6_readFactor_78 (by decide) ⟨1, rfl, Or.inl ⟨rfl, L ++ [(1, -1 - kd he)], he + 1, by unfold rA; rw [if_neg (by omega), if_pos (by omega)], ⟨by omega, by omega, by simp; omega⟩, nu, (am_uI cd (L.length : Int) (kd he)), SU.cast ⟨_, g510, g511, g512, g513, g514, cj, g515, g51L⟩ (by simp), hL.add (by unfold gm_en; (try simp); (try omega))⟩, ((am_fr.rf.tr (am_fr.st e40 (by omega) (by omega))).tr Fh50)⟩
  · skip
    refine q_blk (lv2 := [(0, vr t), (1, vi 3), (2, vi (kd he))]) (st2 := [vi 4, vi 3]) kX6_readFactor_11 rfl ?_
    refine AQ.of (AS.ic_lt_t (tgt := 23) eX6_readFactor_13 (by decide) ⟨by decide, by decide⟩ ⟨by decide, by decide⟩ (by decide)) ?_
    refine q_blk (lv2 := [(0, vr t), (1, vi 3), (2, vi (kd he))]) (st2 := [vr t, vr t]) kX6_readFactor_23 rfl ?_
    refine q_gi eX6_readFactor_25 fl_RX6_28 (Or.inl rfl) c0 (z := he) rfl ?_
    refine q_blk (lv2 := [(0, vr t), (1, vi 3), (2, vi (kd he))]) (st2 := [vi (he + 1), vr t]) kX6_readFactor_28 rfl ?_
    refine q_pi eX6_readFactor_30 fl_RX6_28 (fun q hq => by cases hq; exact Or.inl rfl) (Or.inl rfl) c0 (Nat.le_of_ble_eq_true rfl) (l2 := [0, 0, 0, 0, 0, 0, 0, tc, (he + 1), nu, px, (L.length : Int), hs, er, ea]) rfl (fun h52 e53 => ?_)
    have k54 := am_at e53
    have k55 := (am_ne e53 (t + 3) (by omega)).trans c1
    have k56 := (am_ne e53 (t + 4) (by omega)).trans c2
    have k57 := (am_ne e53 (t + 5) (by omega)).trans c3
    have k58 := (am_ne e53 (t + 6) (by omega)).trans c4
    have k59 := (am_ne e53 j (by omega)).trans c5
    have k60 := cL.kept (lo := t) (hi := t + 1) (am_fr.st e53 (by omega) (by omega)) (by omega)
    refine q_blk (lv2 := [(0, vr t), (1, vi 3), (2, vi (kd he))]) (st2 := [vi (3 + 1), vr t]) kX6_readFactor_33 rfl ?_
    refine AQ.callVi (av := [vi (3 + 1)]) (st := []) (c_X6_readSum4 (L := L) ⟨_, k54, k55, k56, k57, k58, cj, k59, k60⟩ n0 kn (by omega) (by omega) kr vq hL (by omega)) lk_RX6_215 (by decide) rfl rfl ⟨_, _, _, k54⟩ ⟨_, rfl, rfl⟩ (Nat.le_of_ble_eq_true rfl) eX6_readFactor_37 (fun z61 h63 e62 => ?_)
    rcases e62 with ⟨⟨rfl, Lh63, hh63e, qh63, ⟨bh63a, bh63b, bh63c⟩, hh63n, hh63c, Xh63, Ch63⟩ | ⟨rfl, eh63, ah63, qh63, Xh63⟩, Fh63⟩
    · skip
      obtain ⟨g64t, g640, g641, g642, g643, g644, g64j, g645, g64L⟩ := id Xh63
      refine AQ.of (AS.if_eq_f eX6_readFactor_40 ⟨by decide, by decide⟩ (by decide) (by decide)) ?_
      refine q_blk (lv2 := [(0, vr t), (1, vi 3), (2, vi (kd he))]) (st2 := [vi 41, vr t]) kX6_readFactor_43 rfl ?_
      refine AQ.callVi (av := [vi 41]) (st := []) (c_X6_take ⟨_, g640, g641, g642, g643, g644, cj, g645, g64L⟩ (by omega) (by omega) kr vq (k := 41) (by omega) (by omega)) lk_RX6_166 (by decide) rfl rfl ⟨_, _, _, g640⟩ ⟨_, rfl, rfl⟩ (Nat.le_of_ble_eq_true rfl) eX6_readFactor_46 (fun z65 h67 e66 => ?_)
      rcases e66 with ⟨⟨rfl, qh67, Xh67⟩ | ⟨rfl, qh67, Xh67⟩, Fh67⟩
      · skip
        obtain ⟨g68t, g680, g681, g682, g683, g684, g68j, g685, g68L⟩ := id Xh67
        have nh67 : hh63e ≠ n := fun e9 => by rw [e9] at qh67; omega
        refine AQ.of (AS.if_eq_f eX6_readFactor_49 ⟨by decide, by decide⟩ (by decide) (by decide)) ?_
        refine q_blk (lv2 := [(0, vr t), (1, vi 3), (2, vi (kd he))]) (st2 := [vi 1]) kX6_readFactor_52 rfl ?_
        refine q_goto (tgt := 57) eX6_readFactor_53 (by decide) ?_
        exact q_rz rfl eX6_readFactor_57 (by decide) ⟨1, rfl, Or.inl ⟨rfl, _, _, by unfold rA; rw [if_pos (by omega)]; exact (rB_r qh63 _).trans (rB_r (show rT kd st 41 hh63e = .inr () by unfold rT; rw [if_pos qh67]) _), ⟨by omega, by omega, by omega⟩, _, _, ⟨_, g680, g681, g682, g683, g684, cj, g685, g68L⟩, Ch63⟩, (((am_fr.rf.tr (am_fr.st e53 (by omega) (by omega))).tr Fh63).tr Fh67)⟩
      · skip
        obtain ⟨g69t, g690, g691, g692, g693, g694, g69j, g695, g69L⟩ := id Xh67
        refine AQ.of (AS.if_eq_t (tgt := 56) eX6_readFactor_49 (by decide) ⟨by decide, by decide⟩ (by decide)) ?_
        refine q_blk (lv2 := [(0, vr t), (1, vi 3), (2, vi (kd he))]) (st2 := [vi 0]) kX6_readFactor_56 rfl ?_
        exact q_rz rfl eX6_readFactor_57 (by decide) ⟨0, rfl, Or.inr ⟨rfl, _, _, by unfold rA; rw [if_pos (by omega)]; exact (rB_r qh63 _).trans (rB_l (show rT kd st 41 hh63e = .inl (-2, st hh63e) by unfold rT; rw [if_neg qh67]) _), ⟨_, _, _, _, _, _, ⟨_, g690, g691, g692, g693, g694, cj, g695, g69L⟩, by omega, by omega⟩⟩, (((am_fr.rf.tr (am_fr.st e53 (by omega) (by omega))).tr Fh63).tr Fh67)⟩
    · skip
      refine AQ.of (AS.if_eq_t (tgt := 56) eX6_readFactor_40 (by decide) ⟨by decide, by decide⟩ (by decide)) ?_
      refine q_blk (lv2 := [(0, vr t), (1, vi 3), (2, vi (kd he))]) (st2 := [vi 0]) kX6_readFactor_56 rfl ?_
      exact q_rz rfl eX6_readFactor_57 (by decide) ⟨0, rfl, Or.inr ⟨rfl, _, _, by unfold rA; rw [if_pos (by omega)]; exact rB_l qh63 _, Xh63⟩, ((am_fr.rf.tr (am_fr.st e53 (by omega) (by omega))).tr Fh63)⟩

set_option maxHeartbeats 1000000 in
theorem c_X6_readTerm3 {w : am_w} {h : AH} {L : GL} {t u b j : Nat} {kd st vl : Int → Int} {he nu px hs er ea : Int} {cd : Int → Int} (hS : SU h t u b j kd st vl he nu px (L.length : Int) hs er ea cd) {n : Int} (n0 : n ≤ 800) (kn : kd n = 0) (he0 : 0 ≤ he) (he1 : he ≤ n) (kr : ∀ i, 0 ≤ i → i < 801 → -5 ≤ kd i ∧ kd i ≤ 100) (vq : ∀ i, 0 ≤ i → i < 801 → 0 ≤ vl i ∧ vl i ≤ 10000) (hL : CL cd L) (hl : (L.length : Int) ≤ he)  : AE w m_X6_readTerm 8 [vr t, vi 3] h (am_int (fun z h1 => ((z = 1 ∧ ∃ L' he', rM kd st vl (some (rU kd st vl 0)) L he = .inr (L', he') ∧ (he < he' ∧ he' ≤ n ∧ (L'.length : Int) ≤ (L.length : Int) + (he' - he)) ∧ ∃ nu' cd', SU h1 t u b j kd st vl he' nu' px (L'.length : Int) hs er ea cd' ∧ CL cd' L') ∨ (z = 0 ∧ ∃ e a, rM kd st vl (some (rU kd st vl 0)) L he = .inl (e, a) ∧ SF h1 t u b j kd st vl e a)) ∧ am_fr h h1 t (t + 7))) := by
  refine AE.of wf_X6_readTerm (Nat.le_of_ble_eq_true rfl) (am_ok_z (fun z h1 q => by rcases q.1 with q | q; exact Or.inr q.1; exact Or.inl q.1)) ?_
  obtain ⟨tc, c0, c1, c2, c3, c4, cj, c5, cL⟩ := id hS
  have kr1 := kr he he0 (by omega)
  have vr1 := vq he he0 (by omega)
  have hen : kd he ≠ 0 → he ≠ n := fun q e9 => by rw [e9] at q; omega
  refine q_blk (lv2 := [(0, vr t), (1, vi 3)]) (st2 := [vi 3, vr t]) kX6_readTerm_0 rfl ?_
  refine AQ.callVi (av := [vi 3]) (st := []) (c_X6_readFactor3 (L := L) ⟨_, c0, c1, c2, c3, c4, cj, c5, cL⟩ n0 kn (by omega) (by omega) kr vq hL (by omega)) lk_RX6_233 (by decide) rfl rfl ⟨_, _, _, c0⟩ ⟨_, rfl, rfl⟩ (Nat.le_of_ble_eq_true rfl) eX6_readTerm_2 (fun z1 h3 e2 => ?_)
  rcases e2 with ⟨⟨rfl, Lh3, hh3e, qh3, ⟨bh3a, bh3b, bh3c⟩, hh3n, hh3c, Xh3, Ch3⟩ | ⟨rfl, eh3, ah3, qh3, Xh3⟩, Fh3⟩
  · skip
    obtain ⟨g4t, g40, g41, g42, g43, g44, g4j, g45, g4L⟩ := id Xh3
    refine q_blk (lv2 := [(0, vr t), (1, vi 3), (2, vi 1), (3, vi 0)]) (st2 := []) kX6_readTerm_5 rfl ?_
    refine am_lp7 (I := fun (g : Int) (i : Int) (hh : AH) (L9 : GL) (e9 : Int) (v9 : Int) (c9 : Int → Int) => (0 ≤ i ∧ i ≤ 800) ∧ am_fr h hh t (t + 7) ∧ ((g = 1 ∧ (he < e9 ∧ e9 ≤ n ∧ (L9.length : Int) ≤ (L.length : Int) + (e9 - he)) ∧ rJ kd (rA kd st vl (some (rU kd st vl 0))) 42 47 4 5 (800 - i.toNat) L9 e9 = rM kd st vl (some (rU kd st vl 0)) L he ∧ CL c9 L9 ∧ SU hh t u b j kd st vl e9 v9 px (L9.length : Int) hs er ea c9) ∨ (g = 0 ∧ ∃ e a, rM kd st vl (some (rU kd st vl 0)) L he = .inl (e, a) ∧ SF hh t u b j kd st vl e a))) (μ := fun (g : Int) (i : Int) (hh : AH) (L9 : GL) (e9 : Int) (v9 : Int) (c9 : Int → Int) => (800 - i).toNat) (G := fun (g : Int) (i : Int) (hh : AH) (L9 : GL) (e9 : Int) (v9 : Int) (c9 : Int → Int) => AQ w m_X6_readTerm 8 8 [(0, vr t), (1, vi 3), (2, vi g), (3, vi i)] [] hh (am_int (fun z h1 => ((z = 1 ∧ ∃ L' he', rM kd st vl (some (rU kd st vl 0)) L he = .inr (L', he') ∧ (he < he' ∧ he' ≤ n ∧ (L'.length : Int) ≤ (L.length : Int) + (he' - he)) ∧ ∃ nu' cd', SU h1 t u b j kd st vl he' nu' px (L'.length : Int) hs er ea cd' ∧ CL cd' L') ∨ (z = 0 ∧ ∃ e a, rM kd st vl (some (rU kd st vl 0)) L he = .inl (e, a) ∧ SF h1 t u b j kd st vl e a)) ∧ am_fr h h1 t (t + 7)))) ?_ 1 0 h3 Lh3 hh3e hh3n hh3c (⟨⟨by omega, by omega⟩, (am_fr.rf.tr Fh3), Or.inl ⟨rfl, ⟨by omega, by omega, by omega⟩, by rw [show (800 - (0 : Int).toNat : Nat) = 800 from rfl]; unfold rM; rw [rB_r qh3], Ch3, ⟨_, g40, g41, g42, g43, g44, cj, g45, g4L⟩⟩⟩)
    intro g i hh L9 e9 v9 c9 hI6 ih5
    obtain ⟨⟨i0, i1⟩, hfr, hG⟩ := hI6
    have hg9 : g = 0 ∨ g = 1 := by rcases hG with q | q; exact Or.inr q.1; exact Or.inl q.1
    refine q_blk (lv2 := [(0, vr t), (1, vi 3), (2, vi g), (3, vi i)]) (st2 := [vi 800, vi i]) kX6_readTerm_8 rfl ?_
    refine AQ.ic_ge (tgt := 81) eX6_readTerm_12 (by decide) (by first | assumption | exact ⟨by omega, by omega⟩) ⟨by decide, by decide⟩ (fun br7 => ?_) (fun br7 => ?_)
    · skip
      refine q_blk (lv2 := [(0, vr t), (1, vi 3), (2, vi g), (3, vi i)]) (st2 := [vi g]) kX6_readTerm_81 rfl ?_
      exact q_rz rfl eX6_readTerm_82 (by omega) ⟨g, rfl, (by rcases hG with ⟨rfl, hb9, hJ9, hL9, hS9⟩ | hG; exact Or.inl ⟨rfl, L9, e9, hJ9.symm.trans (rJ_end (Or.inl (by omega))), hb9, _, _, hS9, hL9⟩; exact Or.inr hG), hfr⟩
    · skip
      refine q_blk (lv2 := [(0, vr t), (1, vi 3), (2, vi g), (3, vi i)]) (st2 := [vi g]) kX6_readTerm_15 rfl ?_
      refine AQ.if_eq (tgt := 81) eX6_readTerm_16 (by decide) (by first | assumption | exact ⟨by omega, by omega⟩) (fun br8 => ?_) (fun br8 => ?_)
      · skip
        refine q_blk (lv2 := [(0, vr t), (1, vi 3), (2, vi g), (3, vi i)]) (st2 := [vi g]) kX6_readTerm_81 rfl ?_
        exact q_rz rfl eX6_readTerm_82 (by omega) ⟨g, rfl, (by rcases hG with ⟨rfl, hb9, hJ9, hL9, hS9⟩ | hG; exact Or.inl ⟨rfl, L9, e9, hJ9.symm.trans (rJ_end (Or.inl (by omega))), hb9, _, _, hS9, hL9⟩; exact Or.inr hG), hfr⟩
      · skip
        obtain ⟨-, ⟨b9a, b9b, b9c⟩, hJ9, hL9, hS9⟩ := hG.resolve_right (fun q => absurd q.1 (by omega))
        obtain ⟨wt, w0, w1, w2, w3, w4, wj, w5, wL⟩ := id hS9
        have kr9 := kr e9 (by omega) (by omega)
        have hen9 : kd e9 ≠ 0 → e9 ≠ n := fun q e => by rw [e] at q; omega
        refine q_blk (lv2 := [(0, vr t), (1, vi 3), (2, vi g), (3, vi i)]) (st2 := [vr t]) kX6_readTerm_19 rfl ?_
        refine q_Vi (av := []) (st := []) (c_X6_kindHere ⟨_, w0, w1, w2, w3, w4, cj, w5, wL⟩ (by omega) (by omega)) lk_RX6_70 (by decide) rfl rfl ⟨_, _, _, w0⟩ ⟨_, rfl, rfl⟩ (Nat.le_of_ble_eq_true rfl) eX6_readTerm_20 (fun z9 e10 => ?_)
        subst e10
        refine q_blk (lv2 := [(0, vr t), (1, vi 3), (2, vi g), (3, vi i), (4, vi (kd e9))]) (st2 := [vi 42, vi (kd e9)]) kX6_readTerm_23 rfl ?_
        refine AQ.ic_eq (tgt := 41) eX6_readTerm_29 (by decide) (by first | assumption | exact ⟨by omega, by omega⟩) ⟨by decide, by decide⟩ (fun br11 => ?_) (fun br11 => ?_)
        · skip
          refine q_blk (lv2 := [(0, vr t), (1, vi 3), (2, vi g), (3, vi i), (4, vi (kd e9))]) (st2 := [vr t, vr t]) kX6_readTerm_41 rfl ?_
          refine q_gi eX6_readTerm_43 fl_RX6_28 (Or.inl rfl) w0 (z := e9) rfl ?_
          refine q_blk (lv2 := [(0, vr t), (1, vi 3), (2, vi g), (3, vi i), (4, vi (kd e9))]) (st2 := [vi (e9 + 1), vr t]) kX6_readTerm_46 rfl ?_
          refine q_pi eX6_readTerm_48 fl_RX6_28 (fun q hq => by cases hq; exact Or.inl rfl) (Or.inl rfl) w0 (Nat.le_of_ble_eq_true rfl) (l2 := [0, 0, 0, 0, 0, 0, 0, wt, (e9 + 1), v9, px, (L9.length : Int), hs, er, ea]) rfl (fun h12 e13 => ?_)
          have k14 := am_at e13
          have k15 := (am_ne e13 (t + 3) (by omega)).trans w1
          have k16 := (am_ne e13 (t + 4) (by omega)).trans w2
          have k17 := (am_ne e13 (t + 5) (by omega)).trans w3
          have k18 := (am_ne e13 (t + 6) (by omega)).trans w4
          have k19 := (am_ne e13 j (by omega)).trans w5
          have k20 := wL.kept (lo := t) (hi := t + 1) (am_fr.st e13 (by omega) (by omega)) (by omega)
          refine q_blk (lv2 := [(0, vr t), (1, vi 3), (2, vi g), (3, vi i), (4, vi (kd e9))]) (st2 := [vi 3, vr t]) kX6_readTerm_51 rfl ?_
          refine AQ.callVi (av := [vi 3]) (st := []) (c_X6_readFactor3 (L := L9) ⟨_, k14, k15, k16, k17, k18, cj, k19, k20⟩ n0 kn (by omega) (by omega) kr vq hL9 (by omega)) lk_RX6_233 (by decide) rfl rfl ⟨_, _, _, k14⟩ ⟨_, rfl, rfl⟩ (Nat.le_of_ble_eq_true rfl) eX6_readTerm_53 (fun z21 h23 e22 => ?_)
          rcases e22 with ⟨⟨rfl, Lh23, hh23e, qh23, ⟨bh23a, bh23b, bh23c⟩, hh23n, hh23c, Xh23, Ch23⟩ | ⟨rfl, eh23, ah23, qh23, Xh23⟩, Fh23⟩
          · skip
            obtain ⟨g24t, g240, g241, g242, g243, g244, g24j, g245, g24L⟩ := id Xh23
            refine q_blk (lv2 := [(0, vr t), (1, vi 3), (2, vi 1), (3, vi i), (4, vi (kd e9))]) (st2 := [vi 42, vi (kd e9), vr t]) kX6_readTerm_56 rfl ?_
            refine AQ.ic_ne (tgt := 70) eX6_readTerm_62 (by decide) (by first | assumption | exact ⟨by omega, by omega⟩) ⟨by decide, by decide⟩ (fun br25 => ?_) (fun br25 => ?_)
            · skip
              refine q_blk (lv2 := [(0, vr t), (1, vi 3), (2, vi 1), (3, vi i), (4, vi (kd e9))]) (st2 := [vi (-9), vr t]) kX6_readTerm_70 rfl ?_
              refine AQ.callVv (av := [vi (-9)]) (st := []) (c_X6_addCode (v := (-9)) ⟨_, g240, g241, g242, g243, g244, cj, g245, g24L⟩ (by omega) (by omega)) lk_RX6_230 (by decide) rfl rfl ⟨_, _, _, g240⟩ ⟨_, rfl, rfl⟩ (Nat.le_of_ble_eq_true rfl) eX6_readTerm_72 (fun h28 e27 => ?_)
              obtain ⟨Xh28, Fh28⟩ := e27
              obtain ⟨g29t, g290, g291, g292, g293, g294, g29j, g295, g29L⟩ := id Xh28
              refine q_blk (lv2 := [(0, vr t), (1, vi 3), (2, vi 1), (3, vi (i + 1)), (4, vi (kd e9))]) (st2 := []) kX6_readTerm_75 rfl ?_
              refine q_goto (tgt := 8) eX6_readTerm_78 (by decide) ?_
              refine q_sub (lv2 := [(0, vr t), (1, vi 3), (2, vi 1), (3, vi (i + 1))]) [0, 1, 2, 3] rfl ?_
              exact ih5 1 (i + 1) h28 (Lh23 ++ [(5, 0)]) hh23e hh23n (am_uI hh23c (Lh23.length : Int) (-9)) (⟨⟨by omega, by omega⟩, hfr.tr (((am_fr.rf.tr (am_fr.st e13 (by omega) (by omega))).tr Fh23).tr Fh28), Or.inl ⟨rfl, ⟨by omega, by omega, by simp; omega⟩, by rw [show 800 - (i + 1).toNat = 800 - i.toNat - 1 by omega]; exact (rJ_go (o := 5) (by omega) (by omega) qh23).symm.trans hJ9, Ch23.add (by unfold gm_en; simp), SU.cast ⟨_, g290, g291, g292, g293, g294, cj, g295, g29L⟩ (by simp)⟩⟩) (by omega)
            · skip
              refine q_blk (lv2 := [(0, vr t), (1, vi 3), (2, vi 1), (3, vi i), (4, vi (kd e9))]) (st2 := [vi (-8), vr t]) kX6_readTerm_65 rfl ?_
              refine q_goto (tgt := 72) eX6_readTerm_67 (by decide) ?_
              refine AQ.callVv (av := [vi (-8)]) (st := []) (c_X6_addCode (v := (-8)) ⟨_, g240, g241, g242, g243, g244, cj, g245, g24L⟩ (by omega) (by omega)) lk_RX6_230 (by decide) rfl rfl ⟨_, _, _, g240⟩ ⟨_, rfl, rfl⟩ (Nat.le_of_ble_eq_true rfl) eX6_readTerm_72 (fun h32 e31 => ?_)
              obtain ⟨Xh32, Fh32⟩ := e31
              obtain ⟨g33t, g330, g331, g332, g333, g334, g33j, g335, g33L⟩ := id Xh32
              refine q_blk (lv2 := [(0, vr t), (1, vi 3), (2, vi 1), (3, vi (i + 1)), (4, vi (kd e9))]) (st2 := []) kX6_readTerm_75 rfl ?_
              refine q_goto (tgt := 8) eX6_readTerm_78 (by decide) ?_
              refine q_sub (lv2 := [(0, vr t), (1, vi 3), (2, vi 1), (3, vi (i + 1))]) [0, 1, 2, 3] rfl ?_
              exact ih5 1 (i + 1) h32 (Lh23 ++ [(4, 0)]) hh23e hh23n (am_uI hh23c (Lh23.length : Int) (-8)) (⟨⟨by omega, by omega⟩, hfr.tr (((am_fr.rf.tr (am_fr.st e13 (by omega) (by omega))).tr Fh23).tr Fh32), Or.inl ⟨rfl, ⟨by omega, by omega, by simp; omega⟩, by rw [show 800 - (i + 1).toNat = 800 - i.toNat - 1 by omega]; exact (rJ_go (o := 4) (by omega) (by omega) qh23).symm.trans hJ9, Ch23.add (by unfold gm_en; simp), SU.cast ⟨_, g330, g331, g332, g333, g334, cj, g335, g33L⟩ (by simp)⟩⟩) (by omega)
          · skip
            refine q_blk (lv2 := [(0, vr t), (1, vi 3), (2, vi 0), (3, vi i), (4, vi (kd e9))]) (st2 := [vi 42, vi (kd e9), vr t]) kX6_readTerm_56 rfl ?_
            refine AQ.ic_ne (tgt := 70) eX6_readTerm_62 (by decide) (by first | assumption | exact ⟨by omega, by omega⟩) ⟨by decide, by decide⟩ (fun br34 => ?_) (fun br34 => ?_)
            · skip
              refine q_blk (lv2 := [(0, vr t), (1, vi 3), (2, vi 0), (3, vi i), (4, vi (kd e9))]) (st2 := [vi (-9), vr t]) kX6_readTerm_70 rfl ?_
              refine AQ.callVv (av := [vi (-9)]) (st := []) (c_X6_addCodeF Xh23 (v := (-9))) lk_RX6_230 (by decide) rfl rfl (SF.ob Xh23) ⟨_, rfl, rfl⟩ (Nat.le_of_ble_eq_true rfl) eX6_readTerm_72 (fun h37 e36 => ?_)
              obtain ⟨Xh37, Fh37⟩ := e36
              refine q_blk (lv2 := [(0, vr t), (1, vi 3), (2, vi 0), (3, vi (i + 1)), (4, vi (kd e9))]) (st2 := []) kX6_readTerm_75 rfl ?_
              refine q_goto (tgt := 8) eX6_readTerm_78 (by decide) ?_
              refine q_sub (lv2 := [(0, vr t), (1, vi 3), (2, vi 0), (3, vi (i + 1))]) [0, 1, 2, 3] rfl ?_
              exact ih5 0 (i + 1) h37 L 0 0 cd (⟨⟨by omega, by omega⟩, hfr.tr (((am_fr.rf.tr (am_fr.st e13 (by omega) (by omega))).tr Fh23).tr Fh37), Or.inr ⟨rfl, _, _, hJ9.symm.trans (rJ_no (by omega) (by omega) qh23), Xh37⟩⟩) (by omega)
            · skip
              refine q_blk (lv2 := [(0, vr t), (1, vi 3), (2, vi 0), (3, vi i), (4, vi (kd e9))]) (st2 := [vi (-8), vr t]) kX6_readTerm_65 rfl ?_
              refine q_goto (tgt := 72) eX6_readTerm_67 (by decide) ?_
              refine AQ.callVv (av := [vi (-8)]) (st := []) (c_X6_addCodeF Xh23 (v := (-8))) lk_RX6_230 (by decide) rfl rfl (SF.ob Xh23) ⟨_, rfl, rfl⟩ (Nat.le_of_ble_eq_true rfl) eX6_readTerm_72 (fun h40 e39 => ?_)
              obtain ⟨Xh40, Fh40⟩ := e39
              refine q_blk (lv2 := [(0, vr t), (1, vi 3), (2, vi 0), (3, vi (i + 1)), (4, vi (kd e9))]) (st2 := []) kX6_readTerm_75 rfl ?_
              refine q_goto (tgt := 8) eX6_readTerm_78 (by decide) ?_
              refine q_sub (lv2 := [(0, vr t), (1, vi 3), (2, vi 0), (3, vi (i + 1))]) [0, 1, 2, 3] rfl ?_
              exact ih5 0 (i + 1) h40 L 0 0 cd (⟨⟨by omega, by omega⟩, hfr.tr (((am_fr.rf.tr (am_fr.st e13 (by omega) (by omega))).tr Fh23).tr Fh40), Or.inr ⟨rfl, _, _, hJ9.symm.trans (rJ_no (by omega) (by omega) qh23), Xh40⟩⟩) (by omega)
        · skip
          refine q_blk (lv2 := [(0, vr t), (1, vi 3), (2, vi g), (3, vi i), (4, vi (kd e9))]) (st2 := [vi 47, vi (kd e9)]) kX6_readTerm_32 rfl ?_
          refine AQ.ic_eq (tgt := 41) eX6_readTerm_36 (by decide) (by first | assumption | exact ⟨by omega, by omega⟩) ⟨by decide, by decide⟩ (fun br41 => ?_) (fun br41 => ?_)
          · skip
            refine q_blk (lv2 := [(0, vr t), (1, vi 3), (2, vi g), (3, vi i), (4, vi (kd e9))]) (st2 := [vr t, vr t]) kX6_readTerm_41 rfl ?_
            refine q_gi eX6_readTerm_43 fl_RX6_28 (Or.inl rfl) w0 (z := e9) rfl ?_
            refine q_blk (lv2 := [(0, vr t), (1, vi 3), (2, vi g), (3, vi i), (4, vi (kd e9))]) (st2 := [vi (e9 + 1), vr t]) kX6_readTerm_46 rfl ?_
            refine q_pi eX6_readTerm_48 fl_RX6_28 (fun q hq => by cases hq; exact Or.inl rfl) (Or.inl rfl) w0 (Nat.le_of_ble_eq_true rfl) (l2 := [0, 0, 0, 0, 0, 0, 0, wt, (e9 + 1), v9, px, (L9.length : Int), hs, er, ea]) rfl (fun h42 e43 => ?_)
            have k44 := am_at e43
            have k45 := (am_ne e43 (t + 3) (by omega)).trans w1
            have k46 := (am_ne e43 (t + 4) (by omega)).trans w2
            have k47 := (am_ne e43 (t + 5) (by omega)).trans w3
            have k48 := (am_ne e43 (t + 6) (by omega)).trans w4
            have k49 := (am_ne e43 j (by omega)).trans w5
            have k50 := wL.kept (lo := t) (hi := t + 1) (am_fr.st e43 (by omega) (by omega)) (by omega)
            refine q_blk (lv2 := [(0, vr t), (1, vi 3), (2, vi g), (3, vi i), (4, vi (kd e9))]) (st2 := [vi 3, vr t]) kX6_readTerm_51 rfl ?_
            refine AQ.callVi (av := [vi 3]) (st := []) (c_X6_readFactor3 (L := L9) ⟨_, k44, k45, k46, k47, k48, cj, k49, k50⟩ n0 kn (by omega) (by omega) kr vq hL9 (by omega)) lk_RX6_233 (by decide) rfl rfl ⟨_, _, _, k44⟩ ⟨_, rfl, rfl⟩ (Nat.le_of_ble_eq_true rfl) eX6_readTerm_53 (fun z51 h53 e52 => ?_)
            rcases e52 with ⟨⟨rfl, Lh53, hh53e, qh53, ⟨bh53a, bh53b, bh53c⟩, hh53n, hh53c, Xh53, Ch53⟩ | ⟨rfl, eh53, ah53, qh53, Xh53⟩, Fh53⟩
            · skip
              obtain ⟨g54t, g540, g541, g542, g543, g544, g54j, g545, g54L⟩ := id Xh53
              refine q_blk (lv2 := [(0, vr t), (1, vi 3), (2, vi 1), (3, vi i), (4, vi (kd e9))]) (st2 := [vi 42, vi (kd e9), vr t]) kX6_readTerm_56 rfl ?_
              refine AQ.ic_ne (tgt := 70) eX6_readTerm_62 (by decide) (by first | assumption | exact ⟨by omega, by omega⟩) ⟨by decide, by decide⟩ (fun br55 => ?_) (fun br55 => ?_)
              · skip
                refine q_blk (lv2 := [(0, vr t), (1, vi 3), (2, vi 1), (3, vi i), (4, vi (kd e9))]) (st2 := [vi (-9), vr t]) kX6_readTerm_70 rfl ?_
                refine AQ.callVv (av := [vi (-9)]) (st := []) (c_X6_addCode (v := (-9)) ⟨_, g540, g541, g542, g543, g544, cj, g545, g54L⟩ (by omega) (by omega)) lk_RX6_230 (by decide) rfl rfl ⟨_, _, _, g540⟩ ⟨_, rfl, rfl⟩ (Nat.le_of_ble_eq_true rfl) eX6_readTerm_72 (fun h58 e57 => ?_)
                obtain ⟨Xh58, Fh58⟩ := e57
                obtain ⟨g59t, g590, g591, g592, g593, g594, g59j, g595, g59L⟩ := id Xh58
                refine q_blk (lv2 := [(0, vr t), (1, vi 3), (2, vi 1), (3, vi (i + 1)), (4, vi (kd e9))]) (st2 := []) kX6_readTerm_75 rfl ?_
                refine q_goto (tgt := 8) eX6_readTerm_78 (by decide) ?_
                refine q_sub (lv2 := [(0, vr t), (1, vi 3), (2, vi 1), (3, vi (i + 1))]) [0, 1, 2, 3] rfl ?_
                exact ih5 1 (i + 1) h58 (Lh53 ++ [(5, 0)]) hh53e hh53n (am_uI hh53c (Lh53.length : Int) (-9)) (⟨⟨by omega, by omega⟩, hfr.tr (((am_fr.rf.tr (am_fr.st e43 (by omega) (by omega))).tr Fh53).tr Fh58), Or.inl ⟨rfl, ⟨by omega, by omega, by simp; omega⟩, by rw [show 800 - (i + 1).toNat = 800 - i.toNat - 1 by omega]; exact (rJ_go (o := 5) (by omega) (by omega) qh53).symm.trans hJ9, Ch53.add (by unfold gm_en; simp), SU.cast ⟨_, g590, g591, g592, g593, g594, cj, g595, g59L⟩ (by simp)⟩⟩) (by omega)
              · skip
                refine q_blk (lv2 := [(0, vr t), (1, vi 3), (2, vi 1), (3, vi i), (4, vi (kd e9))]) (st2 := [vi (-8), vr t]) kX6_readTerm_65 rfl ?_
                refine q_goto (tgt := 72) eX6_readTerm_67 (by decide) ?_
                refine AQ.callVv (av := [vi (-8)]) (st := []) (c_X6_addCode (v := (-8)) ⟨_, g540, g541, g542, g543, g544, cj, g545, g54L⟩ (by omega) (by omega)) lk_RX6_230 (by decide) rfl rfl ⟨_, _, _, g540⟩ ⟨_, rfl, rfl⟩ (Nat.le_of_ble_eq_true rfl) eX6_readTerm_72 (fun h62 e61 => ?_)
                obtain ⟨Xh62, Fh62⟩ := e61
                obtain ⟨g63t, g630, g631, g632, g633, g634, g63j, g635, g63L⟩ := id Xh62
                refine q_blk (lv2 := [(0, vr t), (1, vi 3), (2, vi 1), (3, vi (i + 1)), (4, vi (kd e9))]) (st2 := []) kX6_readTerm_75 rfl ?_
                refine q_goto (tgt := 8) eX6_readTerm_78 (by decide) ?_
                refine q_sub (lv2 := [(0, vr t), (1, vi 3), (2, vi 1), (3, vi (i + 1))]) [0, 1, 2, 3] rfl ?_
                exact ih5 1 (i + 1) h62 (Lh53 ++ [(4, 0)]) hh53e hh53n (am_uI hh53c (Lh53.length : Int) (-8)) (⟨⟨by omega, by omega⟩, hfr.tr (((am_fr.rf.tr (am_fr.st e43 (by omega) (by omega))).tr Fh53).tr Fh62), Or.inl ⟨rfl, ⟨by omega, by omega, by simp; omega⟩, by rw [show 800 - (i + 1).toNat = 800 - i.toNat - 1 by omega]; exact (rJ_go (o := 4) (by omega) (by omega) qh53).symm.trans hJ9, Ch53.add (by unfold gm_en; simp), SU.cast ⟨_, g630, g631, g632, g633, g634, cj, g635, g63L⟩ (by simp)⟩⟩) (by omega)
            · skip
              refine q_blk (lv2 := [(0, vr t), (1, vi 3), (2, vi 0), (3, vi i), (4, vi (kd e9))]) (st2 := [vi 42, vi (kd e9), vr t]) kX6_readTerm_56 rfl ?_
              refine AQ.ic_ne (tgt := 70) eX6_readTerm_62 (by decide) (by first | assumption | exact ⟨by omega, by omega⟩) ⟨by decide, by decide⟩ (fun br64 => ?_) (fun br64 => ?_)
              · skip
                refine q_blk (lv2 := [(0, vr t), (1, vi 3), (2, vi 0), (3, vi i), (4, vi (kd e9))]) (st2 := [vi (-9), vr t]) kX6_readTerm_70 rfl ?_
                refine AQ.callVv (av := [vi (-9)]) (st := []) (c_X6_addCodeF Xh53 (v := (-9))) lk_RX6_230 (by decide) rfl rfl (SF.ob Xh53) ⟨_, rfl, rfl⟩ (Nat.le_of_ble_eq_true rfl) eX6_readTerm_72 (fun h67 e66 => ?_)
                obtain ⟨Xh67, Fh67⟩ := e66
                refine q_blk (lv2 := [(0, vr t), (1, vi 3), (2, vi 0), (3, vi (i + 1)), (4, vi (kd e9))]) (st2 := []) kX6_readTerm_75 rfl ?_
                refine q_goto (tgt := 8) eX6_readTerm_78 (by decide) ?_
                refine q_sub (lv2 := [(0, vr t), (1, vi 3), (2, vi 0), (3, vi (i + 1))]) [0, 1, 2, 3] rfl ?_
                exact ih5 0 (i + 1) h67 L 0 0 cd (⟨⟨by omega, by omega⟩, hfr.tr (((am_fr.rf.tr (am_fr.st e43 (by omega) (by omega))).tr Fh53).tr Fh67), Or.inr ⟨rfl, _, _, hJ9.symm.trans (rJ_no (by omega) (by omega) qh53), Xh67⟩⟩) (by omega)
              · skip
                refine q_blk (lv2 := [(0, vr t), (1, vi 3), (2, vi 0), (3, vi i), (4, vi (kd e9))]) (st2 := [vi (-8), vr t]) kX6_readTerm_65 rfl ?_
                refine q_goto (tgt := 72) eX6_readTerm_67 (by decide) ?_
                refine AQ.callVv (av := [vi (-8)]) (st := []) (c_X6_addCodeF Xh53 (v := (-8))) lk_RX6_230 (by decide) rfl rfl (SF.ob Xh53) ⟨_, rfl, rfl⟩ (Nat.le_of_ble_eq_true rfl) eX6_readTerm_72 (fun h70 e69 => ?_)
                obtain ⟨Xh70, Fh70⟩ := e69
                refine q_blk (lv2 := [(0, vr t), (1, vi 3), (2, vi 0), (3, vi (i + 1)), (4, vi (kd e9))]) (st2 := []) kX6_readTerm_75 rfl ?_
                refine q_goto (tgt := 8) eX6_readTerm_78 (by decide) ?_
                refine q_sub (lv2 := [(0, vr t), (1, vi 3), (2, vi 0), (3, vi (i + 1))]) [0, 1, 2, 3] rfl ?_
                exact ih5 0 (i + 1) h70 L 0 0 cd (⟨⟨by omega, by omega⟩, hfr.tr (((am_fr.rf.tr (am_fr.st e43 (by omega) (by omega))).tr Fh53).tr Fh70), Or.inr ⟨rfl, _, _, hJ9.symm.trans (rJ_no (by omega) (by omega) qh53), Xh70⟩⟩) (by omega)
          · skip
            refine q_blk (lv2 := [(0, vr t), (1, vi 3), (2, vi g), (3, vi i), (4, vi (kd e9))]) (st2 := [vi 1]) kX6_readTerm_39 rfl ?_
            exact q_rz rfl eX6_readTerm_40 (by decide) ⟨1, rfl, Or.inl ⟨rfl, L9, e9, hJ9.symm.trans (rJ_end (Or.inr ⟨by omega, by omega⟩)), ⟨by omega, by omega, by omega⟩, _, _, ⟨_, w0, w1, w2, w3, w4, cj, w5, wL⟩, hL9⟩, hfr.tr am_fr.rf⟩
  · skip
    refine q_blk (lv2 := [(0, vr t), (1, vi 3), (2, vi 0), (3, vi 0)]) (st2 := []) kX6_readTerm_5 rfl ?_
    refine am_lp7 (I := fun (g : Int) (i : Int) (hh : AH) (L9 : GL) (e9 : Int) (v9 : Int) (c9 : Int → Int) => (0 ≤ i ∧ i ≤ 800) ∧ am_fr h hh t (t + 7) ∧ ((g = 1 ∧ (he < e9 ∧ e9 ≤ n ∧ (L9.length : Int) ≤ (L.length : Int) + (e9 - he)) ∧ rJ kd (rA kd st vl (some (rU kd st vl 0))) 42 47 4 5 (800 - i.toNat) L9 e9 = rM kd st vl (some (rU kd st vl 0)) L he ∧ CL c9 L9 ∧ SU hh t u b j kd st vl e9 v9 px (L9.length : Int) hs er ea c9) ∨ (g = 0 ∧ ∃ e a, rM kd st vl (some (rU kd st vl 0)) L he = .inl (e, a) ∧ SF hh t u b j kd st vl e a))) (μ := fun (g : Int) (i : Int) (hh : AH) (L9 : GL) (e9 : Int) (v9 : Int) (c9 : Int → Int) => (800 - i).toNat) (G := fun (g : Int) (i : Int) (hh : AH) (L9 : GL) (e9 : Int) (v9 : Int) (c9 : Int → Int) => AQ w m_X6_readTerm 8 8 [(0, vr t), (1, vi 3), (2, vi g), (3, vi i)] [] hh (am_int (fun z h1 => ((z = 1 ∧ ∃ L' he', rM kd st vl (some (rU kd st vl 0)) L he = .inr (L', he') ∧ (he < he' ∧ he' ≤ n ∧ (L'.length : Int) ≤ (L.length : Int) + (he' - he)) ∧ ∃ nu' cd', SU h1 t u b j kd st vl he' nu' px (L'.length : Int) hs er ea cd' ∧ CL cd' L') ∨ (z = 0 ∧ ∃ e a, rM kd st vl (some (rU kd st vl 0)) L he = .inl (e, a) ∧ SF h1 t u b j kd st vl e a)) ∧ am_fr h h1 t (t + 7)))) ?_ 0 0 h3 L 0 0 cd (⟨⟨by omega, by omega⟩, (am_fr.rf.tr Fh3), Or.inr ⟨rfl, _, _, by unfold rM; exact rB_l qh3 _, Xh3⟩⟩)
    intro g i hh L9 e9 v9 c9 hI72 ih71
    obtain ⟨⟨i0, i1⟩, hfr, hG⟩ := hI72
    have hg9 : g = 0 ∨ g = 1 := by rcases hG with q | q; exact Or.inr q.1; exact Or.inl q.1
    refine q_blk (lv2 := [(0, vr t), (1, vi 3), (2, vi g), (3, vi i)]) (st2 := [vi 800, vi i]) kX6_readTerm_8 rfl ?_
    refine AQ.ic_ge (tgt := 81) eX6_readTerm_12 (by decide) (by first | assumption | exact ⟨by omega, by omega⟩) ⟨by decide, by decide⟩ (fun br73 => ?_) (fun br73 => ?_)
    · skip
      refine q_blk (lv2 := [(0, vr t), (1, vi 3), (2, vi g), (3, vi i)]) (st2 := [vi g]) kX6_readTerm_81 rfl ?_
      exact q_rz rfl eX6_readTerm_82 (by omega) ⟨g, rfl, (by rcases hG with ⟨rfl, hb9, hJ9, hL9, hS9⟩ | hG; exact Or.inl ⟨rfl, L9, e9, hJ9.symm.trans (rJ_end (Or.inl (by omega))), hb9, _, _, hS9, hL9⟩; exact Or.inr hG), hfr⟩
    · skip
      refine q_blk (lv2 := [(0, vr t), (1, vi 3), (2, vi g), (3, vi i)]) (st2 := [vi g]) kX6_readTerm_15 rfl ?_
      refine AQ.if_eq (tgt := 81) eX6_readTerm_16 (by decide) (by first | assumption | exact ⟨by omega, by omega⟩) (fun br74 => ?_) (fun br74 => ?_)
      · skip
        refine q_blk (lv2 := [(0, vr t), (1, vi 3), (2, vi g), (3, vi i)]) (st2 := [vi g]) kX6_readTerm_81 rfl ?_
        exact q_rz rfl eX6_readTerm_82 (by omega) ⟨g, rfl, (by rcases hG with ⟨rfl, hb9, hJ9, hL9, hS9⟩ | hG; exact Or.inl ⟨rfl, L9, e9, hJ9.symm.trans (rJ_end (Or.inl (by omega))), hb9, _, _, hS9, hL9⟩; exact Or.inr hG), hfr⟩
      · skip
        obtain ⟨-, ⟨b9a, b9b, b9c⟩, hJ9, hL9, hS9⟩ := hG.resolve_right (fun q => absurd q.1 (by omega))
        obtain ⟨wt, w0, w1, w2, w3, w4, wj, w5, wL⟩ := id hS9
        have kr9 := kr e9 (by omega) (by omega)
        have hen9 : kd e9 ≠ 0 → e9 ≠ n := fun q e => by rw [e] at q; omega
        refine q_blk (lv2 := [(0, vr t), (1, vi 3), (2, vi g), (3, vi i)]) (st2 := [vr t]) kX6_readTerm_19 rfl ?_
        refine q_Vi (av := []) (st := []) (c_X6_kindHere ⟨_, w0, w1, w2, w3, w4, cj, w5, wL⟩ (by omega) (by omega)) lk_RX6_70 (by decide) rfl rfl ⟨_, _, _, w0⟩ ⟨_, rfl, rfl⟩ (Nat.le_of_ble_eq_true rfl) eX6_readTerm_20 (fun z75 e76 => ?_)
        subst e76
        refine q_blk (lv2 := [(0, vr t), (1, vi 3), (2, vi g), (3, vi i), (4, vi (kd e9))]) (st2 := [vi 42, vi (kd e9)]) kX6_readTerm_23 rfl ?_
        refine AQ.ic_eq (tgt := 41) eX6_readTerm_29 (by decide) (by first | assumption | exact ⟨by omega, by omega⟩) ⟨by decide, by decide⟩ (fun br77 => ?_) (fun br77 => ?_)
        · skip
          refine q_blk (lv2 := [(0, vr t), (1, vi 3), (2, vi g), (3, vi i), (4, vi (kd e9))]) (st2 := [vr t, vr t]) kX6_readTerm_41 rfl ?_
          refine q_gi eX6_readTerm_43 fl_RX6_28 (Or.inl rfl) w0 (z := e9) rfl ?_
          refine q_blk (lv2 := [(0, vr t), (1, vi 3), (2, vi g), (3, vi i), (4, vi (kd e9))]) (st2 := [vi (e9 + 1), vr t]) kX6_readTerm_46 rfl ?_
          refine q_pi eX6_readTerm_48 fl_RX6_28 (fun q hq => by cases hq; exact Or.inl rfl) (Or.inl rfl) w0 (Nat.le_of_ble_eq_true rfl) (l2 := [0, 0, 0, 0, 0, 0, 0, wt, (e9 + 1), v9, px, (L9.length : Int), hs, er, ea]) rfl (fun h78 e79 => ?_)
          have k80 := am_at e79
          have k81 := (am_ne e79 (t + 3) (by omega)).trans w1
          have k82 := (am_ne e79 (t + 4) (by omega)).trans w2
          have k83 := (am_ne e79 (t + 5) (by omega)).trans w3
          have k84 := (am_ne e79 (t + 6) (by omega)).trans w4
          have k85 := (am_ne e79 j (by omega)).trans w5
          have k86 := wL.kept (lo := t) (hi := t + 1) (am_fr.st e79 (by omega) (by omega)) (by omega)
          refine q_blk (lv2 := [(0, vr t), (1, vi 3), (2, vi g), (3, vi i), (4, vi (kd e9))]) (st2 := [vi 3, vr t]) kX6_readTerm_51 rfl ?_
          refine AQ.callVi (av := [vi 3]) (st := []) (c_X6_readFactor3 (L := L9) ⟨_, k80, k81, k82, k83, k84, cj, k85, k86⟩ n0 kn (by omega) (by omega) kr vq hL9 (by omega)) lk_RX6_233 (by decide) rfl rfl ⟨_, _, _, k80⟩ ⟨_, rfl, rfl⟩ (Nat.le_of_ble_eq_true rfl) eX6_readTerm_53 (fun z87 h89 e88 => ?_)
          rcases e88 with ⟨⟨rfl, Lh89, hh89e, qh89, ⟨bh89a, bh89b, bh89c⟩, hh89n, hh89c, Xh89, Ch89⟩ | ⟨rfl, eh89, ah89, qh89, Xh89⟩, Fh89⟩
          · skip
            obtain ⟨g90t, g900, g901, g902, g903, g904, g90j, g905, g90L⟩ := id Xh89
            refine q_blk (lv2 := [(0, vr t), (1, vi 3), (2, vi 1), (3, vi i), (4, vi (kd e9))]) (st2 := [vi 42, vi (kd e9), vr t]) kX6_readTerm_56 rfl ?_
            refine AQ.ic_ne (tgt := 70) eX6_readTerm_62 (by decide) (by first | assumption | exact ⟨by omega, by omega⟩) ⟨by decide, by decide⟩ (fun br91 => ?_) (fun br91 => ?_)
            · skip
              refine q_blk (lv2 := [(0, vr t), (1, vi 3), (2, vi 1), (3, vi i), (4, vi (kd e9))]) (st2 := [vi (-9), vr t]) kX6_readTerm_70 rfl ?_
              refine AQ.callVv (av := [vi (-9)]) (st := []) (c_X6_addCode (v := (-9)) ⟨_, g900, g901, g902, g903, g904, cj, g905, g90L⟩ (by omega) (by omega)) lk_RX6_230 (by decide) rfl rfl ⟨_, _, _, g900⟩ ⟨_, rfl, rfl⟩ (Nat.le_of_ble_eq_true rfl) eX6_readTerm_72 (fun h94 e93 => ?_)
              obtain ⟨Xh94, Fh94⟩ := e93
              obtain ⟨g95t, g950, g951, g952, g953, g954, g95j, g955, g95L⟩ := id Xh94
              refine q_blk (lv2 := [(0, vr t), (1, vi 3), (2, vi 1), (3, vi (i + 1)), (4, vi (kd e9))]) (st2 := []) kX6_readTerm_75 rfl ?_
              refine q_goto (tgt := 8) eX6_readTerm_78 (by decide) ?_
              refine q_sub (lv2 := [(0, vr t), (1, vi 3), (2, vi 1), (3, vi (i + 1))]) [0, 1, 2, 3] rfl ?_
              exact ih71 1 (i + 1) h94 (Lh89 ++ [(5, 0)]) hh89e hh89n (am_uI hh89c (Lh89.length : Int) (-9)) (⟨⟨by omega, by omega⟩, hfr.tr (((am_fr.rf.tr (am_fr.st e79 (by omega) (by omega))).tr Fh89).tr Fh94), Or.inl ⟨rfl, ⟨by omega, by omega, by simp; omega⟩, by rw [show 800 - (i + 1).toNat = 800 - i.toNat - 1 by omega]; exact (rJ_go (o := 5) (by omega) (by omega) qh89).symm.trans hJ9, Ch89.add (by unfold gm_en; simp), SU.cast ⟨_, g950, g951, g952, g953, g954, cj, g955, g95L⟩ (by simp)⟩⟩) (by omega)
            · skip
              refine q_blk (lv2 := [(0, vr t), (1, vi 3), (2, vi 1), (3, vi i), (4, vi (kd e9))]) (st2 := [vi (-8), vr t]) kX6_readTerm_65 rfl ?_
              refine q_goto (tgt := 72) eX6_readTerm_67 (by decide) ?_
              refine AQ.callVv (av := [vi (-8)]) (st := []) (c_X6_addCode (v := (-8)) ⟨_, g900, g901, g902, g903, g904, cj, g905, g90L⟩ (by omega) (by omega)) lk_RX6_230 (by decide) rfl rfl ⟨_, _, _, g900⟩ ⟨_, rfl, rfl⟩ (Nat.le_of_ble_eq_true rfl) eX6_readTerm_72 (fun h98 e97 => ?_)
              obtain ⟨Xh98, Fh98⟩ := e97
              obtain ⟨g99t, g990, g991, g992, g993, g994, g99j, g995, g99L⟩ := id Xh98
              refine q_blk (lv2 := [(0, vr t), (1, vi 3), (2, vi 1), (3, vi (i + 1)), (4, vi (kd e9))]) (st2 := []) kX6_readTerm_75 rfl ?_
              refine q_goto (tgt := 8) eX6_readTerm_78 (by decide) ?_
              refine q_sub (lv2 := [(0, vr t), (1, vi 3), (2, vi 1), (3, vi (i + 1))]) [0, 1, 2, 3] rfl ?_
              exact ih71 1 (i + 1) h98 (Lh89 ++ [(4, 0)]) hh89e hh89n (am_uI hh89c (Lh89.length : Int) (-8)) (⟨⟨by omega, by omega⟩, hfr.tr (((am_fr.rf.tr (am_fr.st e79 (by omega) (by omega))).tr Fh89).tr Fh98), Or.inl ⟨rfl, ⟨by omega, by omega, by simp; omega⟩, by rw [show 800 - (i + 1).toNat = 800 - i.toNat - 1 by omega]; exact (rJ_go (o := 4) (by omega) (by omega) qh89).symm.trans hJ9, Ch89.add (by unfold gm_en; simp), SU.cast ⟨_, g990, g991, g992, g993, g994, cj, g995, g99L⟩ (by simp)⟩⟩) (by omega)
          · skip
            refine q_blk (lv2 := [(0, vr t), (1, vi 3), (2, vi 0), (3, vi i), (4, vi (kd e9))]) (st2 := [vi 42, vi (kd e9), vr t]) kX6_readTerm_56 rfl ?_
            refine AQ.ic_ne (tgt := 70) eX6_readTerm_62 (by decide) (by first | assumption | exact ⟨by omega, by omega⟩) ⟨by decide, by decide⟩ (fun br100 => ?_) (fun br100 => ?_)
            · skip
              refine q_blk (lv2 := [(0, vr t), (1, vi 3), (2, vi 0), (3, vi i), (4, vi (kd e9))]) (st2 := [vi (-9), vr t]) kX6_readTerm_70 rfl ?_
              refine AQ.callVv (av := [vi (-9)]) (st := []) (c_X6_addCodeF Xh89 (v := (-9))) lk_RX6_230 (by decide) rfl rfl (SF.ob Xh89) ⟨_, rfl, rfl⟩ (Nat.le_of_ble_eq_true rfl) eX6_readTerm_72 (fun h103 e102 => ?_)
              obtain ⟨Xh103, Fh103⟩ := e102
              refine q_blk (lv2 := [(0, vr t), (1, vi 3), (2, vi 0), (3, vi (i + 1)), (4, vi (kd e9))]) (st2 := []) kX6_readTerm_75 rfl ?_
              refine q_goto (tgt := 8) eX6_readTerm_78 (by decide) ?_
              refine q_sub (lv2 := [(0, vr t), (1, vi 3), (2, vi 0), (3, vi (i + 1))]) [0, 1, 2, 3] rfl ?_
              exact ih71 0 (i + 1) h103 L 0 0 cd (⟨⟨by omega, by omega⟩, hfr.tr (((am_fr.rf.tr (am_fr.st e79 (by omega) (by omega))).tr Fh89).tr Fh103), Or.inr ⟨rfl, _, _, hJ9.symm.trans (rJ_no (by omega) (by omega) qh89), Xh103⟩⟩) (by omega)
            · skip
              refine q_blk (lv2 := [(0, vr t), (1, vi 3), (2, vi 0), (3, vi i), (4, vi (kd e9))]) (st2 := [vi (-8), vr t]) kX6_readTerm_65 rfl ?_
              refine q_goto (tgt := 72) eX6_readTerm_67 (by decide) ?_
              refine AQ.callVv (av := [vi (-8)]) (st := []) (c_X6_addCodeF Xh89 (v := (-8))) lk_RX6_230 (by decide) rfl rfl (SF.ob Xh89) ⟨_, rfl, rfl⟩ (Nat.le_of_ble_eq_true rfl) eX6_readTerm_72 (fun h106 e105 => ?_)
              obtain ⟨Xh106, Fh106⟩ := e105
              refine q_blk (lv2 := [(0, vr t), (1, vi 3), (2, vi 0), (3, vi (i + 1)), (4, vi (kd e9))]) (st2 := []) kX6_readTerm_75 rfl ?_
              refine q_goto (tgt := 8) eX6_readTerm_78 (by decide) ?_
              refine q_sub (lv2 := [(0, vr t), (1, vi 3), (2, vi 0), (3, vi (i + 1))]) [0, 1, 2, 3] rfl ?_
              exact ih71 0 (i + 1) h106 L 0 0 cd (⟨⟨by omega, by omega⟩, hfr.tr (((am_fr.rf.tr (am_fr.st e79 (by omega) (by omega))).tr Fh89).tr Fh106), Or.inr ⟨rfl, _, _, hJ9.symm.trans (rJ_no (by omega) (by omega) qh89), Xh106⟩⟩) (by omega)
        · skip
          refine q_blk (lv2 := [(0, vr t), (1, vi 3), (2, vi g), (3, vi i), (4, vi (kd e9))]) (st2 := [vi 47, vi (kd e9)]) kX6_readTerm_32 rfl ?_
          refine AQ.ic_eq (tgt := 41) eX6_readTerm_36 (by decide) (by first | assumption | exact ⟨by omega, by omega⟩) ⟨by decide, by decide⟩ (fun br107 => ?_) (fun br107 => ?_)
          · skip
            refine q_blk (lv2 := [(0, vr t), (1, vi 3), (2, vi g), (3, vi i), (4, vi (kd e9))]) (st2 := [vr t, vr t]) kX6_readTerm_41 rfl ?_
            refine q_gi eX6_readTerm_43 fl_RX6_28 (Or.inl rfl) w0 (z := e9) rfl ?_
            refine q_blk (lv2 := [(0, vr t), (1, vi 3), (2, vi g), (3, vi i), (4, vi (kd e9))]) (st2 := [vi (e9 + 1), vr t]) kX6_readTerm_46 rfl ?_
            refine q_pi eX6_readTerm_48 fl_RX6_28 (fun q hq => by cases hq; exact Or.inl rfl) (Or.inl rfl) w0 (Nat.le_of_ble_eq_true rfl) (l2 := [0, 0, 0, 0, 0, 0, 0, wt, (e9 + 1), v9, px, (L9.length : Int), hs, er, ea]) rfl (fun h108 e109 => ?_)
            have k110 := am_at e109
            have k111 := (am_ne e109 (t + 3) (by omega)).trans w1
            have k112 := (am_ne e109 (t + 4) (by omega)).trans w2
            have k113 := (am_ne e109 (t + 5) (by omega)).trans w3
            have k114 := (am_ne e109 (t + 6) (by omega)).trans w4
            have k115 := (am_ne e109 j (by omega)).trans w5
            have k116 := wL.kept (lo := t) (hi := t + 1) (am_fr.st e109 (by omega) (by omega)) (by omega)
            refine q_blk (lv2 := [(0, vr t), (1, vi 3), (2, vi g), (3, vi i), (4, vi (kd e9))]) (st2 := [vi 3, vr t]) kX6_readTerm_51 rfl ?_
            refine AQ.callVi (av := [vi 3]) (st := []) (c_X6_readFactor3 (L := L9) ⟨_, k110, k111, k112, k113, k114, cj, k115, k116⟩ n0 kn (by omega) (by omega) kr vq hL9 (by omega)) lk_RX6_233 (by decide) rfl rfl ⟨_, _, _, k110⟩ ⟨_, rfl, rfl⟩ (Nat.le_of_ble_eq_true rfl) eX6_readTerm_53 (fun z117 h119 e118 => ?_)
            rcases e118 with ⟨⟨rfl, Lh119, hh119e, qh119, ⟨bh119a, bh119b, bh119c⟩, hh119n, hh119c, Xh119, Ch119⟩ | ⟨rfl, eh119, ah119, qh119, Xh119⟩, Fh119⟩
            · skip
              obtain ⟨g120t, g1200, g1201, g1202, g1203, g1204, g120j, g1205, g120L⟩ := id Xh119
              refine q_blk (lv2 := [(0, vr t), (1, vi 3), (2, vi 1), (3, vi i), (4, vi (kd e9))]) (st2 := [vi 42, vi (kd e9), vr t]) kX6_readTerm_56 rfl ?_
              refine AQ.ic_ne (tgt := 70) eX6_readTerm_62 (by decide) (by first | assumption | exact ⟨by omega, by omega⟩) ⟨by decide, by decide⟩ (fun br121 => ?_) (fun br121 => ?_)
              · skip
                refine q_blk (lv2 := [(0, vr t), (1, vi 3), (2, vi 1), (3, vi i), (4, vi (kd e9))]) (st2 := [vi (-9), vr t]) kX6_readTerm_70 rfl ?_
                refine AQ.callVv (av := [vi (-9)]) (st := []) (c_X6_addCode (v := (-9)) ⟨_, g1200, g1201, g1202, g1203, g1204, cj, g1205, g120L⟩ (by omega) (by omega)) lk_RX6_230 (by decide) rfl rfl ⟨_, _, _, g1200⟩ ⟨_, rfl, rfl⟩ (Nat.le_of_ble_eq_true rfl) eX6_readTerm_72 (fun h124 e123 => ?_)
                obtain ⟨Xh124, Fh124⟩ := e123
                obtain ⟨g125t, g1250, g1251, g1252, g1253, g1254, g125j, g1255, g125L⟩ := id Xh124
                refine q_blk (lv2 := [(0, vr t), (1, vi 3), (2, vi 1), (3, vi (i + 1)), (4, vi (kd e9))]) (st2 := []) kX6_readTerm_75 rfl ?_
                refine q_goto (tgt := 8) eX6_readTerm_78 (by decide) ?_
                refine q_sub (lv2 := [(0, vr t), (1, vi 3), (2, vi 1), (3, vi (i + 1))]) [0, 1, 2, 3] rfl ?_
                exact ih71 1 (i + 1) h124 (Lh119 ++ [(5, 0)]) hh119e hh119n (am_uI hh119c (Lh119.length : Int) (-9)) (⟨⟨by omega, by omega⟩, hfr.tr (((am_fr.rf.tr (am_fr.st e109 (by omega) (by omega))).tr Fh119).tr Fh124), Or.inl ⟨rfl, ⟨by omega, by omega, by simp; omega⟩, by rw [show 800 - (i + 1).toNat = 800 - i.toNat - 1 by omega]; exact (rJ_go (o := 5) (by omega) (by omega) qh119).symm.trans hJ9, Ch119.add (by unfold gm_en; simp), SU.cast ⟨_, g1250, g1251, g1252, g1253, g1254, cj, g1255, g125L⟩ (by simp)⟩⟩) (by omega)
              · skip
                refine q_blk (lv2 := [(0, vr t), (1, vi 3), (2, vi 1), (3, vi i), (4, vi (kd e9))]) (st2 := [vi (-8), vr t]) kX6_readTerm_65 rfl ?_
                refine q_goto (tgt := 72) eX6_readTerm_67 (by decide) ?_
                refine AQ.callVv (av := [vi (-8)]) (st := []) (c_X6_addCode (v := (-8)) ⟨_, g1200, g1201, g1202, g1203, g1204, cj, g1205, g120L⟩ (by omega) (by omega)) lk_RX6_230 (by decide) rfl rfl ⟨_, _, _, g1200⟩ ⟨_, rfl, rfl⟩ (Nat.le_of_ble_eq_true rfl) eX6_readTerm_72 (fun h128 e127 => ?_)
                obtain ⟨Xh128, Fh128⟩ := e127
                obtain ⟨g129t, g1290, g1291, g1292, g1293, g1294, g129j, g1295, g129L⟩ := id Xh128
                refine q_blk (lv2 := [(0, vr t), (1, vi 3), (2, vi 1), (3, vi (i + 1)), (4, vi (kd e9))]) (st2 := []) kX6_readTerm_75 rfl ?_
                refine q_goto (tgt := 8) eX6_readTerm_78 (by decide) ?_
                refine q_sub (lv2 := [(0, vr t), (1, vi 3), (2, vi 1), (3, vi (i + 1))]) [0, 1, 2, 3] rfl ?_
                exact ih71 1 (i + 1) h128 (Lh119 ++ [(4, 0)]) hh119e hh119n (am_uI hh119c (Lh119.length : Int) (-8)) (⟨⟨by omega, by omega⟩, hfr.tr (((am_fr.rf.tr (am_fr.st e109 (by omega) (by omega))).tr Fh119).tr Fh128), Or.inl ⟨rfl, ⟨by omega, by omega, by simp; omega⟩, by rw [show 800 - (i + 1).toNat = 800 - i.toNat - 1 by omega]; exact (rJ_go (o := 4) (by omega) (by omega) qh119).symm.trans hJ9, Ch119.add (by unfold gm_en; simp), SU.cast ⟨_, g1290, g1291, g1292, g1293, g1294, cj, g1295, g129L⟩ (by simp)⟩⟩) (by omega)
            · skip
              refine q_blk (lv2 := [(0, vr t), (1, vi 3), (2, vi 0), (3, vi i), (4, vi (kd e9))]) (st2 := [vi 42, vi (kd e9), vr t]) kX6_readTerm_56 rfl ?_
              refine AQ.ic_ne (tgt := 70) eX6_readTerm_62 (by decide) (by first | assumption | exact ⟨by omega, by omega⟩) ⟨by decide, by decide⟩ (fun br130 => ?_) (fun br130 => ?_)
              · skip
                refine q_blk (lv2 := [(0, vr t), (1, vi 3), (2, vi 0), (3, vi i), (4, vi (kd e9))]) (st2 := [vi (-9), vr t]) kX6_readTerm_70 rfl ?_
                refine AQ.callVv (av := [vi (-9)]) (st := []) (c_X6_addCodeF Xh119 (v := (-9))) lk_RX6_230 (by decide) rfl rfl (SF.ob Xh119) ⟨_, rfl, rfl⟩ (Nat.le_of_ble_eq_true rfl) eX6_readTerm_72 (fun h133 e132 => ?_)
                obtain ⟨Xh133, Fh133⟩ := e132
                refine q_blk (lv2 := [(0, vr t), (1, vi 3), (2, vi 0), (3, vi (i + 1)), (4, vi (kd e9))]) (st2 := []) kX6_readTerm_75 rfl ?_
                refine q_goto (tgt := 8) eX6_readTerm_78 (by decide) ?_
                refine q_sub (lv2 := [(0, vr t), (1, vi 3), (2, vi 0), (3, vi (i + 1))]) [0, 1, 2, 3] rfl ?_
                exact ih71 0 (i + 1) h133 L 0 0 cd (⟨⟨by omega, by omega⟩, hfr.tr (((am_fr.rf.tr (am_fr.st e109 (by omega) (by omega))).tr Fh119).tr Fh133), Or.inr ⟨rfl, _, _, hJ9.symm.trans (rJ_no (by omega) (by omega) qh119), Xh133⟩⟩) (by omega)
              · skip
                refine q_blk (lv2 := [(0, vr t), (1, vi 3), (2, vi 0), (3, vi i), (4, vi (kd e9))]) (st2 := [vi (-8), vr t]) kX6_readTerm_65 rfl ?_
                refine q_goto (tgt := 72) eX6_readTerm_67 (by decide) ?_
                refine AQ.callVv (av := [vi (-8)]) (st := []) (c_X6_addCodeF Xh119 (v := (-8))) lk_RX6_230 (by decide) rfl rfl (SF.ob Xh119) ⟨_, rfl, rfl⟩ (Nat.le_of_ble_eq_true rfl) eX6_readTerm_72 (fun h136 e135 => ?_)
                obtain ⟨Xh136, Fh136⟩ := e135
                refine q_blk (lv2 := [(0, vr t), (1, vi 3), (2, vi 0), (3, vi (i + 1)), (4, vi (kd e9))]) (st2 := []) kX6_readTerm_75 rfl ?_
                refine q_goto (tgt := 8) eX6_readTerm_78 (by decide) ?_
                refine q_sub (lv2 := [(0, vr t), (1, vi 3), (2, vi 0), (3, vi (i + 1))]) [0, 1, 2, 3] rfl ?_
                exact ih71 0 (i + 1) h136 L 0 0 cd (⟨⟨by omega, by omega⟩, hfr.tr (((am_fr.rf.tr (am_fr.st e109 (by omega) (by omega))).tr Fh119).tr Fh136), Or.inr ⟨rfl, _, _, hJ9.symm.trans (rJ_no (by omega) (by omega) qh119), Xh136⟩⟩) (by omega)
          · skip
            refine q_blk (lv2 := [(0, vr t), (1, vi 3), (2, vi g), (3, vi i), (4, vi (kd e9))]) (st2 := [vi 1]) kX6_readTerm_39 rfl ?_
            exact q_rz rfl eX6_readTerm_40 (by decide) ⟨1, rfl, Or.inl ⟨rfl, L9, e9, hJ9.symm.trans (rJ_end (Or.inr ⟨by omega, by omega⟩)), ⟨by omega, by omega, by omega⟩, _, _, ⟨_, w0, w1, w2, w3, w4, cj, w5, wL⟩, hL9⟩, hfr.tr am_fr.rf⟩

set_option maxHeartbeats 1000000 in
theorem c_X6_readSum3 {w : am_w} {h : AH} {L : GL} {t u b j : Nat} {kd st vl : Int → Int} {he nu px hs er ea : Int} {cd : Int → Int} (hS : SU h t u b j kd st vl he nu px (L.length : Int) hs er ea cd) {n : Int} (n0 : n ≤ 800) (kn : kd n = 0) (he0 : 0 ≤ he) (he1 : he ≤ n) (kr : ∀ i, 0 ≤ i → i < 801 → -5 ≤ kd i ∧ kd i ≤ 100) (vq : ∀ i, 0 ≤ i → i < 801 → 0 ≤ vl i ∧ vl i ≤ 10000) (hL : CL cd L) (hl : (L.length : Int) ≤ he)  : AE w m_X6_readSum 9 [vr t, vi 3] h (am_int (fun z h1 => ((z = 1 ∧ ∃ L' he', rU kd st vl 1 L he = .inr (L', he') ∧ (he < he' ∧ he' ≤ n ∧ (L'.length : Int) ≤ (L.length : Int) + (he' - he)) ∧ ∃ nu' cd', SU h1 t u b j kd st vl he' nu' px (L'.length : Int) hs er ea cd' ∧ CL cd' L') ∨ (z = 0 ∧ ∃ e a, rU kd st vl 1 L he = .inl (e, a) ∧ SF h1 t u b j kd st vl e a)) ∧ am_fr h h1 t (t + 7))) := by
  refine AE.of wf_X6_readSum (Nat.le_of_ble_eq_true rfl) (am_ok_z (fun z h1 q => by rcases q.1 with q | q; exact Or.inr q.1; exact Or.inl q.1)) ?_
  obtain ⟨tc, c0, c1, c2, c3, c4, cj, c5, cL⟩ := id hS
  have kr1 := kr he he0 (by omega)
  have vr1 := vq he he0 (by omega)
  have hen : kd he ≠ 0 → he ≠ n := fun q e9 => by rw [e9] at q; omega
  refine q_blk (lv2 := [(0, vr t), (1, vi 3)]) (st2 := [vi 3, vr t]) kX6_readSum_0 rfl ?_
  refine AQ.callVi (av := [vi 3]) (st := []) (c_X6_readTerm3 (L := L) ⟨_, c0, c1, c2, c3, c4, cj, c5, cL⟩ n0 kn (by omega) (by omega) kr vq hL (by omega)) lk_RX6_227 (by decide) rfl rfl ⟨_, _, _, c0⟩ ⟨_, rfl, rfl⟩ (Nat.le_of_ble_eq_true rfl) eX6_readSum_2 (fun z1 h3 e2 => ?_)
  rcases e2 with ⟨⟨rfl, Lh3, hh3e, qh3, ⟨bh3a, bh3b, bh3c⟩, hh3n, hh3c, Xh3, Ch3⟩ | ⟨rfl, eh3, ah3, qh3, Xh3⟩, Fh3⟩
  · skip
    obtain ⟨g4t, g40, g41, g42, g43, g44, g4j, g45, g4L⟩ := id Xh3
    refine q_blk (lv2 := [(0, vr t), (1, vi 3), (2, vi 1), (3, vi 0)]) (st2 := []) kX6_readSum_5 rfl ?_
    refine am_lp7 (I := fun (g : Int) (i : Int) (hh : AH) (L9 : GL) (e9 : Int) (v9 : Int) (c9 : Int → Int) => (0 ≤ i ∧ i ≤ 800) ∧ am_fr h hh t (t + 7) ∧ ((g = 1 ∧ (he < e9 ∧ e9 ≤ n ∧ (L9.length : Int) ≤ (L.length : Int) + (e9 - he)) ∧ rJ kd (rM kd st vl (some (rU kd st vl 0))) 43 45 2 3 (800 - i.toNat) L9 e9 = rU kd st vl 1 L he ∧ CL c9 L9 ∧ SU hh t u b j kd st vl e9 v9 px (L9.length : Int) hs er ea c9) ∨ (g = 0 ∧ ∃ e a, rU kd st vl 1 L he = .inl (e, a) ∧ SF hh t u b j kd st vl e a))) (μ := fun (g : Int) (i : Int) (hh : AH) (L9 : GL) (e9 : Int) (v9 : Int) (c9 : Int → Int) => (800 - i).toNat) (G := fun (g : Int) (i : Int) (hh : AH) (L9 : GL) (e9 : Int) (v9 : Int) (c9 : Int → Int) => AQ w m_X6_readSum 9 8 [(0, vr t), (1, vi 3), (2, vi g), (3, vi i)] [] hh (am_int (fun z h1 => ((z = 1 ∧ ∃ L' he', rU kd st vl 1 L he = .inr (L', he') ∧ (he < he' ∧ he' ≤ n ∧ (L'.length : Int) ≤ (L.length : Int) + (he' - he)) ∧ ∃ nu' cd', SU h1 t u b j kd st vl he' nu' px (L'.length : Int) hs er ea cd' ∧ CL cd' L') ∨ (z = 0 ∧ ∃ e a, rU kd st vl 1 L he = .inl (e, a) ∧ SF h1 t u b j kd st vl e a)) ∧ am_fr h h1 t (t + 7)))) ?_ 1 0 h3 Lh3 hh3e hh3n hh3c (⟨⟨by omega, by omega⟩, (am_fr.rf.tr Fh3), Or.inl ⟨rfl, ⟨by omega, by omega, by omega⟩, by rw [show (800 - (0 : Int).toNat : Nat) = 800 from rfl]; rw [rU_1]; rw [rB_r qh3], Ch3, ⟨_, g40, g41, g42, g43, g44, cj, g45, g4L⟩⟩⟩)
    intro g i hh L9 e9 v9 c9 hI6 ih5
    obtain ⟨⟨i0, i1⟩, hfr, hG⟩ := hI6
    have hg9 : g = 0 ∨ g = 1 := by rcases hG with q | q; exact Or.inr q.1; exact Or.inl q.1
    refine q_blk (lv2 := [(0, vr t), (1, vi 3), (2, vi g), (3, vi i)]) (st2 := [vi 800, vi i]) kX6_readSum_8 rfl ?_
    refine AQ.ic_ge (tgt := 81) eX6_readSum_12 (by decide) (by first | assumption | exact ⟨by omega, by omega⟩) ⟨by decide, by decide⟩ (fun br7 => ?_) (fun br7 => ?_)
    · skip
      refine q_blk (lv2 := [(0, vr t), (1, vi 3), (2, vi g), (3, vi i)]) (st2 := [vi g]) kX6_readSum_81 rfl ?_
      exact q_rz rfl eX6_readSum_82 (by omega) ⟨g, rfl, (by rcases hG with ⟨rfl, hb9, hJ9, hL9, hS9⟩ | hG; exact Or.inl ⟨rfl, L9, e9, hJ9.symm.trans (rJ_end (Or.inl (by omega))), hb9, _, _, hS9, hL9⟩; exact Or.inr hG), hfr⟩
    · skip
      refine q_blk (lv2 := [(0, vr t), (1, vi 3), (2, vi g), (3, vi i)]) (st2 := [vi g]) kX6_readSum_15 rfl ?_
      refine AQ.if_eq (tgt := 81) eX6_readSum_16 (by decide) (by first | assumption | exact ⟨by omega, by omega⟩) (fun br8 => ?_) (fun br8 => ?_)
      · skip
        refine q_blk (lv2 := [(0, vr t), (1, vi 3), (2, vi g), (3, vi i)]) (st2 := [vi g]) kX6_readSum_81 rfl ?_
        exact q_rz rfl eX6_readSum_82 (by omega) ⟨g, rfl, (by rcases hG with ⟨rfl, hb9, hJ9, hL9, hS9⟩ | hG; exact Or.inl ⟨rfl, L9, e9, hJ9.symm.trans (rJ_end (Or.inl (by omega))), hb9, _, _, hS9, hL9⟩; exact Or.inr hG), hfr⟩
      · skip
        obtain ⟨-, ⟨b9a, b9b, b9c⟩, hJ9, hL9, hS9⟩ := hG.resolve_right (fun q => absurd q.1 (by omega))
        obtain ⟨wt, w0, w1, w2, w3, w4, wj, w5, wL⟩ := id hS9
        have kr9 := kr e9 (by omega) (by omega)
        have hen9 : kd e9 ≠ 0 → e9 ≠ n := fun q e => by rw [e] at q; omega
        refine q_blk (lv2 := [(0, vr t), (1, vi 3), (2, vi g), (3, vi i)]) (st2 := [vr t]) kX6_readSum_19 rfl ?_
        refine q_Vi (av := []) (st := []) (c_X6_kindHere ⟨_, w0, w1, w2, w3, w4, cj, w5, wL⟩ (by omega) (by omega)) lk_RX6_70 (by decide) rfl rfl ⟨_, _, _, w0⟩ ⟨_, rfl, rfl⟩ (Nat.le_of_ble_eq_true rfl) eX6_readSum_20 (fun z9 e10 => ?_)
        subst e10
        refine q_blk (lv2 := [(0, vr t), (1, vi 3), (2, vi g), (3, vi i), (4, vi (kd e9))]) (st2 := [vi 43, vi (kd e9)]) kX6_readSum_23 rfl ?_
        refine AQ.ic_eq (tgt := 41) eX6_readSum_29 (by decide) (by first | assumption | exact ⟨by omega, by omega⟩) ⟨by decide, by decide⟩ (fun br11 => ?_) (fun br11 => ?_)
        · skip
          refine q_blk (lv2 := [(0, vr t), (1, vi 3), (2, vi g), (3, vi i), (4, vi (kd e9))]) (st2 := [vr t, vr t]) kX6_readSum_41 rfl ?_
          refine q_gi eX6_readSum_43 fl_RX6_28 (Or.inl rfl) w0 (z := e9) rfl ?_
          refine q_blk (lv2 := [(0, vr t), (1, vi 3), (2, vi g), (3, vi i), (4, vi (kd e9))]) (st2 := [vi (e9 + 1), vr t]) kX6_readSum_46 rfl ?_
          refine q_pi eX6_readSum_48 fl_RX6_28 (fun q hq => by cases hq; exact Or.inl rfl) (Or.inl rfl) w0 (Nat.le_of_ble_eq_true rfl) (l2 := [0, 0, 0, 0, 0, 0, 0, wt, (e9 + 1), v9, px, (L9.length : Int), hs, er, ea]) rfl (fun h12 e13 => ?_)
          have k14 := am_at e13
          have k15 := (am_ne e13 (t + 3) (by omega)).trans w1
          have k16 := (am_ne e13 (t + 4) (by omega)).trans w2
          have k17 := (am_ne e13 (t + 5) (by omega)).trans w3
          have k18 := (am_ne e13 (t + 6) (by omega)).trans w4
          have k19 := (am_ne e13 j (by omega)).trans w5
          have k20 := wL.kept (lo := t) (hi := t + 1) (am_fr.st e13 (by omega) (by omega)) (by omega)
          refine q_blk (lv2 := [(0, vr t), (1, vi 3), (2, vi g), (3, vi i), (4, vi (kd e9))]) (st2 := [vi 3, vr t]) kX6_readSum_51 rfl ?_
          refine AQ.callVi (av := [vi 3]) (st := []) (c_X6_readTerm3 (L := L9) ⟨_, k14, k15, k16, k17, k18, cj, k19, k20⟩ n0 kn (by omega) (by omega) kr vq hL9 (by omega)) lk_RX6_227 (by decide) rfl rfl ⟨_, _, _, k14⟩ ⟨_, rfl, rfl⟩ (Nat.le_of_ble_eq_true rfl) eX6_readSum_53 (fun z21 h23 e22 => ?_)
          rcases e22 with ⟨⟨rfl, Lh23, hh23e, qh23, ⟨bh23a, bh23b, bh23c⟩, hh23n, hh23c, Xh23, Ch23⟩ | ⟨rfl, eh23, ah23, qh23, Xh23⟩, Fh23⟩
          · skip
            obtain ⟨g24t, g240, g241, g242, g243, g244, g24j, g245, g24L⟩ := id Xh23
            refine q_blk (lv2 := [(0, vr t), (1, vi 3), (2, vi 1), (3, vi i), (4, vi (kd e9))]) (st2 := [vi 43, vi (kd e9), vr t]) kX6_readSum_56 rfl ?_
            refine AQ.ic_ne (tgt := 70) eX6_readSum_62 (by decide) (by first | assumption | exact ⟨by omega, by omega⟩) ⟨by decide, by decide⟩ (fun br25 => ?_) (fun br25 => ?_)
            · skip
              refine q_blk (lv2 := [(0, vr t), (1, vi 3), (2, vi 1), (3, vi i), (4, vi (kd e9))]) (st2 := [vi (-7), vr t]) kX6_readSum_70 rfl ?_
              refine AQ.callVv (av := [vi (-7)]) (st := []) (c_X6_addCode (v := (-7)) ⟨_, g240, g241, g242, g243, g244, cj, g245, g24L⟩ (by omega) (by omega)) lk_RX6_230 (by decide) rfl rfl ⟨_, _, _, g240⟩ ⟨_, rfl, rfl⟩ (Nat.le_of_ble_eq_true rfl) eX6_readSum_72 (fun h28 e27 => ?_)
              obtain ⟨Xh28, Fh28⟩ := e27
              obtain ⟨g29t, g290, g291, g292, g293, g294, g29j, g295, g29L⟩ := id Xh28
              refine q_blk (lv2 := [(0, vr t), (1, vi 3), (2, vi 1), (3, vi (i + 1)), (4, vi (kd e9))]) (st2 := []) kX6_readSum_75 rfl ?_
              refine q_goto (tgt := 8) eX6_readSum_78 (by decide) ?_
              refine q_sub (lv2 := [(0, vr t), (1, vi 3), (2, vi 1), (3, vi (i + 1))]) [0, 1, 2, 3] rfl ?_
              exact ih5 1 (i + 1) h28 (Lh23 ++ [(3, 0)]) hh23e hh23n (am_uI hh23c (Lh23.length : Int) (-7)) (⟨⟨by omega, by omega⟩, hfr.tr (((am_fr.rf.tr (am_fr.st e13 (by omega) (by omega))).tr Fh23).tr Fh28), Or.inl ⟨rfl, ⟨by omega, by omega, by simp; omega⟩, by rw [show 800 - (i + 1).toNat = 800 - i.toNat - 1 by omega]; exact (rJ_go (o := 3) (by omega) (by omega) qh23).symm.trans hJ9, Ch23.add (by unfold gm_en; simp), SU.cast ⟨_, g290, g291, g292, g293, g294, cj, g295, g29L⟩ (by simp)⟩⟩) (by omega)
            · skip
              refine q_blk (lv2 := [(0, vr t), (1, vi 3), (2, vi 1), (3, vi i), (4, vi (kd e9))]) (st2 := [vi (-6), vr t]) kX6_readSum_65 rfl ?_
              refine q_goto (tgt := 72) eX6_readSum_67 (by decide) ?_
              refine AQ.callVv (av := [vi (-6)]) (st := []) (c_X6_addCode (v := (-6)) ⟨_, g240, g241, g242, g243, g244, cj, g245, g24L⟩ (by omega) (by omega)) lk_RX6_230 (by decide) rfl rfl ⟨_, _, _, g240⟩ ⟨_, rfl, rfl⟩ (Nat.le_of_ble_eq_true rfl) eX6_readSum_72 (fun h32 e31 => ?_)
              obtain ⟨Xh32, Fh32⟩ := e31
              obtain ⟨g33t, g330, g331, g332, g333, g334, g33j, g335, g33L⟩ := id Xh32
              refine q_blk (lv2 := [(0, vr t), (1, vi 3), (2, vi 1), (3, vi (i + 1)), (4, vi (kd e9))]) (st2 := []) kX6_readSum_75 rfl ?_
              refine q_goto (tgt := 8) eX6_readSum_78 (by decide) ?_
              refine q_sub (lv2 := [(0, vr t), (1, vi 3), (2, vi 1), (3, vi (i + 1))]) [0, 1, 2, 3] rfl ?_
              exact ih5 1 (i + 1) h32 (Lh23 ++ [(2, 0)]) hh23e hh23n (am_uI hh23c (Lh23.length : Int) (-6)) (⟨⟨by omega, by omega⟩, hfr.tr (((am_fr.rf.tr (am_fr.st e13 (by omega) (by omega))).tr Fh23).tr Fh32), Or.inl ⟨rfl, ⟨by omega, by omega, by simp; omega⟩, by rw [show 800 - (i + 1).toNat = 800 - i.toNat - 1 by omega]; exact (rJ_go (o := 2) (by omega) (by omega) qh23).symm.trans hJ9, Ch23.add (by unfold gm_en; simp), SU.cast ⟨_, g330, g331, g332, g333, g334, cj, g335, g33L⟩ (by simp)⟩⟩) (by omega)
          · skip
            refine q_blk (lv2 := [(0, vr t), (1, vi 3), (2, vi 0), (3, vi i), (4, vi (kd e9))]) (st2 := [vi 43, vi (kd e9), vr t]) kX6_readSum_56 rfl ?_
            refine AQ.ic_ne (tgt := 70) eX6_readSum_62 (by decide) (by first | assumption | exact ⟨by omega, by omega⟩) ⟨by decide, by decide⟩ (fun br34 => ?_) (fun br34 => ?_)
            · skip
              refine q_blk (lv2 := [(0, vr t), (1, vi 3), (2, vi 0), (3, vi i), (4, vi (kd e9))]) (st2 := [vi (-7), vr t]) kX6_readSum_70 rfl ?_
              refine AQ.callVv (av := [vi (-7)]) (st := []) (c_X6_addCodeF Xh23 (v := (-7))) lk_RX6_230 (by decide) rfl rfl (SF.ob Xh23) ⟨_, rfl, rfl⟩ (Nat.le_of_ble_eq_true rfl) eX6_readSum_72 (fun h37 e36 => ?_)
              obtain ⟨Xh37, Fh37⟩ := e36
              refine q_blk (lv2 := [(0, vr t), (1, vi 3), (2, vi 0), (3, vi (i + 1)), (4, vi (kd e9))]) (st2 := []) kX6_readSum_75 rfl ?_
              refine q_goto (tgt := 8) eX6_readSum_78 (by decide) ?_
              refine q_sub (lv2 := [(0, vr t), (1, vi 3), (2, vi 0), (3, vi (i + 1))]) [0, 1, 2, 3] rfl ?_
              exact ih5 0 (i + 1) h37 L 0 0 cd (⟨⟨by omega, by omega⟩, hfr.tr (((am_fr.rf.tr (am_fr.st e13 (by omega) (by omega))).tr Fh23).tr Fh37), Or.inr ⟨rfl, _, _, hJ9.symm.trans (rJ_no (by omega) (by omega) qh23), Xh37⟩⟩) (by omega)
            · skip
              refine q_blk (lv2 := [(0, vr t), (1, vi 3), (2, vi 0), (3, vi i), (4, vi (kd e9))]) (st2 := [vi (-6), vr t]) kX6_readSum_65 rfl ?_
              refine q_goto (tgt := 72) eX6_readSum_67 (by decide) ?_
              refine AQ.callVv (av := [vi (-6)]) (st := []) (c_X6_addCodeF Xh23 (v := (-6))) lk_RX6_230 (by decide) rfl rfl (SF.ob Xh23) ⟨_, rfl, rfl⟩ (Nat.le_of_ble_eq_true rfl) eX6_readSum_72 (fun h40 e39 => ?_)
              obtain ⟨Xh40, Fh40⟩ := e39
              refine q_blk (lv2 := [(0, vr t), (1, vi 3), (2, vi 0), (3, vi (i + 1)), (4, vi (kd e9))]) (st2 := []) kX6_readSum_75 rfl ?_
              refine q_goto (tgt := 8) eX6_readSum_78 (by decide) ?_
              refine q_sub (lv2 := [(0, vr t), (1, vi 3), (2, vi 0), (3, vi (i + 1))]) [0, 1, 2, 3] rfl ?_
              exact ih5 0 (i + 1) h40 L 0 0 cd (⟨⟨by omega, by omega⟩, hfr.tr (((am_fr.rf.tr (am_fr.st e13 (by omega) (by omega))).tr Fh23).tr Fh40), Or.inr ⟨rfl, _, _, hJ9.symm.trans (rJ_no (by omega) (by omega) qh23), Xh40⟩⟩) (by omega)
        · skip
          refine q_blk (lv2 := [(0, vr t), (1, vi 3), (2, vi g), (3, vi i), (4, vi (kd e9))]) (st2 := [vi 45, vi (kd e9)]) kX6_readSum_32 rfl ?_
          refine AQ.ic_eq (tgt := 41) eX6_readSum_36 (by decide) (by first | assumption | exact ⟨by omega, by omega⟩) ⟨by decide, by decide⟩ (fun br41 => ?_) (fun br41 => ?_)
          · skip
            refine q_blk (lv2 := [(0, vr t), (1, vi 3), (2, vi g), (3, vi i), (4, vi (kd e9))]) (st2 := [vr t, vr t]) kX6_readSum_41 rfl ?_
            refine q_gi eX6_readSum_43 fl_RX6_28 (Or.inl rfl) w0 (z := e9) rfl ?_
            refine q_blk (lv2 := [(0, vr t), (1, vi 3), (2, vi g), (3, vi i), (4, vi (kd e9))]) (st2 := [vi (e9 + 1), vr t]) kX6_readSum_46 rfl ?_
            refine q_pi eX6_readSum_48 fl_RX6_28 (fun q hq => by cases hq; exact Or.inl rfl) (Or.inl rfl) w0 (Nat.le_of_ble_eq_true rfl) (l2 := [0, 0, 0, 0, 0, 0, 0, wt, (e9 + 1), v9, px, (L9.length : Int), hs, er, ea]) rfl (fun h42 e43 => ?_)
            have k44 := am_at e43
            have k45 := (am_ne e43 (t + 3) (by omega)).trans w1
            have k46 := (am_ne e43 (t + 4) (by omega)).trans w2
            have k47 := (am_ne e43 (t + 5) (by omega)).trans w3
            have k48 := (am_ne e43 (t + 6) (by omega)).trans w4
            have k49 := (am_ne e43 j (by omega)).trans w5
            have k50 := wL.kept (lo := t) (hi := t + 1) (am_fr.st e43 (by omega) (by omega)) (by omega)
            refine q_blk (lv2 := [(0, vr t), (1, vi 3), (2, vi g), (3, vi i), (4, vi (kd e9))]) (st2 := [vi 3, vr t]) kX6_readSum_51 rfl ?_
            refine AQ.callVi (av := [vi 3]) (st := []) (c_X6_readTerm3 (L := L9) ⟨_, k44, k45, k46, k47, k48, cj, k49, k50⟩ n0 kn (by omega) (by omega) kr vq hL9 (by omega)) lk_RX6_227 (by decide) rfl rfl ⟨_, _, _, k44⟩ ⟨_, rfl, rfl⟩ (Nat.le_of_ble_eq_true rfl) eX6_readSum_53 (fun z51 h53 e52 => ?_)
            rcases e52 with ⟨⟨rfl, Lh53, hh53e, qh53, ⟨bh53a, bh53b, bh53c⟩, hh53n, hh53c, Xh53, Ch53⟩ | ⟨rfl, eh53, ah53, qh53, Xh53⟩, Fh53⟩
            · skip
              obtain ⟨g54t, g540, g541, g542, g543, g544, g54j, g545, g54L⟩ := id Xh53
              refine q_blk (lv2 := [(0, vr t), (1, vi 3), (2, vi 1), (3, vi i), (4, vi (kd e9))]) (st2 := [vi 43, vi (kd e9), vr t]) kX6_readSum_56 rfl ?_
              refine AQ.ic_ne (tgt := 70) eX6_readSum_62 (by decide) (by first | assumption | exact ⟨by omega, by omega⟩) ⟨by decide, by decide⟩ (fun br55 => ?_) (fun br55 => ?_)
              · skip
                refine q_blk (lv2 := [(0, vr t), (1, vi 3), (2, vi 1), (3, vi i), (4, vi (kd e9))]) (st2 := [vi (-7), vr t]) kX6_readSum_70 rfl ?_
                refine AQ.callVv (av := [vi (-7)]) (st := []) (c_X6_addCode (v := (-7)) ⟨_, g540, g541, g542, g543, g544, cj, g545, g54L⟩ (by omega) (by omega)) lk_RX6_230 (by decide) rfl rfl ⟨_, _, _, g540⟩ ⟨_, rfl, rfl⟩ (Nat.le_of_ble_eq_true rfl) eX6_readSum_72 (fun h58 e57 => ?_)
                obtain ⟨Xh58, Fh58⟩ := e57
                obtain ⟨g59t, g590, g591, g592, g593, g594, g59j, g595, g59L⟩ := id Xh58
                refine q_blk (lv2 := [(0, vr t), (1, vi 3), (2, vi 1), (3, vi (i + 1)), (4, vi (kd e9))]) (st2 := []) kX6_readSum_75 rfl ?_
                refine q_goto (tgt := 8) eX6_readSum_78 (by decide) ?_
                refine q_sub (lv2 := [(0, vr t), (1, vi 3), (2, vi 1), (3, vi (i + 1))]) [0, 1, 2, 3] rfl ?_
                exact ih5 1 (i + 1) h58 (Lh53 ++ [(3, 0)]) hh53e hh53n (am_uI hh53c (Lh53.length : Int) (-7)) (⟨⟨by omega, by omega⟩, hfr.tr (((am_fr.rf.tr (am_fr.st e43 (by omega) (by omega))).tr Fh53).tr Fh58), Or.inl ⟨rfl, ⟨by omega, by omega, by simp; omega⟩, by rw [show 800 - (i + 1).toNat = 800 - i.toNat - 1 by omega]; exact (rJ_go (o := 3) (by omega) (by omega) qh53).symm.trans hJ9, Ch53.add (by unfold gm_en; simp), SU.cast ⟨_, g590, g591, g592, g593, g594, cj, g595, g59L⟩ (by simp)⟩⟩) (by omega)
              · skip
                refine q_blk (lv2 := [(0, vr t), (1, vi 3), (2, vi 1), (3, vi i), (4, vi (kd e9))]) (st2 := [vi (-6), vr t]) kX6_readSum_65 rfl ?_
                refine q_goto (tgt := 72) eX6_readSum_67 (by decide) ?_
                refine AQ.callVv (av := [vi (-6)]) (st := []) (c_X6_addCode (v := (-6)) ⟨_, g540, g541, g542, g543, g544, cj, g545, g54L⟩ (by omega) (by omega)) lk_RX6_230 (by decide) rfl rfl ⟨_, _, _, g540⟩ ⟨_, rfl, rfl⟩ (Nat.le_of_ble_eq_true rfl) eX6_readSum_72 (fun h62 e61 => ?_)
                obtain ⟨Xh62, Fh62⟩ := e61
                obtain ⟨g63t, g630, g631, g632, g633, g634, g63j, g635, g63L⟩ := id Xh62
                refine q_blk (lv2 := [(0, vr t), (1, vi 3), (2, vi 1), (3, vi (i + 1)), (4, vi (kd e9))]) (st2 := []) kX6_readSum_75 rfl ?_
                refine q_goto (tgt := 8) eX6_readSum_78 (by decide) ?_
                refine q_sub (lv2 := [(0, vr t), (1, vi 3), (2, vi 1), (3, vi (i + 1))]) [0, 1, 2, 3] rfl ?_
                exact ih5 1 (i + 1) h62 (Lh53 ++ [(2, 0)]) hh53e hh53n (am_uI hh53c (Lh53.length : Int) (-6)) (⟨⟨by omega, by omega⟩, hfr.tr (((am_fr.rf.tr (am_fr.st e43 (by omega) (by omega))).tr Fh53).tr Fh62), Or.inl ⟨rfl, ⟨by omega, by omega, by simp; omega⟩, by rw [show 800 - (i + 1).toNat = 800 - i.toNat - 1 by omega]; exact (rJ_go (o := 2) (by omega) (by omega) qh53).symm.trans hJ9, Ch53.add (by unfold gm_en; simp), SU.cast ⟨_, g630, g631, g632, g633, g634, cj, g635, g63L⟩ (by simp)⟩⟩) (by omega)
            · skip
              refine q_blk (lv2 := [(0, vr t), (1, vi 3), (2, vi 0), (3, vi i), (4, vi (kd e9))]) (st2 := [vi 43, vi (kd e9), vr t]) kX6_readSum_56 rfl ?_
              refine AQ.ic_ne (tgt := 70) eX6_readSum_62 (by decide) (by first | assumption | exact ⟨by omega, by omega⟩) ⟨by decide, by decide⟩ (fun br64 => ?_) (fun br64 => ?_)
              · skip
                refine q_blk (lv2 := [(0, vr t), (1, vi 3), (2, vi 0), (3, vi i), (4, vi (kd e9))]) (st2 := [vi (-7), vr t]) kX6_readSum_70 rfl ?_
                refine AQ.callVv (av := [vi (-7)]) (st := []) (c_X6_addCodeF Xh53 (v := (-7))) lk_RX6_230 (by decide) rfl rfl (SF.ob Xh53) ⟨_, rfl, rfl⟩ (Nat.le_of_ble_eq_true rfl) eX6_readSum_72 (fun h67 e66 => ?_)
                obtain ⟨Xh67, Fh67⟩ := e66
                refine q_blk (lv2 := [(0, vr t), (1, vi 3), (2, vi 0), (3, vi (i + 1)), (4, vi (kd e9))]) (st2 := []) kX6_readSum_75 rfl ?_
                refine q_goto (tgt := 8) eX6_readSum_78 (by decide) ?_
                refine q_sub (lv2 := [(0, vr t), (1, vi 3), (2, vi 0), (3, vi (i + 1))]) [0, 1, 2, 3] rfl ?_
                exact ih5 0 (i + 1) h67 L 0 0 cd (⟨⟨by omega, by omega⟩, hfr.tr (((am_fr.rf.tr (am_fr.st e43 (by omega) (by omega))).tr Fh53).tr Fh67), Or.inr ⟨rfl, _, _, hJ9.symm.trans (rJ_no (by omega) (by omega) qh53), Xh67⟩⟩) (by omega)
              · skip
                refine q_blk (lv2 := [(0, vr t), (1, vi 3), (2, vi 0), (3, vi i), (4, vi (kd e9))]) (st2 := [vi (-6), vr t]) kX6_readSum_65 rfl ?_
                refine q_goto (tgt := 72) eX6_readSum_67 (by decide) ?_
                refine AQ.callVv (av := [vi (-6)]) (st := []) (c_X6_addCodeF Xh53 (v := (-6))) lk_RX6_230 (by decide) rfl rfl (SF.ob Xh53) ⟨_, rfl, rfl⟩ (Nat.le_of_ble_eq_true rfl) eX6_readSum_72 (fun h70 e69 => ?_)
                obtain ⟨Xh70, Fh70⟩ := e69
                refine q_blk (lv2 := [(0, vr t), (1, vi 3), (2, vi 0), (3, vi (i + 1)), (4, vi (kd e9))]) (st2 := []) kX6_readSum_75 rfl ?_
                refine q_goto (tgt := 8) eX6_readSum_78 (by decide) ?_
                refine q_sub (lv2 := [(0, vr t), (1, vi 3), (2, vi 0), (3, vi (i + 1))]) [0, 1, 2, 3] rfl ?_
                exact ih5 0 (i + 1) h70 L 0 0 cd (⟨⟨by omega, by omega⟩, hfr.tr (((am_fr.rf.tr (am_fr.st e43 (by omega) (by omega))).tr Fh53).tr Fh70), Or.inr ⟨rfl, _, _, hJ9.symm.trans (rJ_no (by omega) (by omega) qh53), Xh70⟩⟩) (by omega)
          · skip
            refine q_blk (lv2 := [(0, vr t), (1, vi 3), (2, vi g), (3, vi i), (4, vi (kd e9))]) (st2 := [vi 1]) kX6_readSum_39 rfl ?_
            exact q_rz rfl eX6_readSum_40 (by decide) ⟨1, rfl, Or.inl ⟨rfl, L9, e9, hJ9.symm.trans (rJ_end (Or.inr ⟨by omega, by omega⟩)), ⟨by omega, by omega, by omega⟩, _, _, ⟨_, w0, w1, w2, w3, w4, cj, w5, wL⟩, hL9⟩, hfr.tr am_fr.rf⟩
  · skip
    refine q_blk (lv2 := [(0, vr t), (1, vi 3), (2, vi 0), (3, vi 0)]) (st2 := []) kX6_readSum_5 rfl ?_
    refine am_lp7 (I := fun (g : Int) (i : Int) (hh : AH) (L9 : GL) (e9 : Int) (v9 : Int) (c9 : Int → Int) => (0 ≤ i ∧ i ≤ 800) ∧ am_fr h hh t (t + 7) ∧ ((g = 1 ∧ (he < e9 ∧ e9 ≤ n ∧ (L9.length : Int) ≤ (L.length : Int) + (e9 - he)) ∧ rJ kd (rM kd st vl (some (rU kd st vl 0))) 43 45 2 3 (800 - i.toNat) L9 e9 = rU kd st vl 1 L he ∧ CL c9 L9 ∧ SU hh t u b j kd st vl e9 v9 px (L9.length : Int) hs er ea c9) ∨ (g = 0 ∧ ∃ e a, rU kd st vl 1 L he = .inl (e, a) ∧ SF hh t u b j kd st vl e a))) (μ := fun (g : Int) (i : Int) (hh : AH) (L9 : GL) (e9 : Int) (v9 : Int) (c9 : Int → Int) => (800 - i).toNat) (G := fun (g : Int) (i : Int) (hh : AH) (L9 : GL) (e9 : Int) (v9 : Int) (c9 : Int → Int) => AQ w m_X6_readSum 9 8 [(0, vr t), (1, vi 3), (2, vi g), (3, vi i)] [] hh (am_int (fun z h1 => ((z = 1 ∧ ∃ L' he', rU kd st vl 1 L he = .inr (L', he') ∧ (he < he' ∧ he' ≤ n ∧ (L'.length : Int) ≤ (L.length : Int) + (he' - he)) ∧ ∃ nu' cd', SU h1 t u b j kd st vl he' nu' px (L'.length : Int) hs er ea cd' ∧ CL cd' L') ∨ (z = 0 ∧ ∃ e a, rU kd st vl 1 L he = .inl (e, a) ∧ SF h1 t u b j kd st vl e a)) ∧ am_fr h h1 t (t + 7)))) ?_ 0 0 h3 L 0 0 cd (⟨⟨by omega, by omega⟩, (am_fr.rf.tr Fh3), Or.inr ⟨rfl, _, _, by rw [rU_1]; exact rB_l qh3 _, Xh3⟩⟩)
    intro g i hh L9 e9 v9 c9 hI72 ih71
    obtain ⟨⟨i0, i1⟩, hfr, hG⟩ := hI72
    have hg9 : g = 0 ∨ g = 1 := by rcases hG with q | q; exact Or.inr q.1; exact Or.inl q.1
    refine q_blk (lv2 := [(0, vr t), (1, vi 3), (2, vi g), (3, vi i)]) (st2 := [vi 800, vi i]) kX6_readSum_8 rfl ?_
    refine AQ.ic_ge (tgt := 81) eX6_readSum_12 (by decide) (by first | assumption | exact ⟨by omega, by omega⟩) ⟨by decide, by decide⟩ (fun br73 => ?_) (fun br73 => ?_)
    · skip
      refine q_blk (lv2 := [(0, vr t), (1, vi 3), (2, vi g), (3, vi i)]) (st2 := [vi g]) kX6_readSum_81 rfl ?_
      exact q_rz rfl eX6_readSum_82 (by omega) ⟨g, rfl, (by rcases hG with ⟨rfl, hb9, hJ9, hL9, hS9⟩ | hG; exact Or.inl ⟨rfl, L9, e9, hJ9.symm.trans (rJ_end (Or.inl (by omega))), hb9, _, _, hS9, hL9⟩; exact Or.inr hG), hfr⟩
    · skip
      refine q_blk (lv2 := [(0, vr t), (1, vi 3), (2, vi g), (3, vi i)]) (st2 := [vi g]) kX6_readSum_15 rfl ?_
      refine AQ.if_eq (tgt := 81) eX6_readSum_16 (by decide) (by first | assumption | exact ⟨by omega, by omega⟩) (fun br74 => ?_) (fun br74 => ?_)
      · skip
        refine q_blk (lv2 := [(0, vr t), (1, vi 3), (2, vi g), (3, vi i)]) (st2 := [vi g]) kX6_readSum_81 rfl ?_
        exact q_rz rfl eX6_readSum_82 (by omega) ⟨g, rfl, (by rcases hG with ⟨rfl, hb9, hJ9, hL9, hS9⟩ | hG; exact Or.inl ⟨rfl, L9, e9, hJ9.symm.trans (rJ_end (Or.inl (by omega))), hb9, _, _, hS9, hL9⟩; exact Or.inr hG), hfr⟩
      · skip
        obtain ⟨-, ⟨b9a, b9b, b9c⟩, hJ9, hL9, hS9⟩ := hG.resolve_right (fun q => absurd q.1 (by omega))
        obtain ⟨wt, w0, w1, w2, w3, w4, wj, w5, wL⟩ := id hS9
        have kr9 := kr e9 (by omega) (by omega)
        have hen9 : kd e9 ≠ 0 → e9 ≠ n := fun q e => by rw [e] at q; omega
        refine q_blk (lv2 := [(0, vr t), (1, vi 3), (2, vi g), (3, vi i)]) (st2 := [vr t]) kX6_readSum_19 rfl ?_
        refine q_Vi (av := []) (st := []) (c_X6_kindHere ⟨_, w0, w1, w2, w3, w4, cj, w5, wL⟩ (by omega) (by omega)) lk_RX6_70 (by decide) rfl rfl ⟨_, _, _, w0⟩ ⟨_, rfl, rfl⟩ (Nat.le_of_ble_eq_true rfl) eX6_readSum_20 (fun z75 e76 => ?_)
        subst e76
        refine q_blk (lv2 := [(0, vr t), (1, vi 3), (2, vi g), (3, vi i), (4, vi (kd e9))]) (st2 := [vi 43, vi (kd e9)]) kX6_readSum_23 rfl ?_
        refine AQ.ic_eq (tgt := 41) eX6_readSum_29 (by decide) (by first | assumption | exact ⟨by omega, by omega⟩) ⟨by decide, by decide⟩ (fun br77 => ?_) (fun br77 => ?_)
        · skip
          refine q_blk (lv2 := [(0, vr t), (1, vi 3), (2, vi g), (3, vi i), (4, vi (kd e9))]) (st2 := [vr t, vr t]) kX6_readSum_41 rfl ?_
          refine q_gi eX6_readSum_43 fl_RX6_28 (Or.inl rfl) w0 (z := e9) rfl ?_
          refine q_blk (lv2 := [(0, vr t), (1, vi 3), (2, vi g), (3, vi i), (4, vi (kd e9))]) (st2 := [vi (e9 + 1), vr t]) kX6_readSum_46 rfl ?_
          refine q_pi eX6_readSum_48 fl_RX6_28 (fun q hq => by cases hq; exact Or.inl rfl) (Or.inl rfl) w0 (Nat.le_of_ble_eq_true rfl) (l2 := [0, 0, 0, 0, 0, 0, 0, wt, (e9 + 1), v9, px, (L9.length : Int), hs, er, ea]) rfl (fun h78 e79 => ?_)
          have k80 := am_at e79
          have k81 := (am_ne e79 (t + 3) (by omega)).trans w1
          have k82 := (am_ne e79 (t + 4) (by omega)).trans w2
          have k83 := (am_ne e79 (t + 5) (by omega)).trans w3
          have k84 := (am_ne e79 (t + 6) (by omega)).trans w4
          have k85 := (am_ne e79 j (by omega)).trans w5
          have k86 := wL.kept (lo := t) (hi := t + 1) (am_fr.st e79 (by omega) (by omega)) (by omega)
          refine q_blk (lv2 := [(0, vr t), (1, vi 3), (2, vi g), (3, vi i), (4, vi (kd e9))]) (st2 := [vi 3, vr t]) kX6_readSum_51 rfl ?_
          refine AQ.callVi (av := [vi 3]) (st := []) (c_X6_readTerm3 (L := L9) ⟨_, k80, k81, k82, k83, k84, cj, k85, k86⟩ n0 kn (by omega) (by omega) kr vq hL9 (by omega)) lk_RX6_227 (by decide) rfl rfl ⟨_, _, _, k80⟩ ⟨_, rfl, rfl⟩ (Nat.le_of_ble_eq_true rfl) eX6_readSum_53 (fun z87 h89 e88 => ?_)
          rcases e88 with ⟨⟨rfl, Lh89, hh89e, qh89, ⟨bh89a, bh89b, bh89c⟩, hh89n, hh89c, Xh89, Ch89⟩ | ⟨rfl, eh89, ah89, qh89, Xh89⟩, Fh89⟩
          · skip
            obtain ⟨g90t, g900, g901, g902, g903, g904, g90j, g905, g90L⟩ := id Xh89
            refine q_blk (lv2 := [(0, vr t), (1, vi 3), (2, vi 1), (3, vi i), (4, vi (kd e9))]) (st2 := [vi 43, vi (kd e9), vr t]) kX6_readSum_56 rfl ?_
            refine AQ.ic_ne (tgt := 70) eX6_readSum_62 (by decide) (by first | assumption | exact ⟨by omega, by omega⟩) ⟨by decide, by decide⟩ (fun br91 => ?_) (fun br91 => ?_)
            · skip
              refine q_blk (lv2 := [(0, vr t), (1, vi 3), (2, vi 1), (3, vi i), (4, vi (kd e9))]) (st2 := [vi (-7), vr t]) kX6_readSum_70 rfl ?_
              refine AQ.callVv (av := [vi (-7)]) (st := []) (c_X6_addCode (v := (-7)) ⟨_, g900, g901, g902, g903, g904, cj, g905, g90L⟩ (by omega) (by omega)) lk_RX6_230 (by decide) rfl rfl ⟨_, _, _, g900⟩ ⟨_, rfl, rfl⟩ (Nat.le_of_ble_eq_true rfl) eX6_readSum_72 (fun h94 e93 => ?_)
              obtain ⟨Xh94, Fh94⟩ := e93
              obtain ⟨g95t, g950, g951, g952, g953, g954, g95j, g955, g95L⟩ := id Xh94
              refine q_blk (lv2 := [(0, vr t), (1, vi 3), (2, vi 1), (3, vi (i + 1)), (4, vi (kd e9))]) (st2 := []) kX6_readSum_75 rfl ?_
              refine q_goto (tgt := 8) eX6_readSum_78 (by decide) ?_
              refine q_sub (lv2 := [(0, vr t), (1, vi 3), (2, vi 1), (3, vi (i + 1))]) [0, 1, 2, 3] rfl ?_
              exact ih71 1 (i + 1) h94 (Lh89 ++ [(3, 0)]) hh89e hh89n (am_uI hh89c (Lh89.length : Int) (-7)) (⟨⟨by omega, by omega⟩, hfr.tr (((am_fr.rf.tr (am_fr.st e79 (by omega) (by omega))).tr Fh89).tr Fh94), Or.inl ⟨rfl, ⟨by omega, by omega, by simp; omega⟩, by rw [show 800 - (i + 1).toNat = 800 - i.toNat - 1 by omega]; exact (rJ_go (o := 3) (by omega) (by omega) qh89).symm.trans hJ9, Ch89.add (by unfold gm_en; simp), SU.cast ⟨_, g950, g951, g952, g953, g954, cj, g955, g95L⟩ (by simp)⟩⟩) (by omega)
            · skip
              refine q_blk (lv2 := [(0, vr t), (1, vi 3), (2, vi 1), (3, vi i), (4, vi (kd e9))]) (st2 := [vi (-6), vr t]) kX6_readSum_65 rfl ?_
              refine q_goto (tgt := 72) eX6_readSum_67 (by decide) ?_
              refine AQ.callVv (av := [vi (-6)]) (st := []) (c_X6_addCode (v := (-6)) ⟨_, g900, g901, g902, g903, g904, cj, g905, g90L⟩ (by omega) (by omega)) lk_RX6_230 (by decide) rfl rfl ⟨_, _, _, g900⟩ ⟨_, rfl, rfl⟩ (Nat.le_of_ble_eq_true rfl) eX6_readSum_72 (fun h98 e97 => ?_)
              obtain ⟨Xh98, Fh98⟩ := e97
              obtain ⟨g99t, g990, g991, g992, g993, g994, g99j, g995, g99L⟩ := id Xh98
              refine q_blk (lv2 := [(0, vr t), (1, vi 3), (2, vi 1), (3, vi (i + 1)), (4, vi (kd e9))]) (st2 := []) kX6_readSum_75 rfl ?_
              refine q_goto (tgt := 8) eX6_readSum_78 (by decide) ?_
              refine q_sub (lv2 := [(0, vr t), (1, vi 3), (2, vi 1), (3, vi (i + 1))]) [0, 1, 2, 3] rfl ?_
              exact ih71 1 (i + 1) h98 (Lh89 ++ [(2, 0)]) hh89e hh89n (am_uI hh89c (Lh89.length : Int) (-6)) (⟨⟨by omega, by omega⟩, hfr.tr (((am_fr.rf.tr (am_fr.st e79 (by omega) (by omega))).tr Fh89).tr Fh98), Or.inl ⟨rfl, ⟨by omega, by omega, by simp; omega⟩, by rw [show 800 - (i + 1).toNat = 800 - i.toNat - 1 by omega]; exact (rJ_go (o := 2) (by omega) (by omega) qh89).symm.trans hJ9, Ch89.add (by unfold gm_en; simp), SU.cast ⟨_, g990, g991, g992, g993, g994, cj, g995, g99L⟩ (by simp)⟩⟩) (by omega)
          · skip
            refine q_blk (lv2 := [(0, vr t), (1, vi 3), (2, vi 0), (3, vi i), (4, vi (kd e9))]) (st2 := [vi 43, vi (kd e9), vr t]) kX6_readSum_56 rfl ?_
            refine AQ.ic_ne (tgt := 70) eX6_readSum_62 (by decide) (by first | assumption | exact ⟨by omega, by omega⟩) ⟨by decide, by decide⟩ (fun br100 => ?_) (fun br100 => ?_)
            · skip
              refine q_blk (lv2 := [(0, vr t), (1, vi 3), (2, vi 0), (3, vi i), (4, vi (kd e9))]) (st2 := [vi (-7), vr t]) kX6_readSum_70 rfl ?_
              refine AQ.callVv (av := [vi (-7)]) (st := []) (c_X6_addCodeF Xh89 (v := (-7))) lk_RX6_230 (by decide) rfl rfl (SF.ob Xh89) ⟨_, rfl, rfl⟩ (Nat.le_of_ble_eq_true rfl) eX6_readSum_72 (fun h103 e102 => ?_)
              obtain ⟨Xh103, Fh103⟩ := e102
              refine q_blk (lv2 := [(0, vr t), (1, vi 3), (2, vi 0), (3, vi (i + 1)), (4, vi (kd e9))]) (st2 := []) kX6_readSum_75 rfl ?_
              refine q_goto (tgt := 8) eX6_readSum_78 (by decide) ?_
              refine q_sub (lv2 := [(0, vr t), (1, vi 3), (2, vi 0), (3, vi (i + 1))]) [0, 1, 2, 3] rfl ?_
              exact ih71 0 (i + 1) h103 L 0 0 cd (⟨⟨by omega, by omega⟩, hfr.tr (((am_fr.rf.tr (am_fr.st e79 (by omega) (by omega))).tr Fh89).tr Fh103), Or.inr ⟨rfl, _, _, hJ9.symm.trans (rJ_no (by omega) (by omega) qh89), Xh103⟩⟩) (by omega)
            · skip
              refine q_blk (lv2 := [(0, vr t), (1, vi 3), (2, vi 0), (3, vi i), (4, vi (kd e9))]) (st2 := [vi (-6), vr t]) kX6_readSum_65 rfl ?_
              refine q_goto (tgt := 72) eX6_readSum_67 (by decide) ?_
              refine AQ.callVv (av := [vi (-6)]) (st := []) (c_X6_addCodeF Xh89 (v := (-6))) lk_RX6_230 (by decide) rfl rfl (SF.ob Xh89) ⟨_, rfl, rfl⟩ (Nat.le_of_ble_eq_true rfl) eX6_readSum_72 (fun h106 e105 => ?_)
              obtain ⟨Xh106, Fh106⟩ := e105
              refine q_blk (lv2 := [(0, vr t), (1, vi 3), (2, vi 0), (3, vi (i + 1)), (4, vi (kd e9))]) (st2 := []) kX6_readSum_75 rfl ?_
              refine q_goto (tgt := 8) eX6_readSum_78 (by decide) ?_
              refine q_sub (lv2 := [(0, vr t), (1, vi 3), (2, vi 0), (3, vi (i + 1))]) [0, 1, 2, 3] rfl ?_
              exact ih71 0 (i + 1) h106 L 0 0 cd (⟨⟨by omega, by omega⟩, hfr.tr (((am_fr.rf.tr (am_fr.st e79 (by omega) (by omega))).tr Fh89).tr Fh106), Or.inr ⟨rfl, _, _, hJ9.symm.trans (rJ_no (by omega) (by omega) qh89), Xh106⟩⟩) (by omega)
        · skip
          refine q_blk (lv2 := [(0, vr t), (1, vi 3), (2, vi g), (3, vi i), (4, vi (kd e9))]) (st2 := [vi 45, vi (kd e9)]) kX6_readSum_32 rfl ?_
          refine AQ.ic_eq (tgt := 41) eX6_readSum_36 (by decide) (by first | assumption | exact ⟨by omega, by omega⟩) ⟨by decide, by decide⟩ (fun br107 => ?_) (fun br107 => ?_)
          · skip
            refine q_blk (lv2 := [(0, vr t), (1, vi 3), (2, vi g), (3, vi i), (4, vi (kd e9))]) (st2 := [vr t, vr t]) kX6_readSum_41 rfl ?_
            refine q_gi eX6_readSum_43 fl_RX6_28 (Or.inl rfl) w0 (z := e9) rfl ?_
            refine q_blk (lv2 := [(0, vr t), (1, vi 3), (2, vi g), (3, vi i), (4, vi (kd e9))]) (st2 := [vi (e9 + 1), vr t]) kX6_readSum_46 rfl ?_
            refine q_pi eX6_readSum_48 fl_RX6_28 (fun q hq => by cases hq; exact Or.inl rfl) (Or.inl rfl) w0 (Nat.le_of_ble_eq_true rfl) (l2 := [0, 0, 0, 0, 0, 0, 0, wt, (e9 + 1), v9, px, (L9.length : Int), hs, er, ea]) rfl (fun h108 e109 => ?_)
            have k110 := am_at e109
            have k111 := (am_ne e109 (t + 3) (by omega)).trans w1
            have k112 := (am_ne e109 (t + 4) (by omega)).trans w2
            have k113 := (am_ne e109 (t + 5) (by omega)).trans w3
            have k114 := (am_ne e109 (t + 6) (by omega)).trans w4
            have k115 := (am_ne e109 j (by omega)).trans w5
            have k116 := wL.kept (lo := t) (hi := t + 1) (am_fr.st e109 (by omega) (by omega)) (by omega)
            refine q_blk (lv2 := [(0, vr t), (1, vi 3), (2, vi g), (3, vi i), (4, vi (kd e9))]) (st2 := [vi 3, vr t]) kX6_readSum_51 rfl ?_
            refine AQ.callVi (av := [vi 3]) (st := []) (c_X6_readTerm3 (L := L9) ⟨_, k110, k111, k112, k113, k114, cj, k115, k116⟩ n0 kn (by omega) (by omega) kr vq hL9 (by omega)) lk_RX6_227 (by decide) rfl rfl ⟨_, _, _, k110⟩ ⟨_, rfl, rfl⟩ (Nat.le_of_ble_eq_true rfl) eX6_readSum_53 (fun z117 h119 e118 => ?_)
            rcases e118 with ⟨⟨rfl, Lh119, hh119e, qh119, ⟨bh119a, bh119b, bh119c⟩, hh119n, hh119c, Xh119, Ch119⟩ | ⟨rfl, eh119, ah119, qh119, Xh119⟩, Fh119⟩
            · skip
              obtain ⟨g120t, g1200, g1201, g1202, g1203, g1204, g120j, g1205, g120L⟩ := id Xh119
              refine q_blk (lv2 := [(0, vr t), (1, vi 3), (2, vi 1), (3, vi i), (4, vi (kd e9))]) (st2 := [vi 43, vi (kd e9), vr t]) kX6_readSum_56 rfl ?_
              refine AQ.ic_ne (tgt := 70) eX6_readSum_62 (by decide) (by first | assumption | exact ⟨by omega, by omega⟩) ⟨by decide, by decide⟩ (fun br121 => ?_) (fun br121 => ?_)
              · skip
                refine q_blk (lv2 := [(0, vr t), (1, vi 3), (2, vi 1), (3, vi i), (4, vi (kd e9))]) (st2 := [vi (-7), vr t]) kX6_readSum_70 rfl ?_
                refine AQ.callVv (av := [vi (-7)]) (st := []) (c_X6_addCode (v := (-7)) ⟨_, g1200, g1201, g1202, g1203, g1204, cj, g1205, g120L⟩ (by omega) (by omega)) lk_RX6_230 (by decide) rfl rfl ⟨_, _, _, g1200⟩ ⟨_, rfl, rfl⟩ (Nat.le_of_ble_eq_true rfl) eX6_readSum_72 (fun h124 e123 => ?_)
                obtain ⟨Xh124, Fh124⟩ := e123
                obtain ⟨g125t, g1250, g1251, g1252, g1253, g1254, g125j, g1255, g125L⟩ := id Xh124
                refine q_blk (lv2 := [(0, vr t), (1, vi 3), (2, vi 1), (3, vi (i + 1)), (4, vi (kd e9))]) (st2 := []) kX6_readSum_75 rfl ?_
                refine q_goto (tgt := 8) eX6_readSum_78 (by decide) ?_
                refine q_sub (lv2 := [(0, vr t), (1, vi 3), (2, vi 1), (3, vi (i + 1))]) [0, 1, 2, 3] rfl ?_
                exact ih71 1 (i + 1) h124 (Lh119 ++ [(3, 0)]) hh119e hh119n (am_uI hh119c (Lh119.length : Int) (-7)) (⟨⟨by omega, by omega⟩, hfr.tr (((am_fr.rf.tr (am_fr.st e109 (by omega) (by omega))).tr Fh119).tr Fh124), Or.inl ⟨rfl, ⟨by omega, by omega, by simp; omega⟩, by rw [show 800 - (i + 1).toNat = 800 - i.toNat - 1 by omega]; exact (rJ_go (o := 3) (by omega) (by omega) qh119).symm.trans hJ9, Ch119.add (by unfold gm_en; simp), SU.cast ⟨_, g1250, g1251, g1252, g1253, g1254, cj, g1255, g125L⟩ (by simp)⟩⟩) (by omega)
              · skip
                refine q_blk (lv2 := [(0, vr t), (1, vi 3), (2, vi 1), (3, vi i), (4, vi (kd e9))]) (st2 := [vi (-6), vr t]) kX6_readSum_65 rfl ?_
                refine q_goto (tgt := 72) eX6_readSum_67 (by decide) ?_
                refine AQ.callVv (av := [vi (-6)]) (st := []) (c_X6_addCode (v := (-6)) ⟨_, g1200, g1201, g1202, g1203, g1204, cj, g1205, g120L⟩ (by omega) (by omega)) lk_RX6_230 (by decide) rfl rfl ⟨_, _, _, g1200⟩ ⟨_, rfl, rfl⟩ (Nat.le_of_ble_eq_true rfl) eX6_readSum_72 (fun h128 e127 => ?_)
                obtain ⟨Xh128, Fh128⟩ := e127
                obtain ⟨g129t, g1290, g1291, g1292, g1293, g1294, g129j, g1295, g129L⟩ := id Xh128
                refine q_blk (lv2 := [(0, vr t), (1, vi 3), (2, vi 1), (3, vi (i + 1)), (4, vi (kd e9))]) (st2 := []) kX6_readSum_75 rfl ?_
                refine q_goto (tgt := 8) eX6_readSum_78 (by decide) ?_
                refine q_sub (lv2 := [(0, vr t), (1, vi 3), (2, vi 1), (3, vi (i + 1))]) [0, 1, 2, 3] rfl ?_
                exact ih71 1 (i + 1) h128 (Lh119 ++ [(2, 0)]) hh119e hh119n (am_uI hh119c (Lh119.length : Int) (-6)) (⟨⟨by omega, by omega⟩, hfr.tr (((am_fr.rf.tr (am_fr.st e109 (by omega) (by omega))).tr Fh119).tr Fh128), Or.inl ⟨rfl, ⟨by omega, by omega, by simp; omega⟩, by rw [show 800 - (i + 1).toNat = 800 - i.toNat - 1 by omega]; exact (rJ_go (o := 2) (by omega) (by omega) qh119).symm.trans hJ9, Ch119.add (by unfold gm_en; simp), SU.cast ⟨_, g1290, g1291, g1292, g1293, g1294, cj, g1295, g129L⟩ (by simp)⟩⟩) (by omega)
            · skip
              refine q_blk (lv2 := [(0, vr t), (1, vi 3), (2, vi 0), (3, vi i), (4, vi (kd e9))]) (st2 := [vi 43, vi (kd e9), vr t]) kX6_readSum_56 rfl ?_
              refine AQ.ic_ne (tgt := 70) eX6_readSum_62 (by decide) (by first | assumption | exact ⟨by omega, by omega⟩) ⟨by decide, by decide⟩ (fun br130 => ?_) (fun br130 => ?_)
              · skip
                refine q_blk (lv2 := [(0, vr t), (1, vi 3), (2, vi 0), (3, vi i), (4, vi (kd e9))]) (st2 := [vi (-7), vr t]) kX6_readSum_70 rfl ?_
                refine AQ.callVv (av := [vi (-7)]) (st := []) (c_X6_addCodeF Xh119 (v := (-7))) lk_RX6_230 (by decide) rfl rfl (SF.ob Xh119) ⟨_, rfl, rfl⟩ (Nat.le_of_ble_eq_true rfl) eX6_readSum_72 (fun h133 e132 => ?_)
                obtain ⟨Xh133, Fh133⟩ := e132
                refine q_blk (lv2 := [(0, vr t), (1, vi 3), (2, vi 0), (3, vi (i + 1)), (4, vi (kd e9))]) (st2 := []) kX6_readSum_75 rfl ?_
                refine q_goto (tgt := 8) eX6_readSum_78 (by decide) ?_
                refine q_sub (lv2 := [(0, vr t), (1, vi 3), (2, vi 0), (3, vi (i + 1))]) [0, 1, 2, 3] rfl ?_
                exact ih71 0 (i + 1) h133 L 0 0 cd (⟨⟨by omega, by omega⟩, hfr.tr (((am_fr.rf.tr (am_fr.st e109 (by omega) (by omega))).tr Fh119).tr Fh133), Or.inr ⟨rfl, _, _, hJ9.symm.trans (rJ_no (by omega) (by omega) qh119), Xh133⟩⟩) (by omega)
              · skip
                refine q_blk (lv2 := [(0, vr t), (1, vi 3), (2, vi 0), (3, vi i), (4, vi (kd e9))]) (st2 := [vi (-6), vr t]) kX6_readSum_65 rfl ?_
                refine q_goto (tgt := 72) eX6_readSum_67 (by decide) ?_
                refine AQ.callVv (av := [vi (-6)]) (st := []) (c_X6_addCodeF Xh119 (v := (-6))) lk_RX6_230 (by decide) rfl rfl (SF.ob Xh119) ⟨_, rfl, rfl⟩ (Nat.le_of_ble_eq_true rfl) eX6_readSum_72 (fun h136 e135 => ?_)
                obtain ⟨Xh136, Fh136⟩ := e135
                refine q_blk (lv2 := [(0, vr t), (1, vi 3), (2, vi 0), (3, vi (i + 1)), (4, vi (kd e9))]) (st2 := []) kX6_readSum_75 rfl ?_
                refine q_goto (tgt := 8) eX6_readSum_78 (by decide) ?_
                refine q_sub (lv2 := [(0, vr t), (1, vi 3), (2, vi 0), (3, vi (i + 1))]) [0, 1, 2, 3] rfl ?_
                exact ih71 0 (i + 1) h136 L 0 0 cd (⟨⟨by omega, by omega⟩, hfr.tr (((am_fr.rf.tr (am_fr.st e109 (by omega) (by omega))).tr Fh119).tr Fh136), Or.inr ⟨rfl, _, _, hJ9.symm.trans (rJ_no (by omega) (by omega) qh119), Xh136⟩⟩) (by omega)
          · skip
            refine q_blk (lv2 := [(0, vr t), (1, vi 3), (2, vi g), (3, vi i), (4, vi (kd e9))]) (st2 := [vi 1]) kX6_readSum_39 rfl ?_
            exact q_rz rfl eX6_readSum_40 (by decide) ⟨1, rfl, Or.inl ⟨rfl, L9, e9, hJ9.symm.trans (rJ_end (Or.inr ⟨by omega, by omega⟩)), ⟨by omega, by omega, by omega⟩, _, _, ⟨_, w0, w1, w2, w3, w4, cj, w5, wL⟩, hL9⟩, hfr.tr am_fr.rf⟩

set_option maxHeartbeats 1000000 in
theorem c_X6_readFactor2 {w : am_w} {h : AH} {L : GL} {t u b j : Nat} {kd st vl : Int → Int} {he nu px hs er ea : Int} {cd : Int → Int} (hS : SU h t u b j kd st vl he nu px (L.length : Int) hs er ea cd) {n : Int} (n0 : n ≤ 800) (kn : kd n = 0) (he0 : 0 ≤ he) (he1 : he ≤ n) (kr : ∀ i, 0 ≤ i → i < 801 → -5 ≤ kd i ∧ kd i ≤ 100) (vq : ∀ i, 0 ≤ i → i < 801 → 0 ≤ vl i ∧ vl i ≤ 10000) (hL : CL cd L) (hl : (L.length : Int) ≤ he)  : AE w m_X6_readFactor 10 [vr t, vi 2] h (am_int (fun z h1 => ((z = 1 ∧ ∃ L' he', rA kd st vl (some (rU kd st vl 1)) L he = .inr (L', he') ∧ (he < he' ∧ he' ≤ n ∧ (L'.length : Int) ≤ (L.length : Int) + (he' - he)) ∧ ∃ nu' cd', SU h1 t u b j kd st vl he' nu' px (L'.length : Int) hs er ea cd' ∧ CL cd' L') ∨ (z = 0 ∧ ∃ e a, rA kd st vl (some (rU kd st vl 1)) L he = .inl (e, a) ∧ SF h1 t u b j kd st vl e a)) ∧ am_fr h h1 t (t + 7))) := by
  refine AE.of wf_X6_readFactor (Nat.le_of_ble_eq_true rfl) (am_ok_z (fun z h1 q => by rcases q.1 with q | q; exact Or.inr q.1; exact Or.inl q.1)) ?_
  obtain ⟨tc, c0, c1, c2, c3, c4, cj, c5, cL⟩ := id hS
  have kr1 := kr he he0 (by omega)
  have vr1 := vq he he0 (by omega)
  have hen : kd he ≠ 0 → he ≠ n := fun q e9 => by rw [e9] at q; omega
  refine q_blk (lv2 := [(0, vr t), (1, vi 2)]) (st2 := [vr t]) kX6_readFactor_0 rfl ?_
  refine q_Vi (av := []) (st := []) (c_X6_kindHere ⟨_, c0, c1, c2, c3, c4, cj, c5, cL⟩ (by omega) (by omega)) lk_RX6_70 (by decide) rfl rfl ⟨_, _, _, c0⟩ ⟨_, rfl, rfl⟩ (Nat.le_of_ble_eq_true rfl) eX6_readFactor_1 (fun z1 e2 => ?_)
  subst e2
  refine q_blk (lv2 := [(0, vr t), (1, vi 2), (2, vi (kd he))]) (st2 := [vi 40, vi (kd he)]) kX6_readFactor_4 rfl ?_
  refine AQ.ic_ne (tgt := 58) eX6_readFactor_8 (by decide) (by first | assumption | exact ⟨by omega, by omega⟩) ⟨by decide, by decide⟩ (fun br3 => ?_) (fun br3 => ?_)
  · skip
    refine q_blk (lv2 := [(0, vr t), (1, vi 2), (2, vi (kd he))]) (st2 := [vi (kd he)]) kX6_readFactor_58 rfl ?_
    refine AQ.if_ge (tgt := 79) eX6_readFactor_59 (by decide) (by first | assumption | exact ⟨by omega, by omega⟩) (fun br4 => ?_) (fun br4 => ?_)
    · skip
      refine q_blk (lv2 := [(0, vr t), (1, vi 2), (2, vi (kd he))]) (st2 := [vi 2, vi (kd he)]) kX6_readFactor_79 rfl ?_
      refine AQ.ic_eq (tgt := 91) eX6_readFactor_81 (by decide) (by first | assumption | exact ⟨by omega, by omega⟩) ⟨by decide, by decide⟩ (fun br5 => ?_) (fun br5 => ?_)
      · skip
        refine q_blk (lv2 := [(0, vr t), (1, vi 2), (2, vi (kd he))]) (st2 := [vr t, vr t]) kX6_readFactor_91 rfl ?_
        refine q_Vi (av := []) (st := [vr t]) (c_X6_valueHere ⟨_, c0, c1, c2, c3, c4, cj, c5, cL⟩ (by omega) (by omega)) lk_RX6_148 (by decide) rfl rfl ⟨_, _, _, c0⟩ ⟨_, rfl, rfl⟩ (Nat.le_of_ble_eq_true rfl) eX6_readFactor_93 (fun z6 e7 => ?_)
        subst e7
        refine q_pi eX6_readFactor_96 fl_RX6_31 (fun q hq => by cases hq; exact Or.inl rfl) (Or.inl rfl) c0 (Nat.le_of_ble_eq_true rfl) (l2 := [0, 0, 0, 0, 0, 0, 0, tc, he, (vl he), px, (L.length : Int), hs, er, ea]) rfl (fun h8 e9 => ?_)
        have k10 := am_at e9
        have k11 := (am_ne e9 (t + 3) (by omega)).trans c1
        have k12 := (am_ne e9 (t + 4) (by omega)).trans c2
        have k13 := (am_ne e9 (t + 5) (by omega)).trans c3
        have k14 := (am_ne e9 (t + 6) (by omega)).trans c4
        have k15 := (am_ne e9 j (by omega)).trans c5
        have k16 := cL.kept (lo := t) (hi := t + 1) (am_fr.st e9 (by omega) (by omega)) (by omega)
        refine q_blk (lv2 := [(0, vr t), (1, vi 2), (2, vi (kd he))]) (st2 := [vr t]) kX6_readFactor_99 rfl ?_
        refine q_gi eX6_readFactor_100 fl_RX6_31 (Or.inl rfl) k10 (z := (vl he)) rfl ?_
        refine q_blk (lv2 := [(0, vr t), (1, vi 2), (2, vi (kd he))]) (st2 := [vi 9999, vi (vl he)]) kX6_readFactor_103 rfl ?_
        refine AQ.ic_le (tgt := 116) eX6_readFactor_106 (by decide) (by first | assumption | exact ⟨by omega, by omega⟩) ⟨by decide, by decide⟩ (fun br17 => ?_) (fun br17 => ?_)
        · skip
          refine q_blk (lv2 := [(0, vr t), (1, vi 2), (2, vi (kd he))]) (st2 := [vr t, vr t]) kX6_readFactor_116 rfl ?_
          refine q_gi eX6_readFactor_118 fl_RX6_28 (Or.inl rfl) k10 (z := he) rfl ?_
          refine q_blk (lv2 := [(0, vr t), (1, vi 2), (2, vi (kd he))]) (st2 := [vi (he + 1), vr t]) kX6_readFactor_121 rfl ?_
          refine q_pi eX6_readFactor_123 fl_RX6_28 (fun q hq => by cases hq; exact Or.inl rfl) (Or.inl rfl) k10 (Nat.le_of_ble_eq_true rfl) (l2 := [0, 0, 0, 0, 0, 0, 0, tc, (he + 1), (vl he), px, (L.length : Int), hs, er, ea]) rfl (fun h18 e19 => ?_)
          have k20 := am_at e19
          have k21 := (am_ne e19 (t + 3) (by omega)).trans k11
          have k22 := (am_ne e19 (t + 4) (by omega)).trans k12
          have k23 := (am_ne e19 (t + 5) (by omega)).trans k13
          have k24 := (am_ne e19 (t + 6) (by omega)).trans k14
          have k25 := (am_ne e19 j (by omega)).trans k15
          have k26 := k16.kept (lo := t) (hi := t + 1) (am_fr.st e19 (by omega) (by omega)) (by omega)
          refine q_blk (lv2 := [(0, vr t), (1, vi 2), (2, vi (kd he))]) (st2 := [vr t, vr t]) kX6_readFactor_126 rfl ?_
          refine q_gi eX6_readFactor_128 fl_RX6_31 (Or.inl rfl) k20 (z := (vl he)) rfl ?_
          refine AQ.callVv (av := [vi (vl he)]) (st := []) (c_X6_addCode (v := (vl he)) ⟨_, k20, k21, k22, k23, k24, cj, k25, k26⟩ (by omega) (by omega)) lk_RX6_230 (by decide) rfl rfl ⟨_, _, _, k20⟩ ⟨_, rfl, rfl⟩ (Nat.le_of_ble_eq_true rfl) eX6_readFactor_131 (fun h29 e28 => ?_)
          obtain ⟨Xh29, Fh29⟩ := e28
          obtain ⟨g30t, g300, g301, g302, g303, g304, g30j, g305, g30L⟩ := id Xh29
          refine q_blk (lv2 := [(0, vr t), (1, vi 2), (2, vi (kd he))]) (st2 := [vi 1]) kX6_readFactor_134 rfl ?_
          exact q_rz rfl eX6_readFactor_135 (by decide) ⟨1, rfl, Or.inl ⟨rfl, L ++ [(0, vl he)], he + 1, by unfold rA; rw [if_neg (by omega), if_neg (by omega), if_pos (by omega), if_pos (by omega)], ⟨by omega, by omega, by simp; omega⟩, (vl he), (am_uI cd (L.length : Int) (vl he)), SU.cast ⟨_, g300, g301, g302, g303, g304, cj, g305, g30L⟩ (by simp), hL.add (by unfold gm_en; (try simp); (try omega))⟩, ((am_fr.rf.tr ((am_fr.st e9 (by omega) (by omega)).tr (am_fr.st e19 (by omega) (by omega)))).tr Fh29)⟩
        · skip
          refine q_blk (lv2 := [(0, vr t), (1, vi 2), (2, vi (kd he))]) (st2 := [vi (-3), vr t]) kX6_readFactor_109 rfl ?_
          refine AQ.callVi (av := [vi (-3)]) (st := []) (c_X6_fail (e := (-3)) ⟨_, k10, k11, k12, k13, k14, cj, k15, k16⟩ (by omega) (by omega)) lk_RX6_83 (by decide) rfl rfl ⟨_, _, _, k10⟩ ⟨_, rfl, rfl⟩ (Nat.le_of_ble_eq_true rfl) eX6_readFactor_112 (fun z31 h33 e32 => ?_)
          obtain ⟨z310, Xh33, Fh33⟩ := e32
          subst z310
          obtain ⟨g34t, g340, g341, g342, g343, g344, g34j, g345, g34L⟩ := id Xh33
          exact q_rz rfl eX6_readFactor_115 (by decide) ⟨0, rfl, Or.inr ⟨rfl, _, _, by unfold rA; rw [if_neg (by omega), if_neg (by omega), if_pos (by omega), if_neg (by omega)], ⟨_, _, _, _, _, _, ⟨_, g340, g341, g342, g343, g344, cj, g345, g34L⟩, by omega, by omega⟩⟩, ((am_fr.rf.tr (am_fr.st e9 (by omega) (by omega))).tr Fh33)⟩
      · skip
        refine q_blk (lv2 := [(0, vr t), (1, vi 2), (2, vi (kd he))]) (st2 := [vi (-2), vr t]) kX6_readFactor_84 rfl ?_
        refine AQ.callVi (av := [vi (-2)]) (st := []) (c_X6_fail (e := (-2)) ⟨_, c0, c1, c2, c3, c4, cj, c5, cL⟩ (by omega) (by omega)) lk_RX6_83 (by decide) rfl rfl ⟨_, _, _, c0⟩ ⟨_, rfl, rfl⟩ (Nat.le_of_ble_eq_true rfl) eX6_readFactor_87 (fun z35 h37 e36 => ?_)
        obtain ⟨z350, Xh37, Fh37⟩ := e36
        subst z350
        obtain ⟨g38t, g380, g381, g382, g383, g384, g38j, g385, g38L⟩ := id Xh37
        exact q_rz rfl eX6_readFactor_90 (by decide) ⟨0, rfl, Or.inr ⟨rfl, _, _, by unfold rA; rw [if_neg (by omega), if_neg (by omega), if_neg (by omega)], ⟨_, _, _, _, _, _, ⟨_, g380, g381, g382, g383, g384, cj, g385, g38L⟩, by omega, by omega⟩⟩, (am_fr.rf.tr Fh37)⟩
    · skip
      refine q_blk (lv2 := [(0, vr t), (1, vi 2), (2, vi (kd he))]) (st2 := [vr t, vr t]) kX6_readFactor_62 rfl ?_
      refine q_gi eX6_readFactor_64 fl_RX6_28 (Or.inl rfl) c0 (z := he) rfl ?_
      refine q_blk (lv2 := [(0, vr t), (1, vi 2), (2, vi (kd he))]) (st2 := [vi (he + 1), vr t]) kX6_readFactor_67 rfl ?_
      refine q_pi eX6_readFactor_69 fl_RX6_28 (fun q hq => by cases hq; exact Or.inl rfl) (Or.inl rfl) c0 (Nat.le_of_ble_eq_true rfl) (l2 := [0, 0, 0, 0, 0, 0, 0, tc, (he + 1), nu, px, (L.length : Int), hs, er, ea]) rfl (fun h39 e40 => ?_)
      have k41 := am_at e40
      have k42 := (am_ne e40 (t + 3) (by omega)).trans c1
      have k43 := (am_ne e40 (t + 4) (by omega)).trans c2
      have k44 := (am_ne e40 (t + 5) (by omega)).trans c3
      have k45 := (am_ne e40 (t + 6) (by omega)).trans c4
      have k46 := (am_ne e40 j (by omega)).trans c5
      have k47 := cL.kept (lo := t) (hi := t + 1) (am_fr.st e40 (by omega) (by omega)) (by omega)
      refine q_blk (lv2 := [(0, vr t), (1, vi 2), (2, vi (kd he))]) (st2 := [vi (kd he), vr t]) kX6_readFactor_72 rfl ?_
      refine AQ.callVv (av := [vi (kd he)]) (st := []) (c_X6_addCode (v := (kd he)) ⟨_, k41, k42, k43, k44, k45, cj, k46, k47⟩ (by omega) (by omega)) lk_RX6_230 (by decide) rfl rfl ⟨_, _, _, k41⟩ ⟨_, rfl, rfl⟩ (Nat.le_of_ble_eq_true rfl) eX6_readFactor_74 (fun h50 e49 => ?_)
      obtain ⟨Xh50, Fh50⟩ := e49
      obtain ⟨g51t, g510, g511, g512, g513, g514, g51j, g515, g51L⟩ := id Xh50
      refine q_blk (lv2 := [(0, vr t), (1, vi 2), (2, vi (kd he))]) (st2 := [vi 1]) kX6_readFactor_77 rfl ?_
      exact q_rz rfl eX6_readFactor_78 (by decide) ⟨1, rfl, Or.inl ⟨rfl, L ++ [(1, -1 - kd he)], he + 1, by unfold rA; rw [if_neg (by omega), if_pos (by omega)], ⟨by omega, by omega, by simp; omega⟩, nu, (am_uI cd (L.length : Int) (kd he)), SU.cast ⟨_, g510, g511, g512, g513, g514, cj, g515, g51L⟩ (by simp), hL.add (by unfold gm_en; (try simp); (try omega))⟩, ((am_fr.rf.tr (am_fr.st e40 (by omega) (by omega))).tr Fh50)⟩
  · skip
    refine q_blk (lv2 := [(0, vr t), (1, vi 2), (2, vi (kd he))]) (st2 := [vi 4, vi 2]) kX6_readFactor_11 rfl ?_
    refine AQ.of (AS.ic_lt_t (tgt := 23) eX6_readFactor_13 (by decide) ⟨by decide, by decide⟩ ⟨by decide, by decide⟩ (by decide)) ?_
    refine q_blk (lv2 := [(0, vr t), (1, vi 2), (2, vi (kd he))]) (st2 := [vr t, vr t]) kX6_readFactor_23 rfl ?_
    refine q_gi eX6_readFactor_25 fl_RX6_28 (Or.inl rfl) c0 (z := he) rfl ?_
    refine q_blk (lv2 := [(0, vr t), (1, vi 2), (2, vi (kd he))]) (st2 := [vi (he + 1), vr t]) kX6_readFactor_28 rfl ?_
    refine q_pi eX6_readFactor_30 fl_RX6_28 (fun q hq => by cases hq; exact Or.inl rfl) (Or.inl rfl) c0 (Nat.le_of_ble_eq_true rfl) (l2 := [0, 0, 0, 0, 0, 0, 0, tc, (he + 1), nu, px, (L.length : Int), hs, er, ea]) rfl (fun h52 e53 => ?_)
    have k54 := am_at e53
    have k55 := (am_ne e53 (t + 3) (by omega)).trans c1
    have k56 := (am_ne e53 (t + 4) (by omega)).trans c2
    have k57 := (am_ne e53 (t + 5) (by omega)).trans c3
    have k58 := (am_ne e53 (t + 6) (by omega)).trans c4
    have k59 := (am_ne e53 j (by omega)).trans c5
    have k60 := cL.kept (lo := t) (hi := t + 1) (am_fr.st e53 (by omega) (by omega)) (by omega)
    refine q_blk (lv2 := [(0, vr t), (1, vi 2), (2, vi (kd he))]) (st2 := [vi (2 + 1), vr t]) kX6_readFactor_33 rfl ?_
    refine AQ.callVi (av := [vi (2 + 1)]) (st := []) (c_X6_readSum3 (L := L) ⟨_, k54, k55, k56, k57, k58, cj, k59, k60⟩ n0 kn (by omega) (by omega) kr vq hL (by omega)) lk_RX6_215 (by decide) rfl rfl ⟨_, _, _, k54⟩ ⟨_, rfl, rfl⟩ (Nat.le_of_ble_eq_true rfl) eX6_readFactor_37 (fun z61 h63 e62 => ?_)
    rcases e62 with ⟨⟨rfl, Lh63, hh63e, qh63, ⟨bh63a, bh63b, bh63c⟩, hh63n, hh63c, Xh63, Ch63⟩ | ⟨rfl, eh63, ah63, qh63, Xh63⟩, Fh63⟩
    · skip
      obtain ⟨g64t, g640, g641, g642, g643, g644, g64j, g645, g64L⟩ := id Xh63
      refine AQ.of (AS.if_eq_f eX6_readFactor_40 ⟨by decide, by decide⟩ (by decide) (by decide)) ?_
      refine q_blk (lv2 := [(0, vr t), (1, vi 2), (2, vi (kd he))]) (st2 := [vi 41, vr t]) kX6_readFactor_43 rfl ?_
      refine AQ.callVi (av := [vi 41]) (st := []) (c_X6_take ⟨_, g640, g641, g642, g643, g644, cj, g645, g64L⟩ (by omega) (by omega) kr vq (k := 41) (by omega) (by omega)) lk_RX6_166 (by decide) rfl rfl ⟨_, _, _, g640⟩ ⟨_, rfl, rfl⟩ (Nat.le_of_ble_eq_true rfl) eX6_readFactor_46 (fun z65 h67 e66 => ?_)
      rcases e66 with ⟨⟨rfl, qh67, Xh67⟩ | ⟨rfl, qh67, Xh67⟩, Fh67⟩
      · skip
        obtain ⟨g68t, g680, g681, g682, g683, g684, g68j, g685, g68L⟩ := id Xh67
        have nh67 : hh63e ≠ n := fun e9 => by rw [e9] at qh67; omega
        refine AQ.of (AS.if_eq_f eX6_readFactor_49 ⟨by decide, by decide⟩ (by decide) (by decide)) ?_
        refine q_blk (lv2 := [(0, vr t), (1, vi 2), (2, vi (kd he))]) (st2 := [vi 1]) kX6_readFactor_52 rfl ?_
        refine q_goto (tgt := 57) eX6_readFactor_53 (by decide) ?_
        exact q_rz rfl eX6_readFactor_57 (by decide) ⟨1, rfl, Or.inl ⟨rfl, _, _, by unfold rA; rw [if_pos (by omega)]; exact (rB_r qh63 _).trans (rB_r (show rT kd st 41 hh63e = .inr () by unfold rT; rw [if_pos qh67]) _), ⟨by omega, by omega, by omega⟩, _, _, ⟨_, g680, g681, g682, g683, g684, cj, g685, g68L⟩, Ch63⟩, (((am_fr.rf.tr (am_fr.st e53 (by omega) (by omega))).tr Fh63).tr Fh67)⟩
      · skip
        obtain ⟨g69t, g690, g691, g692, g693, g694, g69j, g695, g69L⟩ := id Xh67
        refine AQ.of (AS.if_eq_t (tgt := 56) eX6_readFactor_49 (by decide) ⟨by decide, by decide⟩ (by decide)) ?_
        refine q_blk (lv2 := [(0, vr t), (1, vi 2), (2, vi (kd he))]) (st2 := [vi 0]) kX6_readFactor_56 rfl ?_
        exact q_rz rfl eX6_readFactor_57 (by decide) ⟨0, rfl, Or.inr ⟨rfl, _, _, by unfold rA; rw [if_pos (by omega)]; exact (rB_r qh63 _).trans (rB_l (show rT kd st 41 hh63e = .inl (-2, st hh63e) by unfold rT; rw [if_neg qh67]) _), ⟨_, _, _, _, _, _, ⟨_, g690, g691, g692, g693, g694, cj, g695, g69L⟩, by omega, by omega⟩⟩, (((am_fr.rf.tr (am_fr.st e53 (by omega) (by omega))).tr Fh63).tr Fh67)⟩
    · skip
      refine AQ.of (AS.if_eq_t (tgt := 56) eX6_readFactor_40 (by decide) ⟨by decide, by decide⟩ (by decide)) ?_
      refine q_blk (lv2 := [(0, vr t), (1, vi 2), (2, vi (kd he))]) (st2 := [vi 0]) kX6_readFactor_56 rfl ?_
      exact q_rz rfl eX6_readFactor_57 (by decide) ⟨0, rfl, Or.inr ⟨rfl, _, _, by unfold rA; rw [if_pos (by omega)]; exact rB_l qh63 _, Xh63⟩, ((am_fr.rf.tr (am_fr.st e53 (by omega) (by omega))).tr Fh63)⟩

set_option maxHeartbeats 1000000 in
theorem c_X6_readTerm2 {w : am_w} {h : AH} {L : GL} {t u b j : Nat} {kd st vl : Int → Int} {he nu px hs er ea : Int} {cd : Int → Int} (hS : SU h t u b j kd st vl he nu px (L.length : Int) hs er ea cd) {n : Int} (n0 : n ≤ 800) (kn : kd n = 0) (he0 : 0 ≤ he) (he1 : he ≤ n) (kr : ∀ i, 0 ≤ i → i < 801 → -5 ≤ kd i ∧ kd i ≤ 100) (vq : ∀ i, 0 ≤ i → i < 801 → 0 ≤ vl i ∧ vl i ≤ 10000) (hL : CL cd L) (hl : (L.length : Int) ≤ he)  : AE w m_X6_readTerm 11 [vr t, vi 2] h (am_int (fun z h1 => ((z = 1 ∧ ∃ L' he', rM kd st vl (some (rU kd st vl 1)) L he = .inr (L', he') ∧ (he < he' ∧ he' ≤ n ∧ (L'.length : Int) ≤ (L.length : Int) + (he' - he)) ∧ ∃ nu' cd', SU h1 t u b j kd st vl he' nu' px (L'.length : Int) hs er ea cd' ∧ CL cd' L') ∨ (z = 0 ∧ ∃ e a, rM kd st vl (some (rU kd st vl 1)) L he = .inl (e, a) ∧ SF h1 t u b j kd st vl e a)) ∧ am_fr h h1 t (t + 7))) := by
  refine AE.of wf_X6_readTerm (Nat.le_of_ble_eq_true rfl) (am_ok_z (fun z h1 q => by rcases q.1 with q | q; exact Or.inr q.1; exact Or.inl q.1)) ?_
  obtain ⟨tc, c0, c1, c2, c3, c4, cj, c5, cL⟩ := id hS
  have kr1 := kr he he0 (by omega)
  have vr1 := vq he he0 (by omega)
  have hen : kd he ≠ 0 → he ≠ n := fun q e9 => by rw [e9] at q; omega
  refine q_blk (lv2 := [(0, vr t), (1, vi 2)]) (st2 := [vi 2, vr t]) kX6_readTerm_0 rfl ?_
  refine AQ.callVi (av := [vi 2]) (st := []) (c_X6_readFactor2 (L := L) ⟨_, c0, c1, c2, c3, c4, cj, c5, cL⟩ n0 kn (by omega) (by omega) kr vq hL (by omega)) lk_RX6_233 (by decide) rfl rfl ⟨_, _, _, c0⟩ ⟨_, rfl, rfl⟩ (Nat.le_of_ble_eq_true rfl) eX6_readTerm_2 (fun z1 h3 e2 => ?_)
  rcases e2 with ⟨⟨rfl, Lh3, hh3e, qh3, ⟨bh3a, bh3b, bh3c⟩, hh3n, hh3c, Xh3, Ch3⟩ | ⟨rfl, eh3, ah3, qh3, Xh3⟩, Fh3⟩
  · skip
    obtain ⟨g4t, g40, g41, g42, g43, g44, g4j, g45, g4L⟩ := id Xh3
    refine q_blk (lv2 := [(0, vr t), (1, vi 2), (2, vi 1), (3, vi 0)]) (st2 := []) kX6_readTerm_5 rfl ?_
    refine am_lp7 (I := fun (g : Int) (i : Int) (hh : AH) (L9 : GL) (e9 : Int) (v9 : Int) (c9 : Int → Int) => (0 ≤ i ∧ i ≤ 800) ∧ am_fr h hh t (t + 7) ∧ ((g = 1 ∧ (he < e9 ∧ e9 ≤ n ∧ (L9.length : Int) ≤ (L.length : Int) + (e9 - he)) ∧ rJ kd (rA kd st vl (some (rU kd st vl 1))) 42 47 4 5 (800 - i.toNat) L9 e9 = rM kd st vl (some (rU kd st vl 1)) L he ∧ CL c9 L9 ∧ SU hh t u b j kd st vl e9 v9 px (L9.length : Int) hs er ea c9) ∨ (g = 0 ∧ ∃ e a, rM kd st vl (some (rU kd st vl 1)) L he = .inl (e, a) ∧ SF hh t u b j kd st vl e a))) (μ := fun (g : Int) (i : Int) (hh : AH) (L9 : GL) (e9 : Int) (v9 : Int) (c9 : Int → Int) => (800 - i).toNat) (G := fun (g : Int) (i : Int) (hh : AH) (L9 : GL) (e9 : Int) (v9 : Int) (c9 : Int → Int) => AQ w m_X6_readTerm 11 8 [(0, vr t), (1, vi 2), (2, vi g), (3, vi i)] [] hh (am_int (fun z h1 => ((z = 1 ∧ ∃ L' he', rM kd st vl (some (rU kd st vl 1)) L he = .inr (L', he') ∧ (he < he' ∧ he' ≤ n ∧ (L'.length : Int) ≤ (L.length : Int) + (he' - he)) ∧ ∃ nu' cd', SU h1 t u b j kd st vl he' nu' px (L'.length : Int) hs er ea cd' ∧ CL cd' L') ∨ (z = 0 ∧ ∃ e a, rM kd st vl (some (rU kd st vl 1)) L he = .inl (e, a) ∧ SF h1 t u b j kd st vl e a)) ∧ am_fr h h1 t (t + 7)))) ?_ 1 0 h3 Lh3 hh3e hh3n hh3c (⟨⟨by omega, by omega⟩, (am_fr.rf.tr Fh3), Or.inl ⟨rfl, ⟨by omega, by omega, by omega⟩, by rw [show (800 - (0 : Int).toNat : Nat) = 800 from rfl]; unfold rM; rw [rB_r qh3], Ch3, ⟨_, g40, g41, g42, g43, g44, cj, g45, g4L⟩⟩⟩)
    intro g i hh L9 e9 v9 c9 hI6 ih5
    obtain ⟨⟨i0, i1⟩, hfr, hG⟩ := hI6
    have hg9 : g = 0 ∨ g = 1 := by rcases hG with q | q; exact Or.inr q.1; exact Or.inl q.1
    refine q_blk (lv2 := [(0, vr t), (1, vi 2), (2, vi g), (3, vi i)]) (st2 := [vi 800, vi i]) kX6_readTerm_8 rfl ?_
    refine AQ.ic_ge (tgt := 81) eX6_readTerm_12 (by decide) (by first | assumption | exact ⟨by omega, by omega⟩) ⟨by decide, by decide⟩ (fun br7 => ?_) (fun br7 => ?_)
    · skip
      refine q_blk (lv2 := [(0, vr t), (1, vi 2), (2, vi g), (3, vi i)]) (st2 := [vi g]) kX6_readTerm_81 rfl ?_
      exact q_rz rfl eX6_readTerm_82 (by omega) ⟨g, rfl, (by rcases hG with ⟨rfl, hb9, hJ9, hL9, hS9⟩ | hG; exact Or.inl ⟨rfl, L9, e9, hJ9.symm.trans (rJ_end (Or.inl (by omega))), hb9, _, _, hS9, hL9⟩; exact Or.inr hG), hfr⟩
    · skip
      refine q_blk (lv2 := [(0, vr t), (1, vi 2), (2, vi g), (3, vi i)]) (st2 := [vi g]) kX6_readTerm_15 rfl ?_
      refine AQ.if_eq (tgt := 81) eX6_readTerm_16 (by decide) (by first | assumption | exact ⟨by omega, by omega⟩) (fun br8 => ?_) (fun br8 => ?_)
      · skip
        refine q_blk (lv2 := [(0, vr t), (1, vi 2), (2, vi g), (3, vi i)]) (st2 := [vi g]) kX6_readTerm_81 rfl ?_
        exact q_rz rfl eX6_readTerm_82 (by omega) ⟨g, rfl, (by rcases hG with ⟨rfl, hb9, hJ9, hL9, hS9⟩ | hG; exact Or.inl ⟨rfl, L9, e9, hJ9.symm.trans (rJ_end (Or.inl (by omega))), hb9, _, _, hS9, hL9⟩; exact Or.inr hG), hfr⟩
      · skip
        obtain ⟨-, ⟨b9a, b9b, b9c⟩, hJ9, hL9, hS9⟩ := hG.resolve_right (fun q => absurd q.1 (by omega))
        obtain ⟨wt, w0, w1, w2, w3, w4, wj, w5, wL⟩ := id hS9
        have kr9 := kr e9 (by omega) (by omega)
        have hen9 : kd e9 ≠ 0 → e9 ≠ n := fun q e => by rw [e] at q; omega
        refine q_blk (lv2 := [(0, vr t), (1, vi 2), (2, vi g), (3, vi i)]) (st2 := [vr t]) kX6_readTerm_19 rfl ?_
        refine q_Vi (av := []) (st := []) (c_X6_kindHere ⟨_, w0, w1, w2, w3, w4, cj, w5, wL⟩ (by omega) (by omega)) lk_RX6_70 (by decide) rfl rfl ⟨_, _, _, w0⟩ ⟨_, rfl, rfl⟩ (Nat.le_of_ble_eq_true rfl) eX6_readTerm_20 (fun z9 e10 => ?_)
        subst e10
        refine q_blk (lv2 := [(0, vr t), (1, vi 2), (2, vi g), (3, vi i), (4, vi (kd e9))]) (st2 := [vi 42, vi (kd e9)]) kX6_readTerm_23 rfl ?_
        refine AQ.ic_eq (tgt := 41) eX6_readTerm_29 (by decide) (by first | assumption | exact ⟨by omega, by omega⟩) ⟨by decide, by decide⟩ (fun br11 => ?_) (fun br11 => ?_)
        · skip
          refine q_blk (lv2 := [(0, vr t), (1, vi 2), (2, vi g), (3, vi i), (4, vi (kd e9))]) (st2 := [vr t, vr t]) kX6_readTerm_41 rfl ?_
          refine q_gi eX6_readTerm_43 fl_RX6_28 (Or.inl rfl) w0 (z := e9) rfl ?_
          refine q_blk (lv2 := [(0, vr t), (1, vi 2), (2, vi g), (3, vi i), (4, vi (kd e9))]) (st2 := [vi (e9 + 1), vr t]) kX6_readTerm_46 rfl ?_
          refine q_pi eX6_readTerm_48 fl_RX6_28 (fun q hq => by cases hq; exact Or.inl rfl) (Or.inl rfl) w0 (Nat.le_of_ble_eq_true rfl) (l2 := [0, 0, 0, 0, 0, 0, 0, wt, (e9 + 1), v9, px, (L9.length : Int), hs, er, ea]) rfl (fun h12 e13 => ?_)
          have k14 := am_at e13
          have k15 := (am_ne e13 (t + 3) (by omega)).trans w1
          have k16 := (am_ne e13 (t + 4) (by omega)).trans w2
          have k17 := (am_ne e13 (t + 5) (by omega)).trans w3
          have k18 := (am_ne e13 (t + 6) (by omega)).trans w4
          have k19 := (am_ne e13 j (by omega)).trans w5
          have k20 := wL.kept (lo := t) (hi := t + 1) (am_fr.st e13 (by omega) (by omega)) (by omega)
          refine q_blk (lv2 := [(0, vr t), (1, vi 2), (2, vi g), (3, vi i), (4, vi (kd e9))]) (st2 := [vi 2, vr t]) kX6_readTerm_51 rfl ?_
          refine AQ.callVi (av := [vi 2]) (st := []) (c_X6_readFactor2 (L := L9) ⟨_, k14, k15, k16, k17, k18, cj, k19, k20⟩ n0 kn (by omega) (by omega) kr vq hL9 (by omega)) lk_RX6_233 (by decide) rfl rfl ⟨_, _, _, k14⟩ ⟨_, rfl, rfl⟩ (Nat.le_of_ble_eq_true rfl) eX6_readTerm_53 (fun z21 h23 e22 => ?_)
          rcases e22 with ⟨⟨rfl, Lh23, hh23e, qh23, ⟨bh23a, bh23b, bh23c⟩, hh23n, hh23c, Xh23, Ch23⟩ | ⟨rfl, eh23, ah23, qh23, Xh23⟩, Fh23⟩
          · skip
            obtain ⟨g24t, g240, g241, g242, g243, g244, g24j, g245, g24L⟩ := id Xh23
            refine q_blk (lv2 := [(0, vr t), (1, vi 2), (2, vi 1), (3, vi i), (4, vi (kd e9))]) (st2 := [vi 42, vi (kd e9), vr t]) kX6_readTerm_56 rfl ?_
            refine AQ.ic_ne (tgt := 70) eX6_readTerm_62 (by decide) (by first | assumption | exact ⟨by omega, by omega⟩) ⟨by decide, by decide⟩ (fun br25 => ?_) (fun br25 => ?_)
            · skip
              refine q_blk (lv2 := [(0, vr t), (1, vi 2), (2, vi 1), (3, vi i), (4, vi (kd e9))]) (st2 := [vi (-9), vr t]) kX6_readTerm_70 rfl ?_
              refine AQ.callVv (av := [vi (-9)]) (st := []) (c_X6_addCode (v := (-9)) ⟨_, g240, g241, g242, g243, g244, cj, g245, g24L⟩ (by omega) (by omega)) lk_RX6_230 (by decide) rfl rfl ⟨_, _, _, g240⟩ ⟨_, rfl, rfl⟩ (Nat.le_of_ble_eq_true rfl) eX6_readTerm_72 (fun h28 e27 => ?_)
              obtain ⟨Xh28, Fh28⟩ := e27
              obtain ⟨g29t, g290, g291, g292, g293, g294, g29j, g295, g29L⟩ := id Xh28
              refine q_blk (lv2 := [(0, vr t), (1, vi 2), (2, vi 1), (3, vi (i + 1)), (4, vi (kd e9))]) (st2 := []) kX6_readTerm_75 rfl ?_
              refine q_goto (tgt := 8) eX6_readTerm_78 (by decide) ?_
              refine q_sub (lv2 := [(0, vr t), (1, vi 2), (2, vi 1), (3, vi (i + 1))]) [0, 1, 2, 3] rfl ?_
              exact ih5 1 (i + 1) h28 (Lh23 ++ [(5, 0)]) hh23e hh23n (am_uI hh23c (Lh23.length : Int) (-9)) (⟨⟨by omega, by omega⟩, hfr.tr (((am_fr.rf.tr (am_fr.st e13 (by omega) (by omega))).tr Fh23).tr Fh28), Or.inl ⟨rfl, ⟨by omega, by omega, by simp; omega⟩, by rw [show 800 - (i + 1).toNat = 800 - i.toNat - 1 by omega]; exact (rJ_go (o := 5) (by omega) (by omega) qh23).symm.trans hJ9, Ch23.add (by unfold gm_en; simp), SU.cast ⟨_, g290, g291, g292, g293, g294, cj, g295, g29L⟩ (by simp)⟩⟩) (by omega)
            · skip
              refine q_blk (lv2 := [(0, vr t), (1, vi 2), (2, vi 1), (3, vi i), (4, vi (kd e9))]) (st2 := [vi (-8), vr t]) kX6_readTerm_65 rfl ?_
              refine q_goto (tgt := 72) eX6_readTerm_67 (by decide) ?_
              refine AQ.callVv (av := [vi (-8)]) (st := []) (c_X6_addCode (v := (-8)) ⟨_, g240, g241, g242, g243, g244, cj, g245, g24L⟩ (by omega) (by omega)) lk_RX6_230 (by decide) rfl rfl ⟨_, _, _, g240⟩ ⟨_, rfl, rfl⟩ (Nat.le_of_ble_eq_true rfl) eX6_readTerm_72 (fun h32 e31 => ?_)
              obtain ⟨Xh32, Fh32⟩ := e31
              obtain ⟨g33t, g330, g331, g332, g333, g334, g33j, g335, g33L⟩ := id Xh32
              refine q_blk (lv2 := [(0, vr t), (1, vi 2), (2, vi 1), (3, vi (i + 1)), (4, vi (kd e9))]) (st2 := []) kX6_readTerm_75 rfl ?_
              refine q_goto (tgt := 8) eX6_readTerm_78 (by decide) ?_
              refine q_sub (lv2 := [(0, vr t), (1, vi 2), (2, vi 1), (3, vi (i + 1))]) [0, 1, 2, 3] rfl ?_
              exact ih5 1 (i + 1) h32 (Lh23 ++ [(4, 0)]) hh23e hh23n (am_uI hh23c (Lh23.length : Int) (-8)) (⟨⟨by omega, by omega⟩, hfr.tr (((am_fr.rf.tr (am_fr.st e13 (by omega) (by omega))).tr Fh23).tr Fh32), Or.inl ⟨rfl, ⟨by omega, by omega, by simp; omega⟩, by rw [show 800 - (i + 1).toNat = 800 - i.toNat - 1 by omega]; exact (rJ_go (o := 4) (by omega) (by omega) qh23).symm.trans hJ9, Ch23.add (by unfold gm_en; simp), SU.cast ⟨_, g330, g331, g332, g333, g334, cj, g335, g33L⟩ (by simp)⟩⟩) (by omega)
          · skip
            refine q_blk (lv2 := [(0, vr t), (1, vi 2), (2, vi 0), (3, vi i), (4, vi (kd e9))]) (st2 := [vi 42, vi (kd e9), vr t]) kX6_readTerm_56 rfl ?_
            refine AQ.ic_ne (tgt := 70) eX6_readTerm_62 (by decide) (by first | assumption | exact ⟨by omega, by omega⟩) ⟨by decide, by decide⟩ (fun br34 => ?_) (fun br34 => ?_)
            · skip
              refine q_blk (lv2 := [(0, vr t), (1, vi 2), (2, vi 0), (3, vi i), (4, vi (kd e9))]) (st2 := [vi (-9), vr t]) kX6_readTerm_70 rfl ?_
              refine AQ.callVv (av := [vi (-9)]) (st := []) (c_X6_addCodeF Xh23 (v := (-9))) lk_RX6_230 (by decide) rfl rfl (SF.ob Xh23) ⟨_, rfl, rfl⟩ (Nat.le_of_ble_eq_true rfl) eX6_readTerm_72 (fun h37 e36 => ?_)
              obtain ⟨Xh37, Fh37⟩ := e36
              refine q_blk (lv2 := [(0, vr t), (1, vi 2), (2, vi 0), (3, vi (i + 1)), (4, vi (kd e9))]) (st2 := []) kX6_readTerm_75 rfl ?_
              refine q_goto (tgt := 8) eX6_readTerm_78 (by decide) ?_
              refine q_sub (lv2 := [(0, vr t), (1, vi 2), (2, vi 0), (3, vi (i + 1))]) [0, 1, 2, 3] rfl ?_
              exact ih5 0 (i + 1) h37 L 0 0 cd (⟨⟨by omega, by omega⟩, hfr.tr (((am_fr.rf.tr (am_fr.st e13 (by omega) (by omega))).tr Fh23).tr Fh37), Or.inr ⟨rfl, _, _, hJ9.symm.trans (rJ_no (by omega) (by omega) qh23), Xh37⟩⟩) (by omega)
            · skip
              refine q_blk (lv2 := [(0, vr t), (1, vi 2), (2, vi 0), (3, vi i), (4, vi (kd e9))]) (st2 := [vi (-8), vr t]) kX6_readTerm_65 rfl ?_
              refine q_goto (tgt := 72) eX6_readTerm_67 (by decide) ?_
              refine AQ.callVv (av := [vi (-8)]) (st := []) (c_X6_addCodeF Xh23 (v := (-8))) lk_RX6_230 (by decide) rfl rfl (SF.ob Xh23) ⟨_, rfl, rfl⟩ (Nat.le_of_ble_eq_true rfl) eX6_readTerm_72 (fun h40 e39 => ?_)
              obtain ⟨Xh40, Fh40⟩ := e39
              refine q_blk (lv2 := [(0, vr t), (1, vi 2), (2, vi 0), (3, vi (i + 1)), (4, vi (kd e9))]) (st2 := []) kX6_readTerm_75 rfl ?_
              refine q_goto (tgt := 8) eX6_readTerm_78 (by decide) ?_
              refine q_sub (lv2 := [(0, vr t), (1, vi 2), (2, vi 0), (3, vi (i + 1))]) [0, 1, 2, 3] rfl ?_
              exact ih5 0 (i + 1) h40 L 0 0 cd (⟨⟨by omega, by omega⟩, hfr.tr (((am_fr.rf.tr (am_fr.st e13 (by omega) (by omega))).tr Fh23).tr Fh40), Or.inr ⟨rfl, _, _, hJ9.symm.trans (rJ_no (by omega) (by omega) qh23), Xh40⟩⟩) (by omega)
        · skip
          refine q_blk (lv2 := [(0, vr t), (1, vi 2), (2, vi g), (3, vi i), (4, vi (kd e9))]) (st2 := [vi 47, vi (kd e9)]) kX6_readTerm_32 rfl ?_
          refine AQ.ic_eq (tgt := 41) eX6_readTerm_36 (by decide) (by first | assumption | exact ⟨by omega, by omega⟩) ⟨by decide, by decide⟩ (fun br41 => ?_) (fun br41 => ?_)
          · skip
            refine q_blk (lv2 := [(0, vr t), (1, vi 2), (2, vi g), (3, vi i), (4, vi (kd e9))]) (st2 := [vr t, vr t]) kX6_readTerm_41 rfl ?_
            refine q_gi eX6_readTerm_43 fl_RX6_28 (Or.inl rfl) w0 (z := e9) rfl ?_
            refine q_blk (lv2 := [(0, vr t), (1, vi 2), (2, vi g), (3, vi i), (4, vi (kd e9))]) (st2 := [vi (e9 + 1), vr t]) kX6_readTerm_46 rfl ?_
            refine q_pi eX6_readTerm_48 fl_RX6_28 (fun q hq => by cases hq; exact Or.inl rfl) (Or.inl rfl) w0 (Nat.le_of_ble_eq_true rfl) (l2 := [0, 0, 0, 0, 0, 0, 0, wt, (e9 + 1), v9, px, (L9.length : Int), hs, er, ea]) rfl (fun h42 e43 => ?_)
            have k44 := am_at e43
            have k45 := (am_ne e43 (t + 3) (by omega)).trans w1
            have k46 := (am_ne e43 (t + 4) (by omega)).trans w2
            have k47 := (am_ne e43 (t + 5) (by omega)).trans w3
            have k48 := (am_ne e43 (t + 6) (by omega)).trans w4
            have k49 := (am_ne e43 j (by omega)).trans w5
            have k50 := wL.kept (lo := t) (hi := t + 1) (am_fr.st e43 (by omega) (by omega)) (by omega)
            refine q_blk (lv2 := [(0, vr t), (1, vi 2), (2, vi g), (3, vi i), (4, vi (kd e9))]) (st2 := [vi 2, vr t]) kX6_readTerm_51 rfl ?_
            refine AQ.callVi (av := [vi 2]) (st := []) (c_X6_readFactor2 (L := L9) ⟨_, k44, k45, k46, k47, k48, cj, k49, k50⟩ n0 kn (by omega) (by omega) kr vq hL9 (by omega)) lk_RX6_233 (by decide) rfl rfl ⟨_, _, _, k44⟩ ⟨_, rfl, rfl⟩ (Nat.le_of_ble_eq_true rfl) eX6_readTerm_53 (fun z51 h53 e52 => ?_)
            rcases e52 with ⟨⟨rfl, Lh53, hh53e, qh53, ⟨bh53a, bh53b, bh53c⟩, hh53n, hh53c, Xh53, Ch53⟩ | ⟨rfl, eh53, ah53, qh53, Xh53⟩, Fh53⟩
            · skip
              obtain ⟨g54t, g540, g541, g542, g543, g544, g54j, g545, g54L⟩ := id Xh53
              refine q_blk (lv2 := [(0, vr t), (1, vi 2), (2, vi 1), (3, vi i), (4, vi (kd e9))]) (st2 := [vi 42, vi (kd e9), vr t]) kX6_readTerm_56 rfl ?_
              refine AQ.ic_ne (tgt := 70) eX6_readTerm_62 (by decide) (by first | assumption | exact ⟨by omega, by omega⟩) ⟨by decide, by decide⟩ (fun br55 => ?_) (fun br55 => ?_)
              · skip
                refine q_blk (lv2 := [(0, vr t), (1, vi 2), (2, vi 1), (3, vi i), (4, vi (kd e9))]) (st2 := [vi (-9), vr t]) kX6_readTerm_70 rfl ?_
                refine AQ.callVv (av := [vi (-9)]) (st := []) (c_X6_addCode (v := (-9)) ⟨_, g540, g541, g542, g543, g544, cj, g545, g54L⟩ (by omega) (by omega)) lk_RX6_230 (by decide) rfl rfl ⟨_, _, _, g540⟩ ⟨_, rfl, rfl⟩ (Nat.le_of_ble_eq_true rfl) eX6_readTerm_72 (fun h58 e57 => ?_)
                obtain ⟨Xh58, Fh58⟩ := e57
                obtain ⟨g59t, g590, g591, g592, g593, g594, g59j, g595, g59L⟩ := id Xh58
                refine q_blk (lv2 := [(0, vr t), (1, vi 2), (2, vi 1), (3, vi (i + 1)), (4, vi (kd e9))]) (st2 := []) kX6_readTerm_75 rfl ?_
                refine q_goto (tgt := 8) eX6_readTerm_78 (by decide) ?_
                refine q_sub (lv2 := [(0, vr t), (1, vi 2), (2, vi 1), (3, vi (i + 1))]) [0, 1, 2, 3] rfl ?_
                exact ih5 1 (i + 1) h58 (Lh53 ++ [(5, 0)]) hh53e hh53n (am_uI hh53c (Lh53.length : Int) (-9)) (⟨⟨by omega, by omega⟩, hfr.tr (((am_fr.rf.tr (am_fr.st e43 (by omega) (by omega))).tr Fh53).tr Fh58), Or.inl ⟨rfl, ⟨by omega, by omega, by simp; omega⟩, by rw [show 800 - (i + 1).toNat = 800 - i.toNat - 1 by omega]; exact (rJ_go (o := 5) (by omega) (by omega) qh53).symm.trans hJ9, Ch53.add (by unfold gm_en; simp), SU.cast ⟨_, g590, g591, g592, g593, g594, cj, g595, g59L⟩ (by simp)⟩⟩) (by omega)
              · skip
                refine q_blk (lv2 := [(0, vr t), (1, vi 2), (2, vi 1), (3, vi i), (4, vi (kd e9))]) (st2 := [vi (-8), vr t]) kX6_readTerm_65 rfl ?_
                refine q_goto (tgt := 72) eX6_readTerm_67 (by decide) ?_
                refine AQ.callVv (av := [vi (-8)]) (st := []) (c_X6_addCode (v := (-8)) ⟨_, g540, g541, g542, g543, g544, cj, g545, g54L⟩ (by omega) (by omega)) lk_RX6_230 (by decide) rfl rfl ⟨_, _, _, g540⟩ ⟨_, rfl, rfl⟩ (Nat.le_of_ble_eq_true rfl) eX6_readTerm_72 (fun h62 e61 => ?_)
                obtain ⟨Xh62, Fh62⟩ := e61
                obtain ⟨g63t, g630, g631, g632, g633, g634, g63j, g635, g63L⟩ := id Xh62
                refine q_blk (lv2 := [(0, vr t), (1, vi 2), (2, vi 1), (3, vi (i + 1)), (4, vi (kd e9))]) (st2 := []) kX6_readTerm_75 rfl ?_
                refine q_goto (tgt := 8) eX6_readTerm_78 (by decide) ?_
                refine q_sub (lv2 := [(0, vr t), (1, vi 2), (2, vi 1), (3, vi (i + 1))]) [0, 1, 2, 3] rfl ?_
                exact ih5 1 (i + 1) h62 (Lh53 ++ [(4, 0)]) hh53e hh53n (am_uI hh53c (Lh53.length : Int) (-8)) (⟨⟨by omega, by omega⟩, hfr.tr (((am_fr.rf.tr (am_fr.st e43 (by omega) (by omega))).tr Fh53).tr Fh62), Or.inl ⟨rfl, ⟨by omega, by omega, by simp; omega⟩, by rw [show 800 - (i + 1).toNat = 800 - i.toNat - 1 by omega]; exact (rJ_go (o := 4) (by omega) (by omega) qh53).symm.trans hJ9, Ch53.add (by unfold gm_en; simp), SU.cast ⟨_, g630, g631, g632, g633, g634, cj, g635, g63L⟩ (by simp)⟩⟩) (by omega)
            · skip
              refine q_blk (lv2 := [(0, vr t), (1, vi 2), (2, vi 0), (3, vi i), (4, vi (kd e9))]) (st2 := [vi 42, vi (kd e9), vr t]) kX6_readTerm_56 rfl ?_
              refine AQ.ic_ne (tgt := 70) eX6_readTerm_62 (by decide) (by first | assumption | exact ⟨by omega, by omega⟩) ⟨by decide, by decide⟩ (fun br64 => ?_) (fun br64 => ?_)
              · skip
                refine q_blk (lv2 := [(0, vr t), (1, vi 2), (2, vi 0), (3, vi i), (4, vi (kd e9))]) (st2 := [vi (-9), vr t]) kX6_readTerm_70 rfl ?_
                refine AQ.callVv (av := [vi (-9)]) (st := []) (c_X6_addCodeF Xh53 (v := (-9))) lk_RX6_230 (by decide) rfl rfl (SF.ob Xh53) ⟨_, rfl, rfl⟩ (Nat.le_of_ble_eq_true rfl) eX6_readTerm_72 (fun h67 e66 => ?_)
                obtain ⟨Xh67, Fh67⟩ := e66
                refine q_blk (lv2 := [(0, vr t), (1, vi 2), (2, vi 0), (3, vi (i + 1)), (4, vi (kd e9))]) (st2 := []) kX6_readTerm_75 rfl ?_
                refine q_goto (tgt := 8) eX6_readTerm_78 (by decide) ?_
                refine q_sub (lv2 := [(0, vr t), (1, vi 2), (2, vi 0), (3, vi (i + 1))]) [0, 1, 2, 3] rfl ?_
                exact ih5 0 (i + 1) h67 L 0 0 cd (⟨⟨by omega, by omega⟩, hfr.tr (((am_fr.rf.tr (am_fr.st e43 (by omega) (by omega))).tr Fh53).tr Fh67), Or.inr ⟨rfl, _, _, hJ9.symm.trans (rJ_no (by omega) (by omega) qh53), Xh67⟩⟩) (by omega)
              · skip
                refine q_blk (lv2 := [(0, vr t), (1, vi 2), (2, vi 0), (3, vi i), (4, vi (kd e9))]) (st2 := [vi (-8), vr t]) kX6_readTerm_65 rfl ?_
                refine q_goto (tgt := 72) eX6_readTerm_67 (by decide) ?_
                refine AQ.callVv (av := [vi (-8)]) (st := []) (c_X6_addCodeF Xh53 (v := (-8))) lk_RX6_230 (by decide) rfl rfl (SF.ob Xh53) ⟨_, rfl, rfl⟩ (Nat.le_of_ble_eq_true rfl) eX6_readTerm_72 (fun h70 e69 => ?_)
                obtain ⟨Xh70, Fh70⟩ := e69
                refine q_blk (lv2 := [(0, vr t), (1, vi 2), (2, vi 0), (3, vi (i + 1)), (4, vi (kd e9))]) (st2 := []) kX6_readTerm_75 rfl ?_
                refine q_goto (tgt := 8) eX6_readTerm_78 (by decide) ?_
                refine q_sub (lv2 := [(0, vr t), (1, vi 2), (2, vi 0), (3, vi (i + 1))]) [0, 1, 2, 3] rfl ?_
                exact ih5 0 (i + 1) h70 L 0 0 cd (⟨⟨by omega, by omega⟩, hfr.tr (((am_fr.rf.tr (am_fr.st e43 (by omega) (by omega))).tr Fh53).tr Fh70), Or.inr ⟨rfl, _, _, hJ9.symm.trans (rJ_no (by omega) (by omega) qh53), Xh70⟩⟩) (by omega)
          · skip
            refine q_blk (lv2 := [(0, vr t), (1, vi 2), (2, vi g), (3, vi i), (4, vi (kd e9))]) (st2 := [vi 1]) kX6_readTerm_39 rfl ?_
            exact q_rz rfl eX6_readTerm_40 (by decide) ⟨1, rfl, Or.inl ⟨rfl, L9, e9, hJ9.symm.trans (rJ_end (Or.inr ⟨by omega, by omega⟩)), ⟨by omega, by omega, by omega⟩, _, _, ⟨_, w0, w1, w2, w3, w4, cj, w5, wL⟩, hL9⟩, hfr.tr am_fr.rf⟩
  · skip
    refine q_blk (lv2 := [(0, vr t), (1, vi 2), (2, vi 0), (3, vi 0)]) (st2 := []) kX6_readTerm_5 rfl ?_
    refine am_lp7 (I := fun (g : Int) (i : Int) (hh : AH) (L9 : GL) (e9 : Int) (v9 : Int) (c9 : Int → Int) => (0 ≤ i ∧ i ≤ 800) ∧ am_fr h hh t (t + 7) ∧ ((g = 1 ∧ (he < e9 ∧ e9 ≤ n ∧ (L9.length : Int) ≤ (L.length : Int) + (e9 - he)) ∧ rJ kd (rA kd st vl (some (rU kd st vl 1))) 42 47 4 5 (800 - i.toNat) L9 e9 = rM kd st vl (some (rU kd st vl 1)) L he ∧ CL c9 L9 ∧ SU hh t u b j kd st vl e9 v9 px (L9.length : Int) hs er ea c9) ∨ (g = 0 ∧ ∃ e a, rM kd st vl (some (rU kd st vl 1)) L he = .inl (e, a) ∧ SF hh t u b j kd st vl e a))) (μ := fun (g : Int) (i : Int) (hh : AH) (L9 : GL) (e9 : Int) (v9 : Int) (c9 : Int → Int) => (800 - i).toNat) (G := fun (g : Int) (i : Int) (hh : AH) (L9 : GL) (e9 : Int) (v9 : Int) (c9 : Int → Int) => AQ w m_X6_readTerm 11 8 [(0, vr t), (1, vi 2), (2, vi g), (3, vi i)] [] hh (am_int (fun z h1 => ((z = 1 ∧ ∃ L' he', rM kd st vl (some (rU kd st vl 1)) L he = .inr (L', he') ∧ (he < he' ∧ he' ≤ n ∧ (L'.length : Int) ≤ (L.length : Int) + (he' - he)) ∧ ∃ nu' cd', SU h1 t u b j kd st vl he' nu' px (L'.length : Int) hs er ea cd' ∧ CL cd' L') ∨ (z = 0 ∧ ∃ e a, rM kd st vl (some (rU kd st vl 1)) L he = .inl (e, a) ∧ SF h1 t u b j kd st vl e a)) ∧ am_fr h h1 t (t + 7)))) ?_ 0 0 h3 L 0 0 cd (⟨⟨by omega, by omega⟩, (am_fr.rf.tr Fh3), Or.inr ⟨rfl, _, _, by unfold rM; exact rB_l qh3 _, Xh3⟩⟩)
    intro g i hh L9 e9 v9 c9 hI72 ih71
    obtain ⟨⟨i0, i1⟩, hfr, hG⟩ := hI72
    have hg9 : g = 0 ∨ g = 1 := by rcases hG with q | q; exact Or.inr q.1; exact Or.inl q.1
    refine q_blk (lv2 := [(0, vr t), (1, vi 2), (2, vi g), (3, vi i)]) (st2 := [vi 800, vi i]) kX6_readTerm_8 rfl ?_
    refine AQ.ic_ge (tgt := 81) eX6_readTerm_12 (by decide) (by first | assumption | exact ⟨by omega, by omega⟩) ⟨by decide, by decide⟩ (fun br73 => ?_) (fun br73 => ?_)
    · skip
      refine q_blk (lv2 := [(0, vr t), (1, vi 2), (2, vi g), (3, vi i)]) (st2 := [vi g]) kX6_readTerm_81 rfl ?_
      exact q_rz rfl eX6_readTerm_82 (by omega) ⟨g, rfl, (by rcases hG with ⟨rfl, hb9, hJ9, hL9, hS9⟩ | hG; exact Or.inl ⟨rfl, L9, e9, hJ9.symm.trans (rJ_end (Or.inl (by omega))), hb9, _, _, hS9, hL9⟩; exact Or.inr hG), hfr⟩
    · skip
      refine q_blk (lv2 := [(0, vr t), (1, vi 2), (2, vi g), (3, vi i)]) (st2 := [vi g]) kX6_readTerm_15 rfl ?_
      refine AQ.if_eq (tgt := 81) eX6_readTerm_16 (by decide) (by first | assumption | exact ⟨by omega, by omega⟩) (fun br74 => ?_) (fun br74 => ?_)
      · skip
        refine q_blk (lv2 := [(0, vr t), (1, vi 2), (2, vi g), (3, vi i)]) (st2 := [vi g]) kX6_readTerm_81 rfl ?_
        exact q_rz rfl eX6_readTerm_82 (by omega) ⟨g, rfl, (by rcases hG with ⟨rfl, hb9, hJ9, hL9, hS9⟩ | hG; exact Or.inl ⟨rfl, L9, e9, hJ9.symm.trans (rJ_end (Or.inl (by omega))), hb9, _, _, hS9, hL9⟩; exact Or.inr hG), hfr⟩
      · skip
        obtain ⟨-, ⟨b9a, b9b, b9c⟩, hJ9, hL9, hS9⟩ := hG.resolve_right (fun q => absurd q.1 (by omega))
        obtain ⟨wt, w0, w1, w2, w3, w4, wj, w5, wL⟩ := id hS9
        have kr9 := kr e9 (by omega) (by omega)
        have hen9 : kd e9 ≠ 0 → e9 ≠ n := fun q e => by rw [e] at q; omega
        refine q_blk (lv2 := [(0, vr t), (1, vi 2), (2, vi g), (3, vi i)]) (st2 := [vr t]) kX6_readTerm_19 rfl ?_
        refine q_Vi (av := []) (st := []) (c_X6_kindHere ⟨_, w0, w1, w2, w3, w4, cj, w5, wL⟩ (by omega) (by omega)) lk_RX6_70 (by decide) rfl rfl ⟨_, _, _, w0⟩ ⟨_, rfl, rfl⟩ (Nat.le_of_ble_eq_true rfl) eX6_readTerm_20 (fun z75 e76 => ?_)
        subst e76
        refine q_blk (lv2 := [(0, vr t), (1, vi 2), (2, vi g), (3, vi i), (4, vi (kd e9))]) (st2 := [vi 42, vi (kd e9)]) kX6_readTerm_23 rfl ?_
        refine AQ.ic_eq (tgt := 41) eX6_readTerm_29 (by decide) (by first | assumption | exact ⟨by omega, by omega⟩) ⟨by decide, by decide⟩ (fun br77 => ?_) (fun br77 => ?_)
        · skip
          refine q_blk (lv2 := [(0, vr t), (1, vi 2), (2, vi g), (3, vi i), (4, vi (kd e9))]) (st2 := [vr t, vr t]) kX6_readTerm_41 rfl ?_
          refine q_gi eX6_readTerm_43 fl_RX6_28 (Or.inl rfl) w0 (z := e9) rfl ?_
          refine q_blk (lv2 := [(0, vr t), (1, vi 2), (2, vi g), (3, vi i), (4, vi (kd e9))]) (st2 := [vi (e9 + 1), vr t]) kX6_readTerm_46 rfl ?_
          refine q_pi eX6_readTerm_48 fl_RX6_28 (fun q hq => by cases hq; exact Or.inl rfl) (Or.inl rfl) w0 (Nat.le_of_ble_eq_true rfl) (l2 := [0, 0, 0, 0, 0, 0, 0, wt, (e9 + 1), v9, px, (L9.length : Int), hs, er, ea]) rfl (fun h78 e79 => ?_)
          have k80 := am_at e79
          have k81 := (am_ne e79 (t + 3) (by omega)).trans w1
          have k82 := (am_ne e79 (t + 4) (by omega)).trans w2
          have k83 := (am_ne e79 (t + 5) (by omega)).trans w3
          have k84 := (am_ne e79 (t + 6) (by omega)).trans w4
          have k85 := (am_ne e79 j (by omega)).trans w5
          have k86 := wL.kept (lo := t) (hi := t + 1) (am_fr.st e79 (by omega) (by omega)) (by omega)
          refine q_blk (lv2 := [(0, vr t), (1, vi 2), (2, vi g), (3, vi i), (4, vi (kd e9))]) (st2 := [vi 2, vr t]) kX6_readTerm_51 rfl ?_
          refine AQ.callVi (av := [vi 2]) (st := []) (c_X6_readFactor2 (L := L9) ⟨_, k80, k81, k82, k83, k84, cj, k85, k86⟩ n0 kn (by omega) (by omega) kr vq hL9 (by omega)) lk_RX6_233 (by decide) rfl rfl ⟨_, _, _, k80⟩ ⟨_, rfl, rfl⟩ (Nat.le_of_ble_eq_true rfl) eX6_readTerm_53 (fun z87 h89 e88 => ?_)
          rcases e88 with ⟨⟨rfl, Lh89, hh89e, qh89, ⟨bh89a, bh89b, bh89c⟩, hh89n, hh89c, Xh89, Ch89⟩ | ⟨rfl, eh89, ah89, qh89, Xh89⟩, Fh89⟩
          · skip
            obtain ⟨g90t, g900, g901, g902, g903, g904, g90j, g905, g90L⟩ := id Xh89
            refine q_blk (lv2 := [(0, vr t), (1, vi 2), (2, vi 1), (3, vi i), (4, vi (kd e9))]) (st2 := [vi 42, vi (kd e9), vr t]) kX6_readTerm_56 rfl ?_
            refine AQ.ic_ne (tgt := 70) eX6_readTerm_62 (by decide) (by first | assumption | exact ⟨by omega, by omega⟩) ⟨by decide, by decide⟩ (fun br91 => ?_) (fun br91 => ?_)
            · skip
              refine q_blk (lv2 := [(0, vr t), (1, vi 2), (2, vi 1), (3, vi i), (4, vi (kd e9))]) (st2 := [vi (-9), vr t]) kX6_readTerm_70 rfl ?_
              refine AQ.callVv (av := [vi (-9)]) (st := []) (c_X6_addCode (v := (-9)) ⟨_, g900, g901, g902, g903, g904, cj, g905, g90L⟩ (by omega) (by omega)) lk_RX6_230 (by decide) rfl rfl ⟨_, _, _, g900⟩ ⟨_, rfl, rfl⟩ (Nat.le_of_ble_eq_true rfl) eX6_readTerm_72 (fun h94 e93 => ?_)
              obtain ⟨Xh94, Fh94⟩ := e93
              obtain ⟨g95t, g950, g951, g952, g953, g954, g95j, g955, g95L⟩ := id Xh94
              refine q_blk (lv2 := [(0, vr t), (1, vi 2), (2, vi 1), (3, vi (i + 1)), (4, vi (kd e9))]) (st2 := []) kX6_readTerm_75 rfl ?_
              refine q_goto (tgt := 8) eX6_readTerm_78 (by decide) ?_
              refine q_sub (lv2 := [(0, vr t), (1, vi 2), (2, vi 1), (3, vi (i + 1))]) [0, 1, 2, 3] rfl ?_
              exact ih71 1 (i + 1) h94 (Lh89 ++ [(5, 0)]) hh89e hh89n (am_uI hh89c (Lh89.length : Int) (-9)) (⟨⟨by omega, by omega⟩, hfr.tr (((am_fr.rf.tr (am_fr.st e79 (by omega) (by omega))).tr Fh89).tr Fh94), Or.inl ⟨rfl, ⟨by omega, by omega, by simp; omega⟩, by rw [show 800 - (i + 1).toNat = 800 - i.toNat - 1 by omega]; exact (rJ_go (o := 5) (by omega) (by omega) qh89).symm.trans hJ9, Ch89.add (by unfold gm_en; simp), SU.cast ⟨_, g950, g951, g952, g953, g954, cj, g955, g95L⟩ (by simp)⟩⟩) (by omega)
            · skip
              refine q_blk (lv2 := [(0, vr t), (1, vi 2), (2, vi 1), (3, vi i), (4, vi (kd e9))]) (st2 := [vi (-8), vr t]) kX6_readTerm_65 rfl ?_
              refine q_goto (tgt := 72) eX6_readTerm_67 (by decide) ?_
              refine AQ.callVv (av := [vi (-8)]) (st := []) (c_X6_addCode (v := (-8)) ⟨_, g900, g901, g902, g903, g904, cj, g905, g90L⟩ (by omega) (by omega)) lk_RX6_230 (by decide) rfl rfl ⟨_, _, _, g900⟩ ⟨_, rfl, rfl⟩ (Nat.le_of_ble_eq_true rfl) eX6_readTerm_72 (fun h98 e97 => ?_)
              obtain ⟨Xh98, Fh98⟩ := e97
              obtain ⟨g99t, g990, g991, g992, g993, g994, g99j, g995, g99L⟩ := id Xh98
              refine q_blk (lv2 := [(0, vr t), (1, vi 2), (2, vi 1), (3, vi (i + 1)), (4, vi (kd e9))]) (st2 := []) kX6_readTerm_75 rfl ?_
              refine q_goto (tgt := 8) eX6_readTerm_78 (by decide) ?_
              refine q_sub (lv2 := [(0, vr t), (1, vi 2), (2, vi 1), (3, vi (i + 1))]) [0, 1, 2, 3] rfl ?_
              exact ih71 1 (i + 1) h98 (Lh89 ++ [(4, 0)]) hh89e hh89n (am_uI hh89c (Lh89.length : Int) (-8)) (⟨⟨by omega, by omega⟩, hfr.tr (((am_fr.rf.tr (am_fr.st e79 (by omega) (by omega))).tr Fh89).tr Fh98), Or.inl ⟨rfl, ⟨by omega, by omega, by simp; omega⟩, by rw [show 800 - (i + 1).toNat = 800 - i.toNat - 1 by omega]; exact (rJ_go (o := 4) (by omega) (by omega) qh89).symm.trans hJ9, Ch89.add (by unfold gm_en; simp), SU.cast ⟨_, g990, g991, g992, g993, g994, cj, g995, g99L⟩ (by simp)⟩⟩) (by omega)
          · skip
            refine q_blk (lv2 := [(0, vr t), (1, vi 2), (2, vi 0), (3, vi i), (4, vi (kd e9))]) (st2 := [vi 42, vi (kd e9), vr t]) kX6_readTerm_56 rfl ?_
            refine AQ.ic_ne (tgt := 70) eX6_readTerm_62 (by decide) (by first | assumption | exact ⟨by omega, by omega⟩) ⟨by decide, by decide⟩ (fun br100 => ?_) (fun br100 => ?_)
            · skip
              refine q_blk (lv2 := [(0, vr t), (1, vi 2), (2, vi 0), (3, vi i), (4, vi (kd e9))]) (st2 := [vi (-9), vr t]) kX6_readTerm_70 rfl ?_
              refine AQ.callVv (av := [vi (-9)]) (st := []) (c_X6_addCodeF Xh89 (v := (-9))) lk_RX6_230 (by decide) rfl rfl (SF.ob Xh89) ⟨_, rfl, rfl⟩ (Nat.le_of_ble_eq_true rfl) eX6_readTerm_72 (fun h103 e102 => ?_)
              obtain ⟨Xh103, Fh103⟩ := e102
              refine q_blk (lv2 := [(0, vr t), (1, vi 2), (2, vi 0), (3, vi (i + 1)), (4, vi (kd e9))]) (st2 := []) kX6_readTerm_75 rfl ?_
              refine q_goto (tgt := 8) eX6_readTerm_78 (by decide) ?_
              refine q_sub (lv2 := [(0, vr t), (1, vi 2), (2, vi 0), (3, vi (i + 1))]) [0, 1, 2, 3] rfl ?_
              exact ih71 0 (i + 1) h103 L 0 0 cd (⟨⟨by omega, by omega⟩, hfr.tr (((am_fr.rf.tr (am_fr.st e79 (by omega) (by omega))).tr Fh89).tr Fh103), Or.inr ⟨rfl, _, _, hJ9.symm.trans (rJ_no (by omega) (by omega) qh89), Xh103⟩⟩) (by omega)
            · skip
              refine q_blk (lv2 := [(0, vr t), (1, vi 2), (2, vi 0), (3, vi i), (4, vi (kd e9))]) (st2 := [vi (-8), vr t]) kX6_readTerm_65 rfl ?_
              refine q_goto (tgt := 72) eX6_readTerm_67 (by decide) ?_
              refine AQ.callVv (av := [vi (-8)]) (st := []) (c_X6_addCodeF Xh89 (v := (-8))) lk_RX6_230 (by decide) rfl rfl (SF.ob Xh89) ⟨_, rfl, rfl⟩ (Nat.le_of_ble_eq_true rfl) eX6_readTerm_72 (fun h106 e105 => ?_)
              obtain ⟨Xh106, Fh106⟩ := e105
              refine q_blk (lv2 := [(0, vr t), (1, vi 2), (2, vi 0), (3, vi (i + 1)), (4, vi (kd e9))]) (st2 := []) kX6_readTerm_75 rfl ?_
              refine q_goto (tgt := 8) eX6_readTerm_78 (by decide) ?_
              refine q_sub (lv2 := [(0, vr t), (1, vi 2), (2, vi 0), (3, vi (i + 1))]) [0, 1, 2, 3] rfl ?_
              exact ih71 0 (i + 1) h106 L 0 0 cd (⟨⟨by omega, by omega⟩, hfr.tr (((am_fr.rf.tr (am_fr.st e79 (by omega) (by omega))).tr Fh89).tr Fh106), Or.inr ⟨rfl, _, _, hJ9.symm.trans (rJ_no (by omega) (by omega) qh89), Xh106⟩⟩) (by omega)
        · skip
          refine q_blk (lv2 := [(0, vr t), (1, vi 2), (2, vi g), (3, vi i), (4, vi (kd e9))]) (st2 := [vi 47, vi (kd e9)]) kX6_readTerm_32 rfl ?_
          refine AQ.ic_eq (tgt := 41) eX6_readTerm_36 (by decide) (by first | assumption | exact ⟨by omega, by omega⟩) ⟨by decide, by decide⟩ (fun br107 => ?_) (fun br107 => ?_)
          · skip
            refine q_blk (lv2 := [(0, vr t), (1, vi 2), (2, vi g), (3, vi i), (4, vi (kd e9))]) (st2 := [vr t, vr t]) kX6_readTerm_41 rfl ?_
            refine q_gi eX6_readTerm_43 fl_RX6_28 (Or.inl rfl) w0 (z := e9) rfl ?_
            refine q_blk (lv2 := [(0, vr t), (1, vi 2), (2, vi g), (3, vi i), (4, vi (kd e9))]) (st2 := [vi (e9 + 1), vr t]) kX6_readTerm_46 rfl ?_
            refine q_pi eX6_readTerm_48 fl_RX6_28 (fun q hq => by cases hq; exact Or.inl rfl) (Or.inl rfl) w0 (Nat.le_of_ble_eq_true rfl) (l2 := [0, 0, 0, 0, 0, 0, 0, wt, (e9 + 1), v9, px, (L9.length : Int), hs, er, ea]) rfl (fun h108 e109 => ?_)
            have k110 := am_at e109
            have k111 := (am_ne e109 (t + 3) (by omega)).trans w1
            have k112 := (am_ne e109 (t + 4) (by omega)).trans w2
            have k113 := (am_ne e109 (t + 5) (by omega)).trans w3
            have k114 := (am_ne e109 (t + 6) (by omega)).trans w4
            have k115 := (am_ne e109 j (by omega)).trans w5
            have k116 := wL.kept (lo := t) (hi := t + 1) (am_fr.st e109 (by omega) (by omega)) (by omega)
            refine q_blk (lv2 := [(0, vr t), (1, vi 2), (2, vi g), (3, vi i), (4, vi (kd e9))]) (st2 := [vi 2, vr t]) kX6_readTerm_51 rfl ?_
            refine AQ.callVi (av := [vi 2]) (st := []) (c_X6_readFactor2 (L := L9) ⟨_, k110, k111, k112, k113, k114, cj, k115, k116⟩ n0 kn (by omega) (by omega) kr vq hL9 (by omega)) lk_RX6_233 (by decide) rfl rfl ⟨_, _, _, k110⟩ ⟨_, rfl, rfl⟩ (Nat.le_of_ble_eq_true rfl) eX6_readTerm_53 (fun z117 h119 e118 => ?_)
            rcases e118 with ⟨⟨rfl, Lh119, hh119e, qh119, ⟨bh119a, bh119b, bh119c⟩, hh119n, hh119c, Xh119, Ch119⟩ | ⟨rfl, eh119, ah119, qh119, Xh119⟩, Fh119⟩
            · skip
              obtain ⟨g120t, g1200, g1201, g1202, g1203, g1204, g120j, g1205, g120L⟩ := id Xh119
              refine q_blk (lv2 := [(0, vr t), (1, vi 2), (2, vi 1), (3, vi i), (4, vi (kd e9))]) (st2 := [vi 42, vi (kd e9), vr t]) kX6_readTerm_56 rfl ?_
              refine AQ.ic_ne (tgt := 70) eX6_readTerm_62 (by decide) (by first | assumption | exact ⟨by omega, by omega⟩) ⟨by decide, by decide⟩ (fun br121 => ?_) (fun br121 => ?_)
              · skip
                refine q_blk (lv2 := [(0, vr t), (1, vi 2), (2, vi 1), (3, vi i), (4, vi (kd e9))]) (st2 := [vi (-9), vr t]) kX6_readTerm_70 rfl ?_
                refine AQ.callVv (av := [vi (-9)]) (st := []) (c_X6_addCode (v := (-9)) ⟨_, g1200, g1201, g1202, g1203, g1204, cj, g1205, g120L⟩ (by omega) (by omega)) lk_RX6_230 (by decide) rfl rfl ⟨_, _, _, g1200⟩ ⟨_, rfl, rfl⟩ (Nat.le_of_ble_eq_true rfl) eX6_readTerm_72 (fun h124 e123 => ?_)
                obtain ⟨Xh124, Fh124⟩ := e123
                obtain ⟨g125t, g1250, g1251, g1252, g1253, g1254, g125j, g1255, g125L⟩ := id Xh124
                refine q_blk (lv2 := [(0, vr t), (1, vi 2), (2, vi 1), (3, vi (i + 1)), (4, vi (kd e9))]) (st2 := []) kX6_readTerm_75 rfl ?_
                refine q_goto (tgt := 8) eX6_readTerm_78 (by decide) ?_
                refine q_sub (lv2 := [(0, vr t), (1, vi 2), (2, vi 1), (3, vi (i + 1))]) [0, 1, 2, 3] rfl ?_
                exact ih71 1 (i + 1) h124 (Lh119 ++ [(5, 0)]) hh119e hh119n (am_uI hh119c (Lh119.length : Int) (-9)) (⟨⟨by omega, by omega⟩, hfr.tr (((am_fr.rf.tr (am_fr.st e109 (by omega) (by omega))).tr Fh119).tr Fh124), Or.inl ⟨rfl, ⟨by omega, by omega, by simp; omega⟩, by rw [show 800 - (i + 1).toNat = 800 - i.toNat - 1 by omega]; exact (rJ_go (o := 5) (by omega) (by omega) qh119).symm.trans hJ9, Ch119.add (by unfold gm_en; simp), SU.cast ⟨_, g1250, g1251, g1252, g1253, g1254, cj, g1255, g125L⟩ (by simp)⟩⟩) (by omega)
              · skip
                refine q_blk (lv2 := [(0, vr t), (1, vi 2), (2, vi 1), (3, vi i), (4, vi (kd e9))]) (st2 := [vi (-8), vr t]) kX6_readTerm_65 rfl ?_
                refine q_goto (tgt := 72) eX6_readTerm_67 (by decide) ?_
                refine AQ.callVv (av := [vi (-8)]) (st := []) (c_X6_addCode (v := (-8)) ⟨_, g1200, g1201, g1202, g1203, g1204, cj, g1205, g120L⟩ (by omega) (by omega)) lk_RX6_230 (by decide) rfl rfl ⟨_, _, _, g1200⟩ ⟨_, rfl, rfl⟩ (Nat.le_of_ble_eq_true rfl) eX6_readTerm_72 (fun h128 e127 => ?_)
                obtain ⟨Xh128, Fh128⟩ := e127
                obtain ⟨g129t, g1290, g1291, g1292, g1293, g1294, g129j, g1295, g129L⟩ := id Xh128
                refine q_blk (lv2 := [(0, vr t), (1, vi 2), (2, vi 1), (3, vi (i + 1)), (4, vi (kd e9))]) (st2 := []) kX6_readTerm_75 rfl ?_
                refine q_goto (tgt := 8) eX6_readTerm_78 (by decide) ?_
                refine q_sub (lv2 := [(0, vr t), (1, vi 2), (2, vi 1), (3, vi (i + 1))]) [0, 1, 2, 3] rfl ?_
                exact ih71 1 (i + 1) h128 (Lh119 ++ [(4, 0)]) hh119e hh119n (am_uI hh119c (Lh119.length : Int) (-8)) (⟨⟨by omega, by omega⟩, hfr.tr (((am_fr.rf.tr (am_fr.st e109 (by omega) (by omega))).tr Fh119).tr Fh128), Or.inl ⟨rfl, ⟨by omega, by omega, by simp; omega⟩, by rw [show 800 - (i + 1).toNat = 800 - i.toNat - 1 by omega]; exact (rJ_go (o := 4) (by omega) (by omega) qh119).symm.trans hJ9, Ch119.add (by unfold gm_en; simp), SU.cast ⟨_, g1290, g1291, g1292, g1293, g1294, cj, g1295, g129L⟩ (by simp)⟩⟩) (by omega)
            · skip
              refine q_blk (lv2 := [(0, vr t), (1, vi 2), (2, vi 0), (3, vi i), (4, vi (kd e9))]) (st2 := [vi 42, vi (kd e9), vr t]) kX6_readTerm_56 rfl ?_
              refine AQ.ic_ne (tgt := 70) eX6_readTerm_62 (by decide) (by first | assumption | exact ⟨by omega, by omega⟩) ⟨by decide, by decide⟩ (fun br130 => ?_) (fun br130 => ?_)
              · skip
                refine q_blk (lv2 := [(0, vr t), (1, vi 2), (2, vi 0), (3, vi i), (4, vi (kd e9))]) (st2 := [vi (-9), vr t]) kX6_readTerm_70 rfl ?_
                refine AQ.callVv (av := [vi (-9)]) (st := []) (c_X6_addCodeF Xh119 (v := (-9))) lk_RX6_230 (by decide) rfl rfl (SF.ob Xh119) ⟨_, rfl, rfl⟩ (Nat.le_of_ble_eq_true rfl) eX6_readTerm_72 (fun h133 e132 => ?_)
                obtain ⟨Xh133, Fh133⟩ := e132
                refine q_blk (lv2 := [(0, vr t), (1, vi 2), (2, vi 0), (3, vi (i + 1)), (4, vi (kd e9))]) (st2 := []) kX6_readTerm_75 rfl ?_
                refine q_goto (tgt := 8) eX6_readTerm_78 (by decide) ?_
                refine q_sub (lv2 := [(0, vr t), (1, vi 2), (2, vi 0), (3, vi (i + 1))]) [0, 1, 2, 3] rfl ?_
                exact ih71 0 (i + 1) h133 L 0 0 cd (⟨⟨by omega, by omega⟩, hfr.tr (((am_fr.rf.tr (am_fr.st e109 (by omega) (by omega))).tr Fh119).tr Fh133), Or.inr ⟨rfl, _, _, hJ9.symm.trans (rJ_no (by omega) (by omega) qh119), Xh133⟩⟩) (by omega)
              · skip
                refine q_blk (lv2 := [(0, vr t), (1, vi 2), (2, vi 0), (3, vi i), (4, vi (kd e9))]) (st2 := [vi (-8), vr t]) kX6_readTerm_65 rfl ?_
                refine q_goto (tgt := 72) eX6_readTerm_67 (by decide) ?_
                refine AQ.callVv (av := [vi (-8)]) (st := []) (c_X6_addCodeF Xh119 (v := (-8))) lk_RX6_230 (by decide) rfl rfl (SF.ob Xh119) ⟨_, rfl, rfl⟩ (Nat.le_of_ble_eq_true rfl) eX6_readTerm_72 (fun h136 e135 => ?_)
                obtain ⟨Xh136, Fh136⟩ := e135
                refine q_blk (lv2 := [(0, vr t), (1, vi 2), (2, vi 0), (3, vi (i + 1)), (4, vi (kd e9))]) (st2 := []) kX6_readTerm_75 rfl ?_
                refine q_goto (tgt := 8) eX6_readTerm_78 (by decide) ?_
                refine q_sub (lv2 := [(0, vr t), (1, vi 2), (2, vi 0), (3, vi (i + 1))]) [0, 1, 2, 3] rfl ?_
                exact ih71 0 (i + 1) h136 L 0 0 cd (⟨⟨by omega, by omega⟩, hfr.tr (((am_fr.rf.tr (am_fr.st e109 (by omega) (by omega))).tr Fh119).tr Fh136), Or.inr ⟨rfl, _, _, hJ9.symm.trans (rJ_no (by omega) (by omega) qh119), Xh136⟩⟩) (by omega)
          · skip
            refine q_blk (lv2 := [(0, vr t), (1, vi 2), (2, vi g), (3, vi i), (4, vi (kd e9))]) (st2 := [vi 1]) kX6_readTerm_39 rfl ?_
            exact q_rz rfl eX6_readTerm_40 (by decide) ⟨1, rfl, Or.inl ⟨rfl, L9, e9, hJ9.symm.trans (rJ_end (Or.inr ⟨by omega, by omega⟩)), ⟨by omega, by omega, by omega⟩, _, _, ⟨_, w0, w1, w2, w3, w4, cj, w5, wL⟩, hL9⟩, hfr.tr am_fr.rf⟩

set_option maxHeartbeats 1000000 in
theorem c_X6_readSum2 {w : am_w} {h : AH} {L : GL} {t u b j : Nat} {kd st vl : Int → Int} {he nu px hs er ea : Int} {cd : Int → Int} (hS : SU h t u b j kd st vl he nu px (L.length : Int) hs er ea cd) {n : Int} (n0 : n ≤ 800) (kn : kd n = 0) (he0 : 0 ≤ he) (he1 : he ≤ n) (kr : ∀ i, 0 ≤ i → i < 801 → -5 ≤ kd i ∧ kd i ≤ 100) (vq : ∀ i, 0 ≤ i → i < 801 → 0 ≤ vl i ∧ vl i ≤ 10000) (hL : CL cd L) (hl : (L.length : Int) ≤ he)  : AE w m_X6_readSum 12 [vr t, vi 2] h (am_int (fun z h1 => ((z = 1 ∧ ∃ L' he', rU kd st vl 2 L he = .inr (L', he') ∧ (he < he' ∧ he' ≤ n ∧ (L'.length : Int) ≤ (L.length : Int) + (he' - he)) ∧ ∃ nu' cd', SU h1 t u b j kd st vl he' nu' px (L'.length : Int) hs er ea cd' ∧ CL cd' L') ∨ (z = 0 ∧ ∃ e a, rU kd st vl 2 L he = .inl (e, a) ∧ SF h1 t u b j kd st vl e a)) ∧ am_fr h h1 t (t + 7))) := by
  refine AE.of wf_X6_readSum (Nat.le_of_ble_eq_true rfl) (am_ok_z (fun z h1 q => by rcases q.1 with q | q; exact Or.inr q.1; exact Or.inl q.1)) ?_
  obtain ⟨tc, c0, c1, c2, c3, c4, cj, c5, cL⟩ := id hS
  have kr1 := kr he he0 (by omega)
  have vr1 := vq he he0 (by omega)
  have hen : kd he ≠ 0 → he ≠ n := fun q e9 => by rw [e9] at q; omega
  refine q_blk (lv2 := [(0, vr t), (1, vi 2)]) (st2 := [vi 2, vr t]) kX6_readSum_0 rfl ?_
  refine AQ.callVi (av := [vi 2]) (st := []) (c_X6_readTerm2 (L := L) ⟨_, c0, c1, c2, c3, c4, cj, c5, cL⟩ n0 kn (by omega) (by omega) kr vq hL (by omega)) lk_RX6_227 (by decide) rfl rfl ⟨_, _, _, c0⟩ ⟨_, rfl, rfl⟩ (Nat.le_of_ble_eq_true rfl) eX6_readSum_2 (fun z1 h3 e2 => ?_)
  rcases e2 with ⟨⟨rfl, Lh3, hh3e, qh3, ⟨bh3a, bh3b, bh3c⟩, hh3n, hh3c, Xh3, Ch3⟩ | ⟨rfl, eh3, ah3, qh3, Xh3⟩, Fh3⟩
  · skip
    obtain ⟨g4t, g40, g41, g42, g43, g44, g4j, g45, g4L⟩ := id Xh3
    refine q_blk (lv2 := [(0, vr t), (1, vi 2), (2, vi 1), (3, vi 0)]) (st2 := []) kX6_readSum_5 rfl ?_
    refine am_lp7 (I := fun (g : Int) (i : Int) (hh : AH) (L9 : GL) (e9 : Int) (v9 : Int) (c9 : Int → Int) => (0 ≤ i ∧ i ≤ 800) ∧ am_fr h hh t (t + 7) ∧ ((g = 1 ∧ (he < e9 ∧ e9 ≤ n ∧ (L9.length : Int) ≤ (L.length : Int) + (e9 - he)) ∧ rJ kd (rM kd st vl (some (rU kd st vl 1))) 43 45 2 3 (800 - i.toNat) L9 e9 = rU kd st vl 2 L he ∧ CL c9 L9 ∧ SU hh t u b j kd st vl e9 v9 px (L9.length : Int) hs er ea c9) ∨ (g = 0 ∧ ∃ e a, rU kd st vl 2 L he = .inl (e, a) ∧ SF hh t u b j kd st vl e a))) (μ := fun (g : Int) (i : Int) (hh : AH) (L9 : GL) (e9 : Int) (v9 : Int) (c9 : Int → Int) => (800 - i).toNat) (G := fun (g : Int) (i : Int) (hh : AH) (L9 : GL) (e9 : Int) (v9 : Int) (c9 : Int → Int) => AQ w m_X6_readSum 12 8 [(0, vr t), (1, vi 2), (2, vi g), (3, vi i)] [] hh (am_int (fun z h1 => ((z = 1 ∧ ∃ L' he', rU kd st vl 2 L he = .inr (L', he') ∧ (he < he' ∧ he' ≤ n ∧ (L'.length : Int) ≤ (L.length : Int) + (he' - he)) ∧ ∃ nu' cd', SU h1 t u b j kd st vl he' nu' px (L'.length : Int) hs er ea cd' ∧ CL cd' L') ∨ (z = 0 ∧ ∃ e a, rU kd st vl 2 L he = .inl (e, a) ∧ SF h1 t u b j kd st vl e a)) ∧ am_fr h h1 t (t + 7)))) ?_ 1 0 h3 Lh3 hh3e hh3n hh3c (⟨⟨by omega, by omega⟩, (am_fr.rf.tr Fh3), Or.inl ⟨rfl, ⟨by omega, by omega, by omega⟩, by rw [show (800 - (0 : Int).toNat : Nat) = 800 from rfl]; rw [rU_2]; rw [rB_r qh3], Ch3, ⟨_, g40, g41, g42, g43, g44, cj, g45, g4L⟩⟩⟩)
    intro g i hh L9 e9 v9 c9 hI6 ih5
    obtain ⟨⟨i0, i1⟩, hfr, hG⟩ := hI6
    have hg9 : g = 0 ∨ g = 1 := by rcases hG with q | q; exact Or.inr q.1; exact Or.inl q.1
    refine q_blk (lv2 := [(0, vr t), (1, vi 2), (2, vi g), (3, vi i)]) (st2 := [vi 800, vi i]) kX6_readSum_8 rfl ?_
    refine AQ.ic_ge (tgt := 81) eX6_readSum_12 (by decide) (by first | assumption | exact ⟨by omega, by omega⟩) ⟨by decide, by decide⟩ (fun br7 => ?_) (fun br7 => ?_)
    · skip
      refine q_blk (lv2 := [(0, vr t), (1, vi 2), (2, vi g), (3, vi i)]) (st2 := [vi g]) kX6_readSum_81 rfl ?_
      exact q_rz rfl eX6_readSum_82 (by omega) ⟨g, rfl, (by rcases hG with ⟨rfl, hb9, hJ9, hL9, hS9⟩ | hG; exact Or.inl ⟨rfl, L9, e9, hJ9.symm.trans (rJ_end (Or.inl (by omega))), hb9, _, _, hS9, hL9⟩; exact Or.inr hG), hfr⟩
    · skip
      refine q_blk (lv2 := [(0, vr t), (1, vi 2), (2, vi g), (3, vi i)]) (st2 := [vi g]) kX6_readSum_15 rfl ?_
      refine AQ.if_eq (tgt := 81) eX6_readSum_16 (by decide) (by first | assumption | exact ⟨by omega, by omega⟩) (fun br8 => ?_) (fun br8 => ?_)
      · skip
        refine q_blk (lv2 := [(0, vr t), (1, vi 2), (2, vi g), (3, vi i)]) (st2 := [vi g]) kX6_readSum_81 rfl ?_
        exact q_rz rfl eX6_readSum_82 (by omega) ⟨g, rfl, (by rcases hG with ⟨rfl, hb9, hJ9, hL9, hS9⟩ | hG; exact Or.inl ⟨rfl, L9, e9, hJ9.symm.trans (rJ_end (Or.inl (by omega))), hb9, _, _, hS9, hL9⟩; exact Or.inr hG), hfr⟩
      · skip
        obtain ⟨-, ⟨b9a, b9b, b9c⟩, hJ9, hL9, hS9⟩ := hG.resolve_right (fun q => absurd q.1 (by omega))
        obtain ⟨wt, w0, w1, w2, w3, w4, wj, w5, wL⟩ := id hS9
        have kr9 := kr e9 (by omega) (by omega)
        have hen9 : kd e9 ≠ 0 → e9 ≠ n := fun q e => by rw [e] at q; omega
        refine q_blk (lv2 := [(0, vr t), (1, vi 2), (2, vi g), (3, vi i)]) (st2 := [vr t]) kX6_readSum_19 rfl ?_
        refine q_Vi (av := []) (st := []) (c_X6_kindHere ⟨_, w0, w1, w2, w3, w4, cj, w5, wL⟩ (by omega) (by omega)) lk_RX6_70 (by decide) rfl rfl ⟨_, _, _, w0⟩ ⟨_, rfl, rfl⟩ (Nat.le_of_ble_eq_true rfl) eX6_readSum_20 (fun z9 e10 => ?_)
        subst e10
        refine q_blk (lv2 := [(0, vr t), (1, vi 2), (2, vi g), (3, vi i), (4, vi (kd e9))]) (st2 := [vi 43, vi (kd e9)]) kX6_readSum_23 rfl ?_
        refine AQ.ic_eq (tgt := 41) eX6_readSum_29 (by decide) (by first | assumption | exact ⟨by omega, by omega⟩) ⟨by decide, by decide⟩ (fun br11 => ?_) (fun br11 => ?_)
        · skip
          refine q_blk (lv2 := [(0, vr t), (1, vi 2), (2, vi g), (3, vi i), (4, vi (kd e9))]) (st2 := [vr t, vr t]) kX6_readSum_41 rfl ?_
          refine q_gi eX6_readSum_43 fl_RX6_28 (Or.inl rfl) w0 (z := e9) rfl ?_
          refine q_blk (lv2 := [(0, vr t), (1, vi 2), (2, vi g), (3, vi i), (4, vi (kd e9))]) (st2 := [vi (e9 + 1), vr t]) kX6_readSum_46 rfl ?_
          refine q_pi eX6_readSum_48 fl_RX6_28 (fun q hq => by cases hq; exact Or.inl rfl) (Or.inl rfl) w0 (Nat.le_of_ble_eq_true rfl) (l2 := [0, 0, 0, 0, 0, 0, 0, wt, (e9 + 1), v9, px, (L9.length : Int), hs, er, ea]) rfl (fun h12 e13 => ?_)
          have k14 := am_at e13
          have k15 := (am_ne e13 (t + 3) (by omega)).trans w1
          have k16 := (am_ne e13 (t + 4) (by omega)).trans w2
          have k17 := (am_ne e13 (t + 5) (by omega)).trans w3
          have k18 := (am_ne e13 (t + 6) (by omega)).trans w4
          have k19 := (am_ne e13 j (by omega)).trans w5
          have k20 := wL.kept (lo := t) (hi := t + 1) (am_fr.st e13 (by omega) (by omega)) (by omega)
          refine q_blk (lv2 := [(0, vr t), (1, vi 2), (2, vi g), (3, vi i), (4, vi (kd e9))]) (st2 := [vi 2, vr t]) kX6_readSum_51 rfl ?_
          refine AQ.callVi (av := [vi 2]) (st := []) (c_X6_readTerm2 (L := L9) ⟨_, k14, k15, k16, k17, k18, cj, k19, k20⟩ n0 kn (by omega) (by omega) kr vq hL9 (by omega)) lk_RX6_227 (by decide) rfl rfl ⟨_, _, _, k14⟩ ⟨_, rfl, rfl⟩ (Nat.le_of_ble_eq_true rfl) eX6_readSum_53 (fun z21 h23 e22 => ?_)
          rcases e22 with ⟨⟨rfl, Lh23, hh23e, qh23, ⟨bh23a, bh23b, bh23c⟩, hh23n, hh23c, Xh23, Ch23⟩ | ⟨rfl, eh23, ah23, qh23, Xh23⟩, Fh23⟩
          · skip
            obtain ⟨g24t, g240, g241, g242, g243, g244, g24j, g245, g24L⟩ := id Xh23
            refine q_blk (lv2 := [(0, vr t), (1, vi 2), (2, vi 1), (3, vi i), (4, vi (kd e9))]) (st2 := [vi 43, vi (kd e9), vr t]) kX6_readSum_56 rfl ?_
            refine AQ.ic_ne (tgt := 70) eX6_readSum_62 (by decide) (by first | assumption | exact ⟨by omega, by omega⟩) ⟨by decide, by decide⟩ (fun br25 => ?_) (fun br25 => ?_)
            · skip
              refine q_blk (lv2 := [(0, vr t), (1, vi 2), (2, vi 1), (3, vi i), (4, vi (kd e9))]) (st2 := [vi (-7), vr t]) kX6_readSum_70 rfl ?_
              refine AQ.callVv (av := [vi (-7)]) (st := []) (c_X6_addCode (v := (-7)) ⟨_, g240, g241, g242, g243, g244, cj, g245, g24L⟩ (by omega) (by omega)) lk_RX6_230 (by decide) rfl rfl ⟨_, _, _, g240⟩ ⟨_, rfl, rfl⟩ (Nat.le_of_ble_eq_true rfl) eX6_readSum_72 (fun h28 e27 => ?_)
              obtain ⟨Xh28, Fh28⟩ := e27
              obtain ⟨g29t, g290, g291, g292, g293, g294, g29j, g295, g29L⟩ := id Xh28
              refine q_blk (lv2 := [(0, vr t), (1, vi 2), (2, vi 1), (3, vi (i + 1)), (4, vi (kd e9))]) (st2 := []) kX6_readSum_75 rfl ?_
              refine q_goto (tgt := 8) eX6_readSum_78 (by decide) ?_
              refine q_sub (lv2 := [(0, vr t), (1, vi 2), (2, vi 1), (3, vi (i + 1))]) [0, 1, 2, 3] rfl ?_
              exact ih5 1 (i + 1) h28 (Lh23 ++ [(3, 0)]) hh23e hh23n (am_uI hh23c (Lh23.length : Int) (-7)) (⟨⟨by omega, by omega⟩, hfr.tr (((am_fr.rf.tr (am_fr.st e13 (by omega) (by omega))).tr Fh23).tr Fh28), Or.inl ⟨rfl, ⟨by omega, by omega, by simp; omega⟩, by rw [show 800 - (i + 1).toNat = 800 - i.toNat - 1 by omega]; exact (rJ_go (o := 3) (by omega) (by omega) qh23).symm.trans hJ9, Ch23.add (by unfold gm_en; simp), SU.cast ⟨_, g290, g291, g292, g293, g294, cj, g295, g29L⟩ (by simp)⟩⟩) (by omega)
            · skip
              refine q_blk (lv2 := [(0, vr t), (1, vi 2), (2, vi 1), (3, vi i), (4, vi (kd e9))]) (st2 := [vi (-6), vr t]) kX6_readSum_65 rfl ?_
              refine q_goto (tgt := 72) eX6_readSum_67 (by decide) ?_
              refine AQ.callVv (av := [vi (-6)]) (st := []) (c_X6_addCode (v := (-6)) ⟨_, g240, g241, g242, g243, g244, cj, g245, g24L⟩ (by omega) (by omega)) lk_RX6_230 (by decide) rfl rfl ⟨_, _, _, g240⟩ ⟨_, rfl, rfl⟩ (Nat.le_of_ble_eq_true rfl) eX6_readSum_72 (fun h32 e31 => ?_)
              obtain ⟨Xh32, Fh32⟩ := e31
              obtain ⟨g33t, g330, g331, g332, g333, g334, g33j, g335, g33L⟩ := id Xh32
              refine q_blk (lv2 := [(0, vr t), (1, vi 2), (2, vi 1), (3, vi (i + 1)), (4, vi (kd e9))]) (st2 := []) kX6_readSum_75 rfl ?_
              refine q_goto (tgt := 8) eX6_readSum_78 (by decide) ?_
              refine q_sub (lv2 := [(0, vr t), (1, vi 2), (2, vi 1), (3, vi (i + 1))]) [0, 1, 2, 3] rfl ?_
              exact ih5 1 (i + 1) h32 (Lh23 ++ [(2, 0)]) hh23e hh23n (am_uI hh23c (Lh23.length : Int) (-6)) (⟨⟨by omega, by omega⟩, hfr.tr (((am_fr.rf.tr (am_fr.st e13 (by omega) (by omega))).tr Fh23).tr Fh32), Or.inl ⟨rfl, ⟨by omega, by omega, by simp; omega⟩, by rw [show 800 - (i + 1).toNat = 800 - i.toNat - 1 by omega]; exact (rJ_go (o := 2) (by omega) (by omega) qh23).symm.trans hJ9, Ch23.add (by unfold gm_en; simp), SU.cast ⟨_, g330, g331, g332, g333, g334, cj, g335, g33L⟩ (by simp)⟩⟩) (by omega)
          · skip
            refine q_blk (lv2 := [(0, vr t), (1, vi 2), (2, vi 0), (3, vi i), (4, vi (kd e9))]) (st2 := [vi 43, vi (kd e9), vr t]) kX6_readSum_56 rfl ?_
            refine AQ.ic_ne (tgt := 70) eX6_readSum_62 (by decide) (by first | assumption | exact ⟨by omega, by omega⟩) ⟨by decide, by decide⟩ (fun br34 => ?_) (fun br34 => ?_)
            · skip
              refine q_blk (lv2 := [(0, vr t), (1, vi 2), (2, vi 0), (3, vi i), (4, vi (kd e9))]) (st2 := [vi (-7), vr t]) kX6_readSum_70 rfl ?_
              refine AQ.callVv (av := [vi (-7)]) (st := []) (c_X6_addCodeF Xh23 (v := (-7))) lk_RX6_230 (by decide) rfl rfl (SF.ob Xh23) ⟨_, rfl, rfl⟩ (Nat.le_of_ble_eq_true rfl) eX6_readSum_72 (fun h37 e36 => ?_)
              obtain ⟨Xh37, Fh37⟩ := e36
              refine q_blk (lv2 := [(0, vr t), (1, vi 2), (2, vi 0), (3, vi (i + 1)), (4, vi (kd e9))]) (st2 := []) kX6_readSum_75 rfl ?_
              refine q_goto (tgt := 8) eX6_readSum_78 (by decide) ?_
              refine q_sub (lv2 := [(0, vr t), (1, vi 2), (2, vi 0), (3, vi (i + 1))]) [0, 1, 2, 3] rfl ?_
              exact ih5 0 (i + 1) h37 L 0 0 cd (⟨⟨by omega, by omega⟩, hfr.tr (((am_fr.rf.tr (am_fr.st e13 (by omega) (by omega))).tr Fh23).tr Fh37), Or.inr ⟨rfl, _, _, hJ9.symm.trans (rJ_no (by omega) (by omega) qh23), Xh37⟩⟩) (by omega)
            · skip
              refine q_blk (lv2 := [(0, vr t), (1, vi 2), (2, vi 0), (3, vi i), (4, vi (kd e9))]) (st2 := [vi (-6), vr t]) kX6_readSum_65 rfl ?_
              refine q_goto (tgt := 72) eX6_readSum_67 (by decide) ?_
              refine AQ.callVv (av := [vi (-6)]) (st := []) (c_X6_addCodeF Xh23 (v := (-6))) lk_RX6_230 (by decide) rfl rfl (SF.ob Xh23) ⟨_, rfl, rfl⟩ (Nat.le_of_ble_eq_true rfl) eX6_readSum_72 (fun h40 e39 => ?_)
              obtain ⟨Xh40, Fh40⟩ := e39
              refine q_blk (lv2 := [(0, vr t), (1, vi 2), (2, vi 0), (3, vi (i + 1)), (4, vi (kd e9))]) (st2 := []) kX6_readSum_75 rfl ?_
              refine q_goto (tgt := 8) eX6_readSum_78 (by decide) ?_
              refine q_sub (lv2 := [(0, vr t), (1, vi 2), (2, vi 0), (3, vi (i + 1))]) [0, 1, 2, 3] rfl ?_
              exact ih5 0 (i + 1) h40 L 0 0 cd (⟨⟨by omega, by omega⟩, hfr.tr (((am_fr.rf.tr (am_fr.st e13 (by omega) (by omega))).tr Fh23).tr Fh40), Or.inr ⟨rfl, _, _, hJ9.symm.trans (rJ_no (by omega) (by omega) qh23), Xh40⟩⟩) (by omega)
        · skip
          refine q_blk (lv2 := [(0, vr t), (1, vi 2), (2, vi g), (3, vi i), (4, vi (kd e9))]) (st2 := [vi 45, vi (kd e9)]) kX6_readSum_32 rfl ?_
          refine AQ.ic_eq (tgt := 41) eX6_readSum_36 (by decide) (by first | assumption | exact ⟨by omega, by omega⟩) ⟨by decide, by decide⟩ (fun br41 => ?_) (fun br41 => ?_)
          · skip
            refine q_blk (lv2 := [(0, vr t), (1, vi 2), (2, vi g), (3, vi i), (4, vi (kd e9))]) (st2 := [vr t, vr t]) kX6_readSum_41 rfl ?_
            refine q_gi eX6_readSum_43 fl_RX6_28 (Or.inl rfl) w0 (z := e9) rfl ?_
            refine q_blk (lv2 := [(0, vr t), (1, vi 2), (2, vi g), (3, vi i), (4, vi (kd e9))]) (st2 := [vi (e9 + 1), vr t]) kX6_readSum_46 rfl ?_
            refine q_pi eX6_readSum_48 fl_RX6_28 (fun q hq => by cases hq; exact Or.inl rfl) (Or.inl rfl) w0 (Nat.le_of_ble_eq_true rfl) (l2 := [0, 0, 0, 0, 0, 0, 0, wt, (e9 + 1), v9, px, (L9.length : Int), hs, er, ea]) rfl (fun h42 e43 => ?_)
            have k44 := am_at e43
            have k45 := (am_ne e43 (t + 3) (by omega)).trans w1
            have k46 := (am_ne e43 (t + 4) (by omega)).trans w2
            have k47 := (am_ne e43 (t + 5) (by omega)).trans w3
            have k48 := (am_ne e43 (t + 6) (by omega)).trans w4
            have k49 := (am_ne e43 j (by omega)).trans w5
            have k50 := wL.kept (lo := t) (hi := t + 1) (am_fr.st e43 (by omega) (by omega)) (by omega)
            refine q_blk (lv2 := [(0, vr t), (1, vi 2), (2, vi g), (3, vi i), (4, vi (kd e9))]) (st2 := [vi 2, vr t]) kX6_readSum_51 rfl ?_
            refine AQ.callVi (av := [vi 2]) (st := []) (c_X6_readTerm2 (L := L9) ⟨_, k44, k45, k46, k47, k48, cj, k49, k50⟩ n0 kn (by omega) (by omega) kr vq hL9 (by omega)) lk_RX6_227 (by decide) rfl rfl ⟨_, _, _, k44⟩ ⟨_, rfl, rfl⟩ (Nat.le_of_ble_eq_true rfl) eX6_readSum_53 (fun z51 h53 e52 => ?_)
            rcases e52 with ⟨⟨rfl, Lh53, hh53e, qh53, ⟨bh53a, bh53b, bh53c⟩, hh53n, hh53c, Xh53, Ch53⟩ | ⟨rfl, eh53, ah53, qh53, Xh53⟩, Fh53⟩
            · skip
              obtain ⟨g54t, g540, g541, g542, g543, g544, g54j, g545, g54L⟩ := id Xh53
              refine q_blk (lv2 := [(0, vr t), (1, vi 2), (2, vi 1), (3, vi i), (4, vi (kd e9))]) (st2 := [vi 43, vi (kd e9), vr t]) kX6_readSum_56 rfl ?_
              refine AQ.ic_ne (tgt := 70) eX6_readSum_62 (by decide) (by first | assumption | exact ⟨by omega, by omega⟩) ⟨by decide, by decide⟩ (fun br55 => ?_) (fun br55 => ?_)
              · skip
                refine q_blk (lv2 := [(0, vr t), (1, vi 2), (2, vi 1), (3, vi i), (4, vi (kd e9))]) (st2 := [vi (-7), vr t]) kX6_readSum_70 rfl ?_
                refine AQ.callVv (av := [vi (-7)]) (st := []) (c_X6_addCode (v := (-7)) ⟨_, g540, g541, g542, g543, g544, cj, g545, g54L⟩ (by omega) (by omega)) lk_RX6_230 (by decide) rfl rfl ⟨_, _, _, g540⟩ ⟨_, rfl, rfl⟩ (Nat.le_of_ble_eq_true rfl) eX6_readSum_72 (fun h58 e57 => ?_)
                obtain ⟨Xh58, Fh58⟩ := e57
                obtain ⟨g59t, g590, g591, g592, g593, g594, g59j, g595, g59L⟩ := id Xh58
                refine q_blk (lv2 := [(0, vr t), (1, vi 2), (2, vi 1), (3, vi (i + 1)), (4, vi (kd e9))]) (st2 := []) kX6_readSum_75 rfl ?_
                refine q_goto (tgt := 8) eX6_readSum_78 (by decide) ?_
                refine q_sub (lv2 := [(0, vr t), (1, vi 2), (2, vi 1), (3, vi (i + 1))]) [0, 1, 2, 3] rfl ?_
                exact ih5 1 (i + 1) h58 (Lh53 ++ [(3, 0)]) hh53e hh53n (am_uI hh53c (Lh53.length : Int) (-7)) (⟨⟨by omega, by omega⟩, hfr.tr (((am_fr.rf.tr (am_fr.st e43 (by omega) (by omega))).tr Fh53).tr Fh58), Or.inl ⟨rfl, ⟨by omega, by omega, by simp; omega⟩, by rw [show 800 - (i + 1).toNat = 800 - i.toNat - 1 by omega]; exact (rJ_go (o := 3) (by omega) (by omega) qh53).symm.trans hJ9, Ch53.add (by unfold gm_en; simp), SU.cast ⟨_, g590, g591, g592, g593, g594, cj, g595, g59L⟩ (by simp)⟩⟩) (by omega)
              · skip
                refine q_blk (lv2 := [(0, vr t), (1, vi 2), (2, vi 1), (3, vi i), (4, vi (kd e9))]) (st2 := [vi (-6), vr t]) kX6_readSum_65 rfl ?_
                refine q_goto (tgt := 72) eX6_readSum_67 (by decide) ?_
                refine AQ.callVv (av := [vi (-6)]) (st := []) (c_X6_addCode (v := (-6)) ⟨_, g540, g541, g542, g543, g544, cj, g545, g54L⟩ (by omega) (by omega)) lk_RX6_230 (by decide) rfl rfl ⟨_, _, _, g540⟩ ⟨_, rfl, rfl⟩ (Nat.le_of_ble_eq_true rfl) eX6_readSum_72 (fun h62 e61 => ?_)
                obtain ⟨Xh62, Fh62⟩ := e61
                obtain ⟨g63t, g630, g631, g632, g633, g634, g63j, g635, g63L⟩ := id Xh62
                refine q_blk (lv2 := [(0, vr t), (1, vi 2), (2, vi 1), (3, vi (i + 1)), (4, vi (kd e9))]) (st2 := []) kX6_readSum_75 rfl ?_
                refine q_goto (tgt := 8) eX6_readSum_78 (by decide) ?_
                refine q_sub (lv2 := [(0, vr t), (1, vi 2), (2, vi 1), (3, vi (i + 1))]) [0, 1, 2, 3] rfl ?_
                exact ih5 1 (i + 1) h62 (Lh53 ++ [(2, 0)]) hh53e hh53n (am_uI hh53c (Lh53.length : Int) (-6)) (⟨⟨by omega, by omega⟩, hfr.tr (((am_fr.rf.tr (am_fr.st e43 (by omega) (by omega))).tr Fh53).tr Fh62), Or.inl ⟨rfl, ⟨by omega, by omega, by simp; omega⟩, by rw [show 800 - (i + 1).toNat = 800 - i.toNat - 1 by omega]; exact (rJ_go (o := 2) (by omega) (by omega) qh53).symm.trans hJ9, Ch53.add (by unfold gm_en; simp), SU.cast ⟨_, g630, g631, g632, g633, g634, cj, g635, g63L⟩ (by simp)⟩⟩) (by omega)
            · skip
              refine q_blk (lv2 := [(0, vr t), (1, vi 2), (2, vi 0), (3, vi i), (4, vi (kd e9))]) (st2 := [vi 43, vi (kd e9), vr t]) kX6_readSum_56 rfl ?_
              refine AQ.ic_ne (tgt := 70) eX6_readSum_62 (by decide) (by first | assumption | exact ⟨by omega, by omega⟩) ⟨by decide, by decide⟩ (fun br64 => ?_) (fun br64 => ?_)
              · skip
                refine q_blk (lv2 := [(0, vr t), (1, vi 2), (2, vi 0), (3, vi i), (4, vi (kd e9))]) (st2 := [vi (-7), vr t]) kX6_readSum_70 rfl ?_
                refine AQ.callVv (av := [vi (-7)]) (st := []) (c_X6_addCodeF Xh53 (v := (-7))) lk_RX6_230 (by decide) rfl rfl (SF.ob Xh53) ⟨_, rfl, rfl⟩ (Nat.le_of_ble_eq_true rfl) eX6_readSum_72 (fun h67 e66 => ?_)
                obtain ⟨Xh67, Fh67⟩ := e66
                refine q_blk (lv2 := [(0, vr t), (1, vi 2), (2, vi 0), (3, vi (i + 1)), (4, vi (kd e9))]) (st2 := []) kX6_readSum_75 rfl ?_
                refine q_goto (tgt := 8) eX6_readSum_78 (by decide) ?_
                refine q_sub (lv2 := [(0, vr t), (1, vi 2), (2, vi 0), (3, vi (i + 1))]) [0, 1, 2, 3] rfl ?_
                exact ih5 0 (i + 1) h67 L 0 0 cd (⟨⟨by omega, by omega⟩, hfr.tr (((am_fr.rf.tr (am_fr.st e43 (by omega) (by omega))).tr Fh53).tr Fh67), Or.inr ⟨rfl, _, _, hJ9.symm.trans (rJ_no (by omega) (by omega) qh53), Xh67⟩⟩) (by omega)
              · skip
                refine q_blk (lv2 := [(0, vr t), (1, vi 2), (2, vi 0), (3, vi i), (4, vi (kd e9))]) (st2 := [vi (-6), vr t]) kX6_readSum_65 rfl ?_
                refine q_goto (tgt := 72) eX6_readSum_67 (by decide) ?_
                refine AQ.callVv (av := [vi (-6)]) (st := []) (c_X6_addCodeF Xh53 (v := (-6))) lk_RX6_230 (by decide) rfl rfl (SF.ob Xh53) ⟨_, rfl, rfl⟩ (Nat.le_of_ble_eq_true rfl) eX6_readSum_72 (fun h70 e69 => ?_)
                obtain ⟨Xh70, Fh70⟩ := e69
                refine q_blk (lv2 := [(0, vr t), (1, vi 2), (2, vi 0), (3, vi (i + 1)), (4, vi (kd e9))]) (st2 := []) kX6_readSum_75 rfl ?_
                refine q_goto (tgt := 8) eX6_readSum_78 (by decide) ?_
                refine q_sub (lv2 := [(0, vr t), (1, vi 2), (2, vi 0), (3, vi (i + 1))]) [0, 1, 2, 3] rfl ?_
                exact ih5 0 (i + 1) h70 L 0 0 cd (⟨⟨by omega, by omega⟩, hfr.tr (((am_fr.rf.tr (am_fr.st e43 (by omega) (by omega))).tr Fh53).tr Fh70), Or.inr ⟨rfl, _, _, hJ9.symm.trans (rJ_no (by omega) (by omega) qh53), Xh70⟩⟩) (by omega)
          · skip
            refine q_blk (lv2 := [(0, vr t), (1, vi 2), (2, vi g), (3, vi i), (4, vi (kd e9))]) (st2 := [vi 1]) kX6_readSum_39 rfl ?_
            exact q_rz rfl eX6_readSum_40 (by decide) ⟨1, rfl, Or.inl ⟨rfl, L9, e9, hJ9.symm.trans (rJ_end (Or.inr ⟨by omega, by omega⟩)), ⟨by omega, by omega, by omega⟩, _, _, ⟨_, w0, w1, w2, w3, w4, cj, w5, wL⟩, hL9⟩, hfr.tr am_fr.rf⟩
  · skip
    refine q_blk (lv2 := [(0, vr t), (1, vi 2), (2, vi 0), (3, vi 0)]) (st2 := []) kX6_readSum_5 rfl ?_
    refine am_lp7 (I := fun (g : Int) (i : Int) (hh : AH) (L9 : GL) (e9 : Int) (v9 : Int) (c9 : Int → Int) => (0 ≤ i ∧ i ≤ 800) ∧ am_fr h hh t (t + 7) ∧ ((g = 1 ∧ (he < e9 ∧ e9 ≤ n ∧ (L9.length : Int) ≤ (L.length : Int) + (e9 - he)) ∧ rJ kd (rM kd st vl (some (rU kd st vl 1))) 43 45 2 3 (800 - i.toNat) L9 e9 = rU kd st vl 2 L he ∧ CL c9 L9 ∧ SU hh t u b j kd st vl e9 v9 px (L9.length : Int) hs er ea c9) ∨ (g = 0 ∧ ∃ e a, rU kd st vl 2 L he = .inl (e, a) ∧ SF hh t u b j kd st vl e a))) (μ := fun (g : Int) (i : Int) (hh : AH) (L9 : GL) (e9 : Int) (v9 : Int) (c9 : Int → Int) => (800 - i).toNat) (G := fun (g : Int) (i : Int) (hh : AH) (L9 : GL) (e9 : Int) (v9 : Int) (c9 : Int → Int) => AQ w m_X6_readSum 12 8 [(0, vr t), (1, vi 2), (2, vi g), (3, vi i)] [] hh (am_int (fun z h1 => ((z = 1 ∧ ∃ L' he', rU kd st vl 2 L he = .inr (L', he') ∧ (he < he' ∧ he' ≤ n ∧ (L'.length : Int) ≤ (L.length : Int) + (he' - he)) ∧ ∃ nu' cd', SU h1 t u b j kd st vl he' nu' px (L'.length : Int) hs er ea cd' ∧ CL cd' L') ∨ (z = 0 ∧ ∃ e a, rU kd st vl 2 L he = .inl (e, a) ∧ SF h1 t u b j kd st vl e a)) ∧ am_fr h h1 t (t + 7)))) ?_ 0 0 h3 L 0 0 cd (⟨⟨by omega, by omega⟩, (am_fr.rf.tr Fh3), Or.inr ⟨rfl, _, _, by rw [rU_2]; exact rB_l qh3 _, Xh3⟩⟩)
    intro g i hh L9 e9 v9 c9 hI72 ih71
    obtain ⟨⟨i0, i1⟩, hfr, hG⟩ := hI72
    have hg9 : g = 0 ∨ g = 1 := by rcases hG with q | q; exact Or.inr q.1; exact Or.inl q.1
    refine q_blk (lv2 := [(0, vr t), (1, vi 2), (2, vi g), (3, vi i)]) (st2 := [vi 800, vi i]) kX6_readSum_8 rfl ?_
    refine AQ.ic_ge (tgt := 81) eX6_readSum_12 (by decide) (by first | assumption | exact ⟨by omega, by omega⟩) ⟨by decide, by decide⟩ (fun br73 => ?_) (fun br73 => ?_)
    · skip
      refine q_blk (lv2 := [(0, vr t), (1, vi 2), (2, vi g), (3, vi i)]) (st2 := [vi g]) kX6_readSum_81 rfl ?_
      exact q_rz rfl eX6_readSum_82 (by omega) ⟨g, rfl, (by rcases hG with ⟨rfl, hb9, hJ9, hL9, hS9⟩ | hG; exact Or.inl ⟨rfl, L9, e9, hJ9.symm.trans (rJ_end (Or.inl (by omega))), hb9, _, _, hS9, hL9⟩; exact Or.inr hG), hfr⟩
    · skip
      refine q_blk (lv2 := [(0, vr t), (1, vi 2), (2, vi g), (3, vi i)]) (st2 := [vi g]) kX6_readSum_15 rfl ?_
      refine AQ.if_eq (tgt := 81) eX6_readSum_16 (by decide) (by first | assumption | exact ⟨by omega, by omega⟩) (fun br74 => ?_) (fun br74 => ?_)
      · skip
        refine q_blk (lv2 := [(0, vr t), (1, vi 2), (2, vi g), (3, vi i)]) (st2 := [vi g]) kX6_readSum_81 rfl ?_
        exact q_rz rfl eX6_readSum_82 (by omega) ⟨g, rfl, (by rcases hG with ⟨rfl, hb9, hJ9, hL9, hS9⟩ | hG; exact Or.inl ⟨rfl, L9, e9, hJ9.symm.trans (rJ_end (Or.inl (by omega))), hb9, _, _, hS9, hL9⟩; exact Or.inr hG), hfr⟩
      · skip
        obtain ⟨-, ⟨b9a, b9b, b9c⟩, hJ9, hL9, hS9⟩ := hG.resolve_right (fun q => absurd q.1 (by omega))
        obtain ⟨wt, w0, w1, w2, w3, w4, wj, w5, wL⟩ := id hS9
        have kr9 := kr e9 (by omega) (by omega)
        have hen9 : kd e9 ≠ 0 → e9 ≠ n := fun q e => by rw [e] at q; omega
        refine q_blk (lv2 := [(0, vr t), (1, vi 2), (2, vi g), (3, vi i)]) (st2 := [vr t]) kX6_readSum_19 rfl ?_
        refine q_Vi (av := []) (st := []) (c_X6_kindHere ⟨_, w0, w1, w2, w3, w4, cj, w5, wL⟩ (by omega) (by omega)) lk_RX6_70 (by decide) rfl rfl ⟨_, _, _, w0⟩ ⟨_, rfl, rfl⟩ (Nat.le_of_ble_eq_true rfl) eX6_readSum_20 (fun z75 e76 => ?_)
        subst e76
        refine q_blk (lv2 := [(0, vr t), (1, vi 2), (2, vi g), (3, vi i), (4, vi (kd e9))]) (st2 := [vi 43, vi (kd e9)]) kX6_readSum_23 rfl ?_
        refine AQ.ic_eq (tgt := 41) eX6_readSum_29 (by decide) (by first | assumption | exact ⟨by omega, by omega⟩) ⟨by decide, by decide⟩ (fun br77 => ?_) (fun br77 => ?_)
        · skip
          refine q_blk (lv2 := [(0, vr t), (1, vi 2), (2, vi g), (3, vi i), (4, vi (kd e9))]) (st2 := [vr t, vr t]) kX6_readSum_41 rfl ?_
          refine q_gi eX6_readSum_43 fl_RX6_28 (Or.inl rfl) w0 (z := e9) rfl ?_
          refine q_blk (lv2 := [(0, vr t), (1, vi 2), (2, vi g), (3, vi i), (4, vi (kd e9))]) (st2 := [vi (e9 + 1), vr t]) kX6_readSum_46 rfl ?_
          refine q_pi eX6_readSum_48 fl_RX6_28 (fun q hq => by cases hq; exact Or.inl rfl) (Or.inl rfl) w0 (Nat.le_of_ble_eq_true rfl) (l2 := [0, 0, 0, 0, 0, 0, 0, wt, (e9 + 1), v9, px, (L9.length : Int), hs, er, ea]) rfl (fun h78 e79 => ?_)
          have k80 := am_at e79
          have k81 := (am_ne e79 (t + 3) (by omega)).trans w1
          have k82 := (am_ne e79 (t + 4) (by omega)).trans w2
          have k83 := (am_ne e79 (t + 5) (by omega)).trans w3
          have k84 := (am_ne e79 (t + 6) (by omega)).trans w4
          have k85 := (am_ne e79 j (by omega)).trans w5
          have k86 := wL.kept (lo := t) (hi := t + 1) (am_fr.st e79 (by omega) (by omega)) (by omega)
          refine q_blk (lv2 := [(0, vr t), (1, vi 2), (2, vi g), (3, vi i), (4, vi (kd e9))]) (st2 := [vi 2, vr t]) kX6_readSum_51 rfl ?_
          refine AQ.callVi (av := [vi 2]) (st := []) (c_X6_readTerm2 (L := L9) ⟨_, k80, k81, k82, k83, k84, cj, k85, k86⟩ n0 kn (by omega) (by omega) kr vq hL9 (by omega)) lk_RX6_227 (by decide) rfl rfl ⟨_, _, _, k80⟩ ⟨_, rfl, rfl⟩ (Nat.le_of_ble_eq_true rfl) eX6_readSum_53 (fun z87 h89 e88 => ?_)
          rcases e88 with ⟨⟨rfl, Lh89, hh89e, qh89, ⟨bh89a, bh89b, bh89c⟩, hh89n, hh89c, Xh89, Ch89⟩ | ⟨rfl, eh89, ah89, qh89, Xh89⟩, Fh89⟩
          · skip
            obtain ⟨g90t, g900, g901, g902, g903, g904, g90j, g905, g90L⟩ := id Xh89
            refine q_blk (lv2 := [(0, vr t), (1, vi 2), (2, vi 1), (3, vi i), (4, vi (kd e9))]) (st2 := [vi 43, vi (kd e9), vr t]) kX6_readSum_56 rfl ?_
            refine AQ.ic_ne (tgt := 70) eX6_readSum_62 (by decide) (by first | assumption | exact ⟨by omega, by omega⟩) ⟨by decide, by decide⟩ (fun br91 => ?_) (fun br91 => ?_)
            · skip
              refine q_blk (lv2 := [(0, vr t), (1, vi 2), (2, vi 1), (3, vi i), (4, vi (kd e9))]) (st2 := [vi (-7), vr t]) kX6_readSum_70 rfl ?_
              refine AQ.callVv (av := [vi (-7)]) (st := []) (c_X6_addCode (v := (-7)) ⟨_, g900, g901, g902, g903, g904, cj, g905, g90L⟩ (by omega) (by omega)) lk_RX6_230 (by decide) rfl rfl ⟨_, _, _, g900⟩ ⟨_, rfl, rfl⟩ (Nat.le_of_ble_eq_true rfl) eX6_readSum_72 (fun h94 e93 => ?_)
              obtain ⟨Xh94, Fh94⟩ := e93
              obtain ⟨g95t, g950, g951, g952, g953, g954, g95j, g955, g95L⟩ := id Xh94
              refine q_blk (lv2 := [(0, vr t), (1, vi 2), (2, vi 1), (3, vi (i + 1)), (4, vi (kd e9))]) (st2 := []) kX6_readSum_75 rfl ?_
              refine q_goto (tgt := 8) eX6_readSum_78 (by decide) ?_
              refine q_sub (lv2 := [(0, vr t), (1, vi 2), (2, vi 1), (3, vi (i + 1))]) [0, 1, 2, 3] rfl ?_
              exact ih71 1 (i + 1) h94 (Lh89 ++ [(3, 0)]) hh89e hh89n (am_uI hh89c (Lh89.length : Int) (-7)) (⟨⟨by omega, by omega⟩, hfr.tr (((am_fr.rf.tr (am_fr.st e79 (by omega) (by omega))).tr Fh89).tr Fh94), Or.inl ⟨rfl, ⟨by omega, by omega, by simp; omega⟩, by rw [show 800 - (i + 1).toNat = 800 - i.toNat - 1 by omega]; exact (rJ_go (o := 3) (by omega) (by omega) qh89).symm.trans hJ9, Ch89.add (by unfold gm_en; simp), SU.cast ⟨_, g950, g951, g952, g953, g954, cj, g955, g95L⟩ (by simp)⟩⟩) (by omega)
            · skip
              refine q_blk (lv2 := [(0, vr t), (1, vi 2), (2, vi 1), (3, vi i), (4, vi (kd e9))]) (st2 := [vi (-6), vr t]) kX6_readSum_65 rfl ?_
              refine q_goto (tgt := 72) eX6_readSum_67 (by decide) ?_
              refine AQ.callVv (av := [vi (-6)]) (st := []) (c_X6_addCode (v := (-6)) ⟨_, g900, g901, g902, g903, g904, cj, g905, g90L⟩ (by omega) (by omega)) lk_RX6_230 (by decide) rfl rfl ⟨_, _, _, g900⟩ ⟨_, rfl, rfl⟩ (Nat.le_of_ble_eq_true rfl) eX6_readSum_72 (fun h98 e97 => ?_)
              obtain ⟨Xh98, Fh98⟩ := e97
              obtain ⟨g99t, g990, g991, g992, g993, g994, g99j, g995, g99L⟩ := id Xh98
              refine q_blk (lv2 := [(0, vr t), (1, vi 2), (2, vi 1), (3, vi (i + 1)), (4, vi (kd e9))]) (st2 := []) kX6_readSum_75 rfl ?_
              refine q_goto (tgt := 8) eX6_readSum_78 (by decide) ?_
              refine q_sub (lv2 := [(0, vr t), (1, vi 2), (2, vi 1), (3, vi (i + 1))]) [0, 1, 2, 3] rfl ?_
              exact ih71 1 (i + 1) h98 (Lh89 ++ [(2, 0)]) hh89e hh89n (am_uI hh89c (Lh89.length : Int) (-6)) (⟨⟨by omega, by omega⟩, hfr.tr (((am_fr.rf.tr (am_fr.st e79 (by omega) (by omega))).tr Fh89).tr Fh98), Or.inl ⟨rfl, ⟨by omega, by omega, by simp; omega⟩, by rw [show 800 - (i + 1).toNat = 800 - i.toNat - 1 by omega]; exact (rJ_go (o := 2) (by omega) (by omega) qh89).symm.trans hJ9, Ch89.add (by unfold gm_en; simp), SU.cast ⟨_, g990, g991, g992, g993, g994, cj, g995, g99L⟩ (by simp)⟩⟩) (by omega)
          · skip
            refine q_blk (lv2 := [(0, vr t), (1, vi 2), (2, vi 0), (3, vi i), (4, vi (kd e9))]) (st2 := [vi 43, vi (kd e9), vr t]) kX6_readSum_56 rfl ?_
            refine AQ.ic_ne (tgt := 70) eX6_readSum_62 (by decide) (by first | assumption | exact ⟨by omega, by omega⟩) ⟨by decide, by decide⟩ (fun br100 => ?_) (fun br100 => ?_)
            · skip
              refine q_blk (lv2 := [(0, vr t), (1, vi 2), (2, vi 0), (3, vi i), (4, vi (kd e9))]) (st2 := [vi (-7), vr t]) kX6_readSum_70 rfl ?_
              refine AQ.callVv (av := [vi (-7)]) (st := []) (c_X6_addCodeF Xh89 (v := (-7))) lk_RX6_230 (by decide) rfl rfl (SF.ob Xh89) ⟨_, rfl, rfl⟩ (Nat.le_of_ble_eq_true rfl) eX6_readSum_72 (fun h103 e102 => ?_)
              obtain ⟨Xh103, Fh103⟩ := e102
              refine q_blk (lv2 := [(0, vr t), (1, vi 2), (2, vi 0), (3, vi (i + 1)), (4, vi (kd e9))]) (st2 := []) kX6_readSum_75 rfl ?_
              refine q_goto (tgt := 8) eX6_readSum_78 (by decide) ?_
              refine q_sub (lv2 := [(0, vr t), (1, vi 2), (2, vi 0), (3, vi (i + 1))]) [0, 1, 2, 3] rfl ?_
              exact ih71 0 (i + 1) h103 L 0 0 cd (⟨⟨by omega, by omega⟩, hfr.tr (((am_fr.rf.tr (am_fr.st e79 (by omega) (by omega))).tr Fh89).tr Fh103), Or.inr ⟨rfl, _, _, hJ9.symm.trans (rJ_no (by omega) (by omega) qh89), Xh103⟩⟩) (by omega)
            · skip
              refine q_blk (lv2 := [(0, vr t), (1, vi 2), (2, vi 0), (3, vi i), (4, vi (kd e9))]) (st2 := [vi (-6), vr t]) kX6_readSum_65 rfl ?_
              refine q_goto (tgt := 72) eX6_readSum_67 (by decide) ?_
              refine AQ.callVv (av := [vi (-6)]) (st := []) (c_X6_addCodeF Xh89 (v := (-6))) lk_RX6_230 (by decide) rfl rfl (SF.ob Xh89) ⟨_, rfl, rfl⟩ (Nat.le_of_ble_eq_true rfl) eX6_readSum_72 (fun h106 e105 => ?_)
              obtain ⟨Xh106, Fh106⟩ := e105
              refine q_blk (lv2 := [(0, vr t), (1, vi 2), (2, vi 0), (3, vi (i + 1)), (4, vi (kd e9))]) (st2 := []) kX6_readSum_75 rfl ?_
              refine q_goto (tgt := 8) eX6_readSum_78 (by decide) ?_
              refine q_sub (lv2 := [(0, vr t), (1, vi 2), (2, vi 0), (3, vi (i + 1))]) [0, 1, 2, 3] rfl ?_
              exact ih71 0 (i + 1) h106 L 0 0 cd (⟨⟨by omega, by omega⟩, hfr.tr (((am_fr.rf.tr (am_fr.st e79 (by omega) (by omega))).tr Fh89).tr Fh106), Or.inr ⟨rfl, _, _, hJ9.symm.trans (rJ_no (by omega) (by omega) qh89), Xh106⟩⟩) (by omega)
        · skip
          refine q_blk (lv2 := [(0, vr t), (1, vi 2), (2, vi g), (3, vi i), (4, vi (kd e9))]) (st2 := [vi 45, vi (kd e9)]) kX6_readSum_32 rfl ?_
          refine AQ.ic_eq (tgt := 41) eX6_readSum_36 (by decide) (by first | assumption | exact ⟨by omega, by omega⟩) ⟨by decide, by decide⟩ (fun br107 => ?_) (fun br107 => ?_)
          · skip
            refine q_blk (lv2 := [(0, vr t), (1, vi 2), (2, vi g), (3, vi i), (4, vi (kd e9))]) (st2 := [vr t, vr t]) kX6_readSum_41 rfl ?_
            refine q_gi eX6_readSum_43 fl_RX6_28 (Or.inl rfl) w0 (z := e9) rfl ?_
            refine q_blk (lv2 := [(0, vr t), (1, vi 2), (2, vi g), (3, vi i), (4, vi (kd e9))]) (st2 := [vi (e9 + 1), vr t]) kX6_readSum_46 rfl ?_
            refine q_pi eX6_readSum_48 fl_RX6_28 (fun q hq => by cases hq; exact Or.inl rfl) (Or.inl rfl) w0 (Nat.le_of_ble_eq_true rfl) (l2 := [0, 0, 0, 0, 0, 0, 0, wt, (e9 + 1), v9, px, (L9.length : Int), hs, er, ea]) rfl (fun h108 e109 => ?_)
            have k110 := am_at e109
            have k111 := (am_ne e109 (t + 3) (by omega)).trans w1
            have k112 := (am_ne e109 (t + 4) (by omega)).trans w2
            have k113 := (am_ne e109 (t + 5) (by omega)).trans w3
            have k114 := (am_ne e109 (t + 6) (by omega)).trans w4
            have k115 := (am_ne e109 j (by omega)).trans w5
            have k116 := wL.kept (lo := t) (hi := t + 1) (am_fr.st e109 (by omega) (by omega)) (by omega)
            refine q_blk (lv2 := [(0, vr t), (1, vi 2), (2, vi g), (3, vi i), (4, vi (kd e9))]) (st2 := [vi 2, vr t]) kX6_readSum_51 rfl ?_
            refine AQ.callVi (av := [vi 2]) (st := []) (c_X6_readTerm2 (L := L9) ⟨_, k110, k111, k112, k113, k114, cj, k115, k116⟩ n0 kn (by omega) (by omega) kr vq hL9 (by omega)) lk_RX6_227 (by decide) rfl rfl ⟨_, _, _, k110⟩ ⟨_, rfl, rfl⟩ (Nat.le_of_ble_eq_true rfl) eX6_readSum_53 (fun z117 h119 e118 => ?_)
            rcases e118 with ⟨⟨rfl, Lh119, hh119e, qh119, ⟨bh119a, bh119b, bh119c⟩, hh119n, hh119c, Xh119, Ch119⟩ | ⟨rfl, eh119, ah119, qh119, Xh119⟩, Fh119⟩
            · skip
              obtain ⟨g120t, g1200, g1201, g1202, g1203, g1204, g120j, g1205, g120L⟩ := id Xh119
              refine q_blk (lv2 := [(0, vr t), (1, vi 2), (2, vi 1), (3, vi i), (4, vi (kd e9))]) (st2 := [vi 43, vi (kd e9), vr t]) kX6_readSum_56 rfl ?_
              refine AQ.ic_ne (tgt := 70) eX6_readSum_62 (by decide) (by first | assumption | exact ⟨by omega, by omega⟩) ⟨by decide, by decide⟩ (fun br121 => ?_) (fun br121 => ?_)
              · skip
                refine q_blk (lv2 := [(0, vr t), (1, vi 2), (2, vi 1), (3, vi i), (4, vi (kd e9))]) (st2 := [vi (-7), vr t]) kX6_readSum_70 rfl ?_
                refine AQ.callVv (av := [vi (-7)]) (st := []) (c_X6_addCode (v := (-7)) ⟨_, g1200, g1201, g1202, g1203, g1204, cj, g1205, g120L⟩ (by omega) (by omega)) lk_RX6_230 (by decide) rfl rfl ⟨_, _, _, g1200⟩ ⟨_, rfl, rfl⟩ (Nat.le_of_ble_eq_true rfl) eX6_readSum_72 (fun h124 e123 => ?_)
                obtain ⟨Xh124, Fh124⟩ := e123
                obtain ⟨g125t, g1250, g1251, g1252, g1253, g1254, g125j, g1255, g125L⟩ := id Xh124
                refine q_blk (lv2 := [(0, vr t), (1, vi 2), (2, vi 1), (3, vi (i + 1)), (4, vi (kd e9))]) (st2 := []) kX6_readSum_75 rfl ?_
                refine q_goto (tgt := 8) eX6_readSum_78 (by decide) ?_
                refine q_sub (lv2 := [(0, vr t), (1, vi 2), (2, vi 1), (3, vi (i + 1))]) [0, 1, 2, 3] rfl ?_
                exact ih71 1 (i + 1) h124 (Lh119 ++ [(3, 0)]) hh119e hh119n (am_uI hh119c (Lh119.length : Int) (-7)) (⟨⟨by omega, by omega⟩, hfr.tr (((am_fr.rf.tr (am_fr.st e109 (by omega) (by omega))).tr Fh119).tr Fh124), Or.inl ⟨rfl, ⟨by omega, by omega, by simp; omega⟩, by rw [show 800 - (i + 1).toNat = 800 - i.toNat - 1 by omega]; exact (rJ_go (o := 3) (by omega) (by omega) qh119).symm.trans hJ9, Ch119.add (by unfold gm_en; simp), SU.cast ⟨_, g1250, g1251, g1252, g1253, g1254, cj, g1255, g125L⟩ (by simp)⟩⟩) (by omega)
              · skip
                refine q_blk (lv2 := [(0, vr t), (1, vi 2), (2, vi 1), (3, vi i), (4, vi (kd e9))]) (st2 := [vi (-6), vr t]) kX6_readSum_65 rfl ?_
                refine q_goto (tgt := 72) eX6_readSum_67 (by decide) ?_
                refine AQ.callVv (av := [vi (-6)]) (st := []) (c_X6_addCode (v := (-6)) ⟨_, g1200, g1201, g1202, g1203, g1204, cj, g1205, g120L⟩ (by omega) (by omega)) lk_RX6_230 (by decide) rfl rfl ⟨_, _, _, g1200⟩ ⟨_, rfl, rfl⟩ (Nat.le_of_ble_eq_true rfl) eX6_readSum_72 (fun h128 e127 => ?_)
                obtain ⟨Xh128, Fh128⟩ := e127
                obtain ⟨g129t, g1290, g1291, g1292, g1293, g1294, g129j, g1295, g129L⟩ := id Xh128
                refine q_blk (lv2 := [(0, vr t), (1, vi 2), (2, vi 1), (3, vi (i + 1)), (4, vi (kd e9))]) (st2 := []) kX6_readSum_75 rfl ?_
                refine q_goto (tgt := 8) eX6_readSum_78 (by decide) ?_
                refine q_sub (lv2 := [(0, vr t), (1, vi 2), (2, vi 1), (3, vi (i + 1))]) [0, 1, 2, 3] rfl ?_
                exact ih71 1 (i + 1) h128 (Lh119 ++ [(2, 0)]) hh119e hh119n (am_uI hh119c (Lh119.length : Int) (-6)) (⟨⟨by omega, by omega⟩, hfr.tr (((am_fr.rf.tr (am_fr.st e109 (by omega) (by omega))).tr Fh119).tr Fh128), Or.inl ⟨rfl, ⟨by omega, by omega, by simp; omega⟩, by rw [show 800 - (i + 1).toNat = 800 - i.toNat - 1 by omega]; exact (rJ_go (o := 2) (by omega) (by omega) qh119).symm.trans hJ9, Ch119.add (by unfold gm_en; simp), SU.cast ⟨_, g1290, g1291, g1292, g1293, g1294, cj, g1295, g129L⟩ (by simp)⟩⟩) (by omega)
            · skip
              refine q_blk (lv2 := [(0, vr t), (1, vi 2), (2, vi 0), (3, vi i), (4, vi (kd e9))]) (st2 := [vi 43, vi (kd e9), vr t]) kX6_readSum_56 rfl ?_
              refine AQ.ic_ne (tgt := 70) eX6_readSum_62 (by decide) (by first | assumption | exact ⟨by omega, by omega⟩) ⟨by decide, by decide⟩ (fun br130 => ?_) (fun br130 => ?_)
              · skip
                refine q_blk (lv2 := [(0, vr t), (1, vi 2), (2, vi 0), (3, vi i), (4, vi (kd e9))]) (st2 := [vi (-7), vr t]) kX6_readSum_70 rfl ?_
                refine AQ.callVv (av := [vi (-7)]) (st := []) (c_X6_addCodeF Xh119 (v := (-7))) lk_RX6_230 (by decide) rfl rfl (SF.ob Xh119) ⟨_, rfl, rfl⟩ (Nat.le_of_ble_eq_true rfl) eX6_readSum_72 (fun h133 e132 => ?_)
                obtain ⟨Xh133, Fh133⟩ := e132
                refine q_blk (lv2 := [(0, vr t), (1, vi 2), (2, vi 0), (3, vi (i + 1)), (4, vi (kd e9))]) (st2 := []) kX6_readSum_75 rfl ?_
                refine q_goto (tgt := 8) eX6_readSum_78 (by decide) ?_
                refine q_sub (lv2 := [(0, vr t), (1, vi 2), (2, vi 0), (3, vi (i + 1))]) [0, 1, 2, 3] rfl ?_
                exact ih71 0 (i + 1) h133 L 0 0 cd (⟨⟨by omega, by omega⟩, hfr.tr (((am_fr.rf.tr (am_fr.st e109 (by omega) (by omega))).tr Fh119).tr Fh133), Or.inr ⟨rfl, _, _, hJ9.symm.trans (rJ_no (by omega) (by omega) qh119), Xh133⟩⟩) (by omega)
              · skip
                refine q_blk (lv2 := [(0, vr t), (1, vi 2), (2, vi 0), (3, vi i), (4, vi (kd e9))]) (st2 := [vi (-6), vr t]) kX6_readSum_65 rfl ?_
                refine q_goto (tgt := 72) eX6_readSum_67 (by decide) ?_
                refine AQ.callVv (av := [vi (-6)]) (st := []) (c_X6_addCodeF Xh119 (v := (-6))) lk_RX6_230 (by decide) rfl rfl (SF.ob Xh119) ⟨_, rfl, rfl⟩ (Nat.le_of_ble_eq_true rfl) eX6_readSum_72 (fun h136 e135 => ?_)
                obtain ⟨Xh136, Fh136⟩ := e135
                refine q_blk (lv2 := [(0, vr t), (1, vi 2), (2, vi 0), (3, vi (i + 1)), (4, vi (kd e9))]) (st2 := []) kX6_readSum_75 rfl ?_
                refine q_goto (tgt := 8) eX6_readSum_78 (by decide) ?_
                refine q_sub (lv2 := [(0, vr t), (1, vi 2), (2, vi 0), (3, vi (i + 1))]) [0, 1, 2, 3] rfl ?_
                exact ih71 0 (i + 1) h136 L 0 0 cd (⟨⟨by omega, by omega⟩, hfr.tr (((am_fr.rf.tr (am_fr.st e109 (by omega) (by omega))).tr Fh119).tr Fh136), Or.inr ⟨rfl, _, _, hJ9.symm.trans (rJ_no (by omega) (by omega) qh119), Xh136⟩⟩) (by omega)
          · skip
            refine q_blk (lv2 := [(0, vr t), (1, vi 2), (2, vi g), (3, vi i), (4, vi (kd e9))]) (st2 := [vi 1]) kX6_readSum_39 rfl ?_
            exact q_rz rfl eX6_readSum_40 (by decide) ⟨1, rfl, Or.inl ⟨rfl, L9, e9, hJ9.symm.trans (rJ_end (Or.inr ⟨by omega, by omega⟩)), ⟨by omega, by omega, by omega⟩, _, _, ⟨_, w0, w1, w2, w3, w4, cj, w5, wL⟩, hL9⟩, hfr.tr am_fr.rf⟩

set_option maxHeartbeats 1000000 in
theorem c_X6_readFactor1 {w : am_w} {h : AH} {L : GL} {t u b j : Nat} {kd st vl : Int → Int} {he nu px hs er ea : Int} {cd : Int → Int} (hS : SU h t u b j kd st vl he nu px (L.length : Int) hs er ea cd) {n : Int} (n0 : n ≤ 800) (kn : kd n = 0) (he0 : 0 ≤ he) (he1 : he ≤ n) (kr : ∀ i, 0 ≤ i → i < 801 → -5 ≤ kd i ∧ kd i ≤ 100) (vq : ∀ i, 0 ≤ i → i < 801 → 0 ≤ vl i ∧ vl i ≤ 10000) (hL : CL cd L) (hl : (L.length : Int) ≤ he)  : AE w m_X6_readFactor 13 [vr t, vi 1] h (am_int (fun z h1 => ((z = 1 ∧ ∃ L' he', rA kd st vl (some (rU kd st vl 2)) L he = .inr (L', he') ∧ (he < he' ∧ he' ≤ n ∧ (L'.length : Int) ≤ (L.length : Int) + (he' - he)) ∧ ∃ nu' cd', SU h1 t u b j kd st vl he' nu' px (L'.length : Int) hs er ea cd' ∧ CL cd' L') ∨ (z = 0 ∧ ∃ e a, rA kd st vl (some (rU kd st vl 2)) L he = .inl (e, a) ∧ SF h1 t u b j kd st vl e a)) ∧ am_fr h h1 t (t + 7))) := by
  refine AE.of wf_X6_readFactor (Nat.le_of_ble_eq_true rfl) (am_ok_z (fun z h1 q => by rcases q.1 with q | q; exact Or.inr q.1; exact Or.inl q.1)) ?_
  obtain ⟨tc, c0, c1, c2, c3, c4, cj, c5, cL⟩ := id hS
  have kr1 := kr he he0 (by omega)
  have vr1 := vq he he0 (by omega)
  have hen : kd he ≠ 0 → he ≠ n := fun q e9 => by rw [e9] at q; omega
  refine q_blk (lv2 := [(0, vr t), (1, vi 1)]) (st2 := [vr t]) kX6_readFactor_0 rfl ?_
  refine q_Vi (av := []) (st := []) (c_X6_kindHere ⟨_, c0, c1, c2, c3, c4, cj, c5, cL⟩ (by omega) (by omega)) lk_RX6_70 (by decide) rfl rfl ⟨_, _, _, c0⟩ ⟨_, rfl, rfl⟩ (Nat.le_of_ble_eq_true rfl) eX6_readFactor_1 (fun z1 e2 => ?_)
  subst e2
  refine q_blk (lv2 := [(0, vr t), (1, vi 1), (2, vi (kd he))]) (st2 := [vi 40, vi (kd he)]) kX6_readFactor_4 rfl ?_
  refine AQ.ic_ne (tgt := 58) eX6_readFactor_8 (by decide) (by first | assumption | exact ⟨by omega, by omega⟩) ⟨by decide, by decide⟩ (fun br3 => ?_) (fun br3 => ?_)
  · skip
    refine q_blk (lv2 := [(0, vr t), (1, vi 1), (2, vi (kd he))]) (st2 := [vi (kd he)]) kX6_readFactor_58 rfl ?_
    refine AQ.if_ge (tgt := 79) eX6_readFactor_59 (by decide) (by first | assumption | exact ⟨by omega, by omega⟩) (fun br4 => ?_) (fun br4 => ?_)
    · skip
      refine q_blk (lv2 := [(0, vr t), (1, vi 1), (2, vi (kd he))]) (st2 := [vi 2, vi (kd he)]) kX6_readFactor_79 rfl ?_
      refine AQ.ic_eq (tgt := 91) eX6_readFactor_81 (by decide) (by first | assumption | exact ⟨by omega, by omega⟩) ⟨by decide, by decide⟩ (fun br5 => ?_) (fun br5 => ?_)
      · skip
        refine q_blk (lv2 := [(0, vr t), (1, vi 1), (2, vi (kd he))]) (st2 := [vr t, vr t]) kX6_readFactor_91 rfl ?_
        refine q_Vi (av := []) (st := [vr t]) (c_X6_valueHere ⟨_, c0, c1, c2, c3, c4, cj, c5, cL⟩ (by omega) (by omega)) lk_RX6_148 (by decide) rfl rfl ⟨_, _, _, c0⟩ ⟨_, rfl, rfl⟩ (Nat.le_of_ble_eq_true rfl) eX6_readFactor_93 (fun z6 e7 => ?_)
        subst e7
        refine q_pi eX6_readFactor_96 fl_RX6_31 (fun q hq => by cases hq; exact Or.inl rfl) (Or.inl rfl) c0 (Nat.le_of_ble_eq_true rfl) (l2 := [0, 0, 0, 0, 0, 0, 0, tc, he, (vl he), px, (L.length : Int), hs, er, ea]) rfl (fun h8 e9 => ?_)
        have k10 := am_at e9
        have k11 := (am_ne e9 (t + 3) (by omega)).trans c1
        have k12 := (am_ne e9 (t + 4) (by omega)).trans c2
        have k13 := (am_ne e9 (t + 5) (by omega)).trans c3
        have k14 := (am_ne e9 (t + 6) (by omega)).trans c4
        have k15 := (am_ne e9 j (by omega)).trans c5
        have k16 := cL.kept (lo := t) (hi := t + 1) (am_fr.st e9 (by omega) (by omega)) (by omega)
        refine q_blk (lv2 := [(0, vr t), (1, vi 1), (2, vi (kd he))]) (st2 := [vr t]) kX6_readFactor_99 rfl ?_
        refine q_gi eX6_readFactor_100 fl_RX6_31 (Or.inl rfl) k10 (z := (vl he)) rfl ?_
        refine q_blk (lv2 := [(0, vr t), (1, vi 1), (2, vi (kd he))]) (st2 := [vi 9999, vi (vl he)]) kX6_readFactor_103 rfl ?_
        refine AQ.ic_le (tgt := 116) eX6_readFactor_106 (by decide) (by first | assumption | exact ⟨by omega, by omega⟩) ⟨by decide, by decide⟩ (fun br17 => ?_) (fun br17 => ?_)
        · skip
          refine q_blk (lv2 := [(0, vr t), (1, vi 1), (2, vi (kd he))]) (st2 := [vr t, vr t]) kX6_readFactor_116 rfl ?_
          refine q_gi eX6_readFactor_118 fl_RX6_28 (Or.inl rfl) k10 (z := he) rfl ?_
          refine q_blk (lv2 := [(0, vr t), (1, vi 1), (2, vi (kd he))]) (st2 := [vi (he + 1), vr t]) kX6_readFactor_121 rfl ?_
          refine q_pi eX6_readFactor_123 fl_RX6_28 (fun q hq => by cases hq; exact Or.inl rfl) (Or.inl rfl) k10 (Nat.le_of_ble_eq_true rfl) (l2 := [0, 0, 0, 0, 0, 0, 0, tc, (he + 1), (vl he), px, (L.length : Int), hs, er, ea]) rfl (fun h18 e19 => ?_)
          have k20 := am_at e19
          have k21 := (am_ne e19 (t + 3) (by omega)).trans k11
          have k22 := (am_ne e19 (t + 4) (by omega)).trans k12
          have k23 := (am_ne e19 (t + 5) (by omega)).trans k13
          have k24 := (am_ne e19 (t + 6) (by omega)).trans k14
          have k25 := (am_ne e19 j (by omega)).trans k15
          have k26 := k16.kept (lo := t) (hi := t + 1) (am_fr.st e19 (by omega) (by omega)) (by omega)
          refine q_blk (lv2 := [(0, vr t), (1, vi 1), (2, vi (kd he))]) (st2 := [vr t, vr t]) kX6_readFactor_126 rfl ?_
          refine q_gi eX6_readFactor_128 fl_RX6_31 (Or.inl rfl) k20 (z := (vl he)) rfl ?_
          refine AQ.callVv (av := [vi (vl he)]) (st := []) (c_X6_addCode (v := (vl he)) ⟨_, k20, k21, k22, k23, k24, cj, k25, k26⟩ (by omega) (by omega)) lk_RX6_230 (by decide) rfl rfl ⟨_, _, _, k20⟩ ⟨_, rfl, rfl⟩ (Nat.le_of_ble_eq_true rfl) eX6_readFactor_131 (fun h29 e28 => ?_)
          obtain ⟨Xh29, Fh29⟩ := e28
          obtain ⟨g30t, g300, g301, g302, g303, g304, g30j, g305, g30L⟩ := id Xh29
          refine q_blk (lv2 := [(0, vr t), (1, vi 1), (2, vi (kd he))]) (st2 := [vi 1]) kX6_readFactor_134 rfl ?_
          exact q_rz rfl eX6_readFactor_135 (by decide) ⟨1, rfl, Or.inl ⟨rfl, L ++ [(0, vl he)], he + 1, by unfold rA; rw [if_neg (by omega), if_neg (by omega), if_pos (by omega), if_pos (by omega)], ⟨by omega, by omega, by simp; omega⟩, (vl he), (am_uI cd (L.length : Int) (vl he)), SU.cast ⟨_, g300, g301, g302, g303, g304, cj, g305, g30L⟩ (by simp), hL.add (by unfold gm_en; (try simp); (try omega))⟩, ((am_fr.rf.tr ((am_fr.st e9 (by omega) (by omega)).tr (am_fr.st e19 (by omega) (by omega)))).tr Fh29)⟩
        · skip
          refine q_blk (lv2 := [(0, vr t), (1, vi 1), (2, vi (kd he))]) (st2 := [vi (-3), vr t]) kX6_readFactor_109 rfl ?_
          refine AQ.callVi (av := [vi (-3)]) (st := []) (c_X6_fail (e := (-3)) ⟨_, k10, k11, k12, k13, k14, cj, k15, k16⟩ (by omega) (by omega)) lk_RX6_83 (by decide) rfl rfl ⟨_, _, _, k10⟩ ⟨_, rfl, rfl⟩ (Nat.le_of_ble_eq_true rfl) eX6_readFactor_112 (fun z31 h33 e32 => ?_)
          obtain ⟨z310, Xh33, Fh33⟩ := e32
          subst z310
          obtain ⟨g34t, g340, g341, g342, g343, g344, g34j, g345, g34L⟩ := id Xh33
          exact q_rz rfl eX6_readFactor_115 (by decide) ⟨0, rfl, Or.inr ⟨rfl, _, _, by unfold rA; rw [if_neg (by omega), if_neg (by omega), if_pos (by omega), if_neg (by omega)], ⟨_, _, _, _, _, _, ⟨_, g340, g341, g342, g343, g344, cj, g345, g34L⟩, by omega, by omega⟩⟩, ((am_fr.rf.tr (am_fr.st e9 (by omega) (by omega))).tr Fh33)⟩
      · skip
        refine q_blk (lv2 := [(0, vr t), (1, vi 1), (2, vi (kd he))]) (st2 := [vi (-2), vr t]) kX6_readFactor_84 rfl ?_
        refine AQ.callVi (av := [vi (-2)]) (st := []) (c_X6_fail (e := (-2)) ⟨_, c0, c1, c2, c3, c4, cj, c5, cL⟩ (by omega) (by omega)) lk_RX6_83 (by decide) rfl rfl ⟨_, _, _, c0⟩ ⟨_, rfl, rfl⟩ (Nat.le_of_ble_eq_true rfl) eX6_readFactor_87 (fun z35 h37 e36 => ?_)
        obtain ⟨z350, Xh37, Fh37⟩ := e36
        subst z350
        obtain ⟨g38t, g380, g381, g382, g383, g384, g38j, g385, g38L⟩ := id Xh37
        exact q_rz rfl eX6_readFactor_90 (by decide) ⟨0, rfl, Or.inr ⟨rfl, _, _, by unfold rA; rw [if_neg (by omega), if_neg (by omega), if_neg (by omega)], ⟨_, _, _, _, _, _, ⟨_, g380, g381, g382, g383, g384, cj, g385, g38L⟩, by omega, by omega⟩⟩, (am_fr.rf.tr Fh37)⟩
    · skip
      refine q_blk (lv2 := [(0, vr t), (1, vi 1), (2, vi (kd he))]) (st2 := [vr t, vr t]) kX6_readFactor_62 rfl ?_
      refine q_gi eX6_readFactor_64 fl_RX6_28 (Or.inl rfl) c0 (z := he) rfl ?_
      refine q_blk (lv2 := [(0, vr t), (1, vi 1), (2, vi (kd he))]) (st2 := [vi (he + 1), vr t]) kX6_readFactor_67 rfl ?_
      refine q_pi eX6_readFactor_69 fl_RX6_28 (fun q hq => by cases hq; exact Or.inl rfl) (Or.inl rfl) c0 (Nat.le_of_ble_eq_true rfl) (l2 := [0, 0, 0, 0, 0, 0, 0, tc, (he + 1), nu, px, (L.length : Int), hs, er, ea]) rfl (fun h39 e40 => ?_)
      have k41 := am_at e40
      have k42 := (am_ne e40 (t + 3) (by omega)).trans c1
      have k43 := (am_ne e40 (t + 4) (by omega)).trans c2
      have k44 := (am_ne e40 (t + 5) (by omega)).trans c3
      have k45 := (am_ne e40 (t + 6) (by omega)).trans c4
      have k46 := (am_ne e40 j (by omega)).trans c5
      have k47 := cL.kept (lo := t) (hi := t + 1) (am_fr.st e40 (by omega) (by omega)) (by omega)
      refine q_blk (lv2 := [(0, vr t), (1, vi 1), (2, vi (kd he))]) (st2 := [vi (kd he), vr t]) kX6_readFactor_72 rfl ?_
      refine AQ.callVv (av := [vi (kd he)]) (st := []) (c_X6_addCode (v := (kd he)) ⟨_, k41, k42, k43, k44, k45, cj, k46, k47⟩ (by omega) (by omega)) lk_RX6_230 (by decide) rfl rfl ⟨_, _, _, k41⟩ ⟨_, rfl, rfl⟩ (Nat.le_of_ble_eq_true rfl) eX6_readFactor_74 (fun h50 e49 => ?_)
      obtain ⟨Xh50, Fh50⟩ := e49
      obtain ⟨g51t, g510, g511, g512, g513, g514, g51j, g515, g51L⟩ := id Xh50
      refine q_blk (lv2 := [(0, vr t), (1, vi 1), (2, vi (kd he))]) (st2 := [vi 1]) kX6_readFactor_77 rfl ?_
      exact q_rz rfl eX6_readFactor_78 (by decide) ⟨1, rfl, Or.inl ⟨rfl, L ++ [(1, -1 - kd he)], he + 1, by unfold rA; rw [if_neg (by omega), if_pos (by omega)], ⟨by omega, by omega, by simp; omega⟩, nu, (am_uI cd (L.length : Int) (kd he)), SU.cast ⟨_, g510, g511, g512, g513, g514, cj, g515, g51L⟩ (by simp), hL.add (by unfold gm_en; (try simp); (try omega))⟩, ((am_fr.rf.tr (am_fr.st e40 (by omega) (by omega))).tr Fh50)⟩
  · skip
    refine q_blk (lv2 := [(0, vr t), (1, vi 1), (2, vi (kd he))]) (st2 := [vi 4, vi 1]) kX6_readFactor_11 rfl ?_
    refine AQ.of (AS.ic_lt_t (tgt := 23) eX6_readFactor_13 (by decide) ⟨by decide, by decide⟩ ⟨by decide, by decide⟩ (by decide)) ?_
    refine q_blk (lv2 := [(0, vr t), (1, vi 1), (2, vi (kd he))]) (st2 := [vr t, vr t]) kX6_readFactor_23 rfl ?_
    refine q_gi eX6_readFactor_25 fl_RX6_28 (Or.inl rfl) c0 (z := he) rfl ?_
    refine q_blk (lv2 := [(0, vr t), (1, vi 1), (2, vi (kd he))]) (st2 := [vi (he + 1), vr t]) kX6_readFactor_28 rfl ?_
    refine q_pi eX6_readFactor_30 fl_RX6_28 (fun q hq => by cases hq; exact Or.inl rfl) (Or.inl rfl) c0 (Nat.le_of_ble_eq_true rfl) (l2 := [0, 0, 0, 0, 0, 0, 0, tc, (he + 1), nu, px, (L.length : Int), hs, er, ea]) rfl (fun h52 e53 => ?_)
    have k54 := am_at e53
    have k55 := (am_ne e53 (t + 3) (by omega)).trans c1
    have k56 := (am_ne e53 (t + 4) (by omega)).trans c2
    have k57 := (am_ne e53 (t + 5) (by omega)).trans c3
    have k58 := (am_ne e53 (t + 6) (by omega)).trans c4
    have k59 := (am_ne e53 j (by omega)).trans c5
    have k60 := cL.kept (lo := t) (hi := t + 1) (am_fr.st e53 (by omega) (by omega)) (by omega)
    refine q_blk (lv2 := [(0, vr t), (1, vi 1), (2, vi (kd he))]) (st2 := [vi (1 + 1), vr t]) kX6_readFactor_33 rfl ?_
    refine AQ.callVi (av := [vi (1 + 1)]) (st := []) (c_X6_readSum2 (L := L) ⟨_, k54, k55, k56, k57, k58, cj, k59, k60⟩ n0 kn (by omega) (by omega) kr vq hL (by omega)) lk_RX6_215 (by decide) rfl rfl ⟨_, _, _, k54⟩ ⟨_, rfl, rfl⟩ (Nat.le_of_ble_eq_true rfl) eX6_readFactor_37 (fun z61 h63 e62 => ?_)
    rcases e62 with ⟨⟨rfl, Lh63, hh63e, qh63, ⟨bh63a, bh63b, bh63c⟩, hh63n, hh63c, Xh63, Ch63⟩ | ⟨rfl, eh63, ah63, qh63, Xh63⟩, Fh63⟩
    · skip
      obtain ⟨g64t, g640, g641, g642, g643, g644, g64j, g645, g64L⟩ := id Xh63
      refine AQ.of (AS.if_eq_f eX6_readFactor_40 ⟨by decide, by decide⟩ (by decide) (by decide)) ?_
      refine q_blk (lv2 := [(0, vr t), (1, vi 1), (2, vi (kd he))]) (st2 := [vi 41, vr t]) kX6_readFactor_43 rfl ?_
      refine AQ.callVi (av := [vi 41]) (st := []) (c_X6_take ⟨_, g640, g641, g642, g643, g644, cj, g645, g64L⟩ (by omega) (by omega) kr vq (k := 41) (by omega) (by omega)) lk_RX6_166 (by decide) rfl rfl ⟨_, _, _, g640⟩ ⟨_, rfl, rfl⟩ (Nat.le_of_ble_eq_true rfl) eX6_readFactor_46 (fun z65 h67 e66 => ?_)
      rcases e66 with ⟨⟨rfl, qh67, Xh67⟩ | ⟨rfl, qh67, Xh67⟩, Fh67⟩
      · skip
        obtain ⟨g68t, g680, g681, g682, g683, g684, g68j, g685, g68L⟩ := id Xh67
        have nh67 : hh63e ≠ n := fun e9 => by rw [e9] at qh67; omega
        refine AQ.of (AS.if_eq_f eX6_readFactor_49 ⟨by decide, by decide⟩ (by decide) (by decide)) ?_
        refine q_blk (lv2 := [(0, vr t), (1, vi 1), (2, vi (kd he))]) (st2 := [vi 1]) kX6_readFactor_52 rfl ?_
        refine q_goto (tgt := 57) eX6_readFactor_53 (by decide) ?_
        exact q_rz rfl eX6_readFactor_57 (by decide) ⟨1, rfl, Or.inl ⟨rfl, _, _, by unfold rA; rw [if_pos (by omega)]; exact (rB_r qh63 _).trans (rB_r (show rT kd st 41 hh63e = .inr () by unfold rT; rw [if_pos qh67]) _), ⟨by omega, by omega, by omega⟩, _, _, ⟨_, g680, g681, g682, g683, g684, cj, g685, g68L⟩, Ch63⟩, (((am_fr.rf.tr (am_fr.st e53 (by omega) (by omega))).tr Fh63).tr Fh67)⟩
      · skip
        obtain ⟨g69t, g690, g691, g692, g693, g694, g69j, g695, g69L⟩ := id Xh67
        refine AQ.of (AS.if_eq_t (tgt := 56) eX6_readFactor_49 (by decide) ⟨by decide, by decide⟩ (by decide)) ?_
        refine q_blk (lv2 := [(0, vr t), (1, vi 1), (2, vi (kd he))]) (st2 := [vi 0]) kX6_readFactor_56 rfl ?_
        exact q_rz rfl eX6_readFactor_57 (by decide) ⟨0, rfl, Or.inr ⟨rfl, _, _, by unfold rA; rw [if_pos (by omega)]; exact (rB_r qh63 _).trans (rB_l (show rT kd st 41 hh63e = .inl (-2, st hh63e) by unfold rT; rw [if_neg qh67]) _), ⟨_, _, _, _, _, _, ⟨_, g690, g691, g692, g693, g694, cj, g695, g69L⟩, by omega, by omega⟩⟩, (((am_fr.rf.tr (am_fr.st e53 (by omega) (by omega))).tr Fh63).tr Fh67)⟩
    · skip
      refine AQ.of (AS.if_eq_t (tgt := 56) eX6_readFactor_40 (by decide) ⟨by decide, by decide⟩ (by decide)) ?_
      refine q_blk (lv2 := [(0, vr t), (1, vi 1), (2, vi (kd he))]) (st2 := [vi 0]) kX6_readFactor_56 rfl ?_
      exact q_rz rfl eX6_readFactor_57 (by decide) ⟨0, rfl, Or.inr ⟨rfl, _, _, by unfold rA; rw [if_pos (by omega)]; exact rB_l qh63 _, Xh63⟩, ((am_fr.rf.tr (am_fr.st e53 (by omega) (by omega))).tr Fh63)⟩

set_option maxHeartbeats 1000000 in
theorem c_X6_readTerm1 {w : am_w} {h : AH} {L : GL} {t u b j : Nat} {kd st vl : Int → Int} {he nu px hs er ea : Int} {cd : Int → Int} (hS : SU h t u b j kd st vl he nu px (L.length : Int) hs er ea cd) {n : Int} (n0 : n ≤ 800) (kn : kd n = 0) (he0 : 0 ≤ he) (he1 : he ≤ n) (kr : ∀ i, 0 ≤ i → i < 801 → -5 ≤ kd i ∧ kd i ≤ 100) (vq : ∀ i, 0 ≤ i → i < 801 → 0 ≤ vl i ∧ vl i ≤ 10000) (hL : CL cd L) (hl : (L.length : Int) ≤ he)  : AE w m_X6_readTerm 14 [vr t, vi 1] h (am_int (fun z h1 => ((z = 1 ∧ ∃ L' he', rM kd st vl (some (rU kd st vl 2)) L he = .inr (L', he') ∧ (he < he' ∧ he' ≤ n ∧ (L'.length : Int) ≤ (L.length : Int) + (he' - he)) ∧ ∃ nu' cd', SU h1 t u b j kd st vl he' nu' px (L'.length : Int) hs er ea cd' ∧ CL cd' L') ∨ (z = 0 ∧ ∃ e a, rM kd st vl (some (rU kd st vl 2)) L he = .inl (e, a) ∧ SF h1 t u b j kd st vl e a)) ∧ am_fr h h1 t (t + 7))) := by
  refine AE.of wf_X6_readTerm (Nat.le_of_ble_eq_true rfl) (am_ok_z (fun z h1 q => by rcases q.1 with q | q; exact Or.inr q.1; exact Or.inl q.1)) ?_
  obtain ⟨tc, c0, c1, c2, c3, c4, cj, c5, cL⟩ := id hS
  have kr1 := kr he he0 (by omega)
  have vr1 := vq he he0 (by omega)
  have hen : kd he ≠ 0 → he ≠ n := fun q e9 => by rw [e9] at q; omega
  refine q_blk (lv2 := [(0, vr t), (1, vi 1)]) (st2 := [vi 1, vr t]) kX6_readTerm_0 rfl ?_
  refine AQ.callVi (av := [vi 1]) (st := []) (c_X6_readFactor1 (L := L) ⟨_, c0, c1, c2, c3, c4, cj, c5, cL⟩ n0 kn (by omega) (by omega) kr vq hL (by omega)) lk_RX6_233 (by decide) rfl rfl ⟨_, _, _, c0⟩ ⟨_, rfl, rfl⟩ (Nat.le_of_ble_eq_true rfl) eX6_readTerm_2 (fun z1 h3 e2 => ?_)
  rcases e2 with ⟨⟨rfl, Lh3, hh3e, qh3, ⟨bh3a, bh3b, bh3c⟩, hh3n, hh3c, Xh3, Ch3⟩ | ⟨rfl, eh3, ah3, qh3, Xh3⟩, Fh3⟩
  · skip
    obtain ⟨g4t, g40, g41, g42, g43, g44, g4j, g45, g4L⟩ := id Xh3
    refine q_blk (lv2 := [(0, vr t), (1, vi 1), (2, vi 1), (3, vi 0)]) (st2 := []) kX6_readTerm_5 rfl ?_
    refine am_lp7 (I := fun (g : Int) (i : Int) (hh : AH) (L9 : GL) (e9 : Int) (v9 : Int) (c9 : Int → Int) => (0 ≤ i ∧ i ≤ 800) ∧ am_fr h hh t (t + 7) ∧ ((g = 1 ∧ (he < e9 ∧ e9 ≤ n ∧ (L9.length : Int) ≤ (L.length : Int) + (e9 - he)) ∧ rJ kd (rA kd st vl (some (rU kd st vl 2))) 42 47 4 5 (800 - i.toNat) L9 e9 = rM kd st vl (some (rU kd st vl 2)) L he ∧ CL c9 L9 ∧ SU hh t u b j kd st vl e9 v9 px (L9.length : Int) hs er ea c9) ∨ (g = 0 ∧ ∃ e a, rM kd st vl (some (rU kd st vl 2)) L he = .inl (e, a) ∧ SF hh t u b j kd st vl e a))) (μ := fun (g : Int) (i : Int) (hh : AH) (L9 : GL) (e9 : Int) (v9 : Int) (c9 : Int → Int) => (800 - i).toNat) (G := fun (g : Int) (i : Int) (hh : AH) (L9 : GL) (e9 : Int) (v9 : Int) (c9 : Int → Int) => AQ w m_X6_readTerm 14 8 [(0, vr t), (1, vi 1), (2, vi g), (3, vi i)] [] hh (am_int (fun z h1 => ((z = 1 ∧ ∃ L' he', rM kd st vl (some (rU kd st vl 2)) L he = .inr (L', he') ∧ (he < he' ∧ he' ≤ n ∧ (L'.length : Int) ≤ (L.length : Int) + (he' - he)) ∧ ∃ nu' cd', SU h1 t u b j kd st vl he' nu' px (L'.length : Int) hs er ea cd' ∧ CL cd' L') ∨ (z = 0 ∧ ∃ e a, rM kd st vl (some (rU kd st vl 2)) L he = .inl (e, a) ∧ SF h1 t u b j kd st vl e a)) ∧ am_fr h h1 t (t + 7)))) ?_ 1 0 h3 Lh3 hh3e hh3n hh3c (⟨⟨by omega, by omega⟩, (am_fr.rf.tr Fh3), Or.inl ⟨rfl, ⟨by omega, by omega, by omega⟩, by rw [show (800 - (0 : Int).toNat : Nat) = 800 from rfl]; unfold rM; rw [rB_r qh3], Ch3, ⟨_, g40, g41, g42, g43, g44, cj, g45, g4L⟩⟩⟩)
    intro g i hh L9 e9 v9 c9 hI6 ih5
    obtain ⟨⟨i0, i1⟩, hfr, hG⟩ := hI6
    have hg9 : g = 0 ∨ g = 1 := by rcases hG with q | q; exact Or.inr q.1; exact Or.inl q.1
    refine q_blk (lv2 := [(0, vr t), (1, vi 1), (2, vi g), (3, vi i)]) (st2 := [vi 800, vi i]) kX6_readTerm_8 rfl ?_
    refine AQ.ic_ge (tgt := 81) eX6_readTerm_12 (by decide) (by first | assumption | exact ⟨by omega, by omega⟩) ⟨by decide, by decide⟩ (fun br7 => ?_) (fun br7 => ?_)
    · skip
      refine q_blk (lv2 := [(0, vr t), (1, vi 1), (2, vi g), (3, vi i)]) (st2 := [vi g]) kX6_readTerm_81 rfl ?_
      exact q_rz rfl eX6_readTerm_82 (by omega) ⟨g, rfl, (by rcases hG with ⟨rfl, hb9, hJ9, hL9, hS9⟩ | hG; exact Or.inl ⟨rfl, L9, e9, hJ9.symm.trans (rJ_end (Or.inl (by omega))), hb9, _, _, hS9, hL9⟩; exact Or.inr hG), hfr⟩
    · skip
      refine q_blk (lv2 := [(0, vr t), (1, vi 1), (2, vi g), (3, vi i)]) (st2 := [vi g]) kX6_readTerm_15 rfl ?_
      refine AQ.if_eq (tgt := 81) eX6_readTerm_16 (by decide) (by first | assumption | exact ⟨by omega, by omega⟩) (fun br8 => ?_) (fun br8 => ?_)
      · skip
        refine q_blk (lv2 := [(0, vr t), (1, vi 1), (2, vi g), (3, vi i)]) (st2 := [vi g]) kX6_readTerm_81 rfl ?_
        exact q_rz rfl eX6_readTerm_82 (by omega) ⟨g, rfl, (by rcases hG with ⟨rfl, hb9, hJ9, hL9, hS9⟩ | hG; exact Or.inl ⟨rfl, L9, e9, hJ9.symm.trans (rJ_end (Or.inl (by omega))), hb9, _, _, hS9, hL9⟩; exact Or.inr hG), hfr⟩
      · skip
        obtain ⟨-, ⟨b9a, b9b, b9c⟩, hJ9, hL9, hS9⟩ := hG.resolve_right (fun q => absurd q.1 (by omega))
        obtain ⟨wt, w0, w1, w2, w3, w4, wj, w5, wL⟩ := id hS9
        have kr9 := kr e9 (by omega) (by omega)
        have hen9 : kd e9 ≠ 0 → e9 ≠ n := fun q e => by rw [e] at q; omega
        refine q_blk (lv2 := [(0, vr t), (1, vi 1), (2, vi g), (3, vi i)]) (st2 := [vr t]) kX6_readTerm_19 rfl ?_
        refine q_Vi (av := []) (st := []) (c_X6_kindHere ⟨_, w0, w1, w2, w3, w4, cj, w5, wL⟩ (by omega) (by omega)) lk_RX6_70 (by decide) rfl rfl ⟨_, _, _, w0⟩ ⟨_, rfl, rfl⟩ (Nat.le_of_ble_eq_true rfl) eX6_readTerm_20 (fun z9 e10 => ?_)
        subst e10
        refine q_blk (lv2 := [(0, vr t), (1, vi 1), (2, vi g), (3, vi i), (4, vi (kd e9))]) (st2 := [vi 42, vi (kd e9)]) kX6_readTerm_23 rfl ?_
        refine AQ.ic_eq (tgt := 41) eX6_readTerm_29 (by decide) (by first | assumption | exact ⟨by omega, by omega⟩) ⟨by decide, by decide⟩ (fun br11 => ?_) (fun br11 => ?_)
        · skip
          refine q_blk (lv2 := [(0, vr t), (1, vi 1), (2, vi g), (3, vi i), (4, vi (kd e9))]) (st2 := [vr t, vr t]) kX6_readTerm_41 rfl ?_
          refine q_gi eX6_readTerm_43 fl_RX6_28 (Or.inl rfl) w0 (z := e9) rfl ?_
          refine q_blk (lv2 := [(0, vr t), (1, vi 1), (2, vi g), (3, vi i), (4, vi (kd e9))]) (st2 := [vi (e9 + 1), vr t]) kX6_readTerm_46 rfl ?_
          refine q_pi eX6_readTerm_48 fl_RX6_28 (fun q hq => by cases hq; exact Or.inl rfl) (Or.inl rfl) w0 (Nat.le_of_ble_eq_true rfl) (l2 := [0, 0, 0, 0, 0, 0, 0, wt, (e9 + 1), v9, px, (L9.length : Int), hs, er, ea]) rfl (fun h12 e13 => ?_)
          have k14 := am_at e13
          have k15 := (am_ne e13 (t + 3) (by omega)).trans w1
          have k16 := (am_ne e13 (t + 4) (by omega)).trans w2
          have k17 := (am_ne e13 (t + 5) (by omega)).trans w3
          have k18 := (am_ne e13 (t + 6) (by omega)).trans w4
          have k19 := (am_ne e13 j (by omega)).trans w5
          have k20 := wL.kept (lo := t) (hi := t + 1) (am_fr.st e13 (by omega) (by omega)) (by omega)
          refine q_blk (lv2 := [(0, vr t), (1, vi 1), (2, vi g), (3, vi i), (4, vi (kd e9))]) (st2 := [vi 1, vr t]) kX6_readTerm_51 rfl ?_
          refine AQ.callVi (av := [vi 1]) (st := []) (c_X6_readFactor1 (L := L9) ⟨_, k14, k15, k16, k17, k18, cj, k19, k20⟩ n0 kn (by omega) (by omega) kr vq hL9 (by omega)) lk_RX6_233 (by decide) rfl rfl ⟨_, _, _, k14⟩ ⟨_, rfl, rfl⟩ (Nat.le_of_ble_eq_true rfl) eX6_readTerm_53 (fun z21 h23 e22 => ?_)
          rcases e22 with ⟨⟨rfl, Lh23, hh23e, qh23, ⟨bh23a, bh23b, bh23c⟩, hh23n, hh23c, Xh23, Ch23⟩ | ⟨rfl, eh23, ah23, qh23, Xh23⟩, Fh23⟩
          · skip
            obtain ⟨g24t, g240, g241, g242, g243, g244, g24j, g245, g24L⟩ := id Xh23
            refine q_blk (lv2 := [(0, vr t), (1, vi 1), (2, vi 1), (3, vi i), (4, vi (kd e9))]) (st2 := [vi 42, vi (kd e9), vr t]) kX6_readTerm_56 rfl ?_
            refine AQ.ic_ne (tgt := 70) eX6_readTerm_62 (by decide) (by first | assumption | exact ⟨by omega, by omega⟩) ⟨by decide, by decide⟩ (fun br25 => ?_) (fun br25 => ?_)
            · skip
              refine q_blk (lv2 := [(0, vr t), (1, vi 1), (2, vi 1), (3, vi i), (4, vi (kd e9))]) (st2 := [vi (-9), vr t]) kX6_readTerm_70 rfl ?_
              refine AQ.callVv (av := [vi (-9)]) (st := []) (c_X6_addCode (v := (-9)) ⟨_, g240, g241, g242, g243, g244, cj, g245, g24L⟩ (by omega) (by omega)) lk_RX6_230 (by decide) rfl rfl ⟨_, _, _, g240⟩ ⟨_, rfl, rfl⟩ (Nat.le_of_ble_eq_true rfl) eX6_readTerm_72 (fun h28 e27 => ?_)
              obtain ⟨Xh28, Fh28⟩ := e27
              obtain ⟨g29t, g290, g291, g292, g293, g294, g29j, g295, g29L⟩ := id Xh28
              refine q_blk (lv2 := [(0, vr t), (1, vi 1), (2, vi 1), (3, vi (i + 1)), (4, vi (kd e9))]) (st2 := []) kX6_readTerm_75 rfl ?_
              refine q_goto (tgt := 8) eX6_readTerm_78 (by decide) ?_
              refine q_sub (lv2 := [(0, vr t), (1, vi 1), (2, vi 1), (3, vi (i + 1))]) [0, 1, 2, 3] rfl ?_
              exact ih5 1 (i + 1) h28 (Lh23 ++ [(5, 0)]) hh23e hh23n (am_uI hh23c (Lh23.length : Int) (-9)) (⟨⟨by omega, by omega⟩, hfr.tr (((am_fr.rf.tr (am_fr.st e13 (by omega) (by omega))).tr Fh23).tr Fh28), Or.inl ⟨rfl, ⟨by omega, by omega, by simp; omega⟩, by rw [show 800 - (i + 1).toNat = 800 - i.toNat - 1 by omega]; exact (rJ_go (o := 5) (by omega) (by omega) qh23).symm.trans hJ9, Ch23.add (by unfold gm_en; simp), SU.cast ⟨_, g290, g291, g292, g293, g294, cj, g295, g29L⟩ (by simp)⟩⟩) (by omega)
            · skip
              refine q_blk (lv2 := [(0, vr t), (1, vi 1), (2, vi 1), (3, vi i), (4, vi (kd e9))]) (st2 := [vi (-8), vr t]) kX6_readTerm_65 rfl ?_
              refine q_goto (tgt := 72) eX6_readTerm_67 (by decide) ?_
              refine AQ.callVv (av := [vi (-8)]) (st := []) (c_X6_addCode (v := (-8)) ⟨_, g240, g241, g242, g243, g244, cj, g245, g24L⟩ (by omega) (by omega)) lk_RX6_230 (by decide) rfl rfl ⟨_, _, _, g240⟩ ⟨_, rfl, rfl⟩ (Nat.le_of_ble_eq_true rfl) eX6_readTerm_72 (fun h32 e31 => ?_)
              obtain ⟨Xh32, Fh32⟩ := e31
              obtain ⟨g33t, g330, g331, g332, g333, g334, g33j, g335, g33L⟩ := id Xh32
              refine q_blk (lv2 := [(0, vr t), (1, vi 1), (2, vi 1), (3, vi (i + 1)), (4, vi (kd e9))]) (st2 := []) kX6_readTerm_75 rfl ?_
              refine q_goto (tgt := 8) eX6_readTerm_78 (by decide) ?_
              refine q_sub (lv2 := [(0, vr t), (1, vi 1), (2, vi 1), (3, vi (i + 1))]) [0, 1, 2, 3] rfl ?_
              exact ih5 1 (i + 1) h32 (Lh23 ++ [(4, 0)]) hh23e hh23n (am_uI hh23c (Lh23.length : Int) (-8)) (⟨⟨by omega, by omega⟩, hfr.tr (((am_fr.rf.tr (am_fr.st e13 (by omega) (by omega))).tr Fh23).tr Fh32), Or.inl ⟨rfl, ⟨by omega, by omega, by simp; omega⟩, by rw [show 800 - (i + 1).toNat = 800 - i.toNat - 1 by omega]; exact (rJ_go (o := 4) (by omega) (by omega) qh23).symm.trans hJ9, Ch23.add (by unfold gm_en; simp), SU.cast ⟨_, g330, g331, g332, g333, g334, cj, g335, g33L⟩ (by simp)⟩⟩) (by omega)
          · skip
            refine q_blk (lv2 := [(0, vr t), (1, vi 1), (2, vi 0), (3, vi i), (4, vi (kd e9))]) (st2 := [vi 42, vi (kd e9), vr t]) kX6_readTerm_56 rfl ?_
            refine AQ.ic_ne (tgt := 70) eX6_readTerm_62 (by decide) (by first | assumption | exact ⟨by omega, by omega⟩) ⟨by decide, by decide⟩ (fun br34 => ?_) (fun br34 => ?_)
            · skip
              refine q_blk (lv2 := [(0, vr t), (1, vi 1), (2, vi 0), (3, vi i), (4, vi (kd e9))]) (st2 := [vi (-9), vr t]) kX6_readTerm_70 rfl ?_
              refine AQ.callVv (av := [vi (-9)]) (st := []) (c_X6_addCodeF Xh23 (v := (-9))) lk_RX6_230 (by decide) rfl rfl (SF.ob Xh23) ⟨_, rfl, rfl⟩ (Nat.le_of_ble_eq_true rfl) eX6_readTerm_72 (fun h37 e36 => ?_)
              obtain ⟨Xh37, Fh37⟩ := e36
              refine q_blk (lv2 := [(0, vr t), (1, vi 1), (2, vi 0), (3, vi (i + 1)), (4, vi (kd e9))]) (st2 := []) kX6_readTerm_75 rfl ?_
              refine q_goto (tgt := 8) eX6_readTerm_78 (by decide) ?_
              refine q_sub (lv2 := [(0, vr t), (1, vi 1), (2, vi 0), (3, vi (i + 1))]) [0, 1, 2, 3] rfl ?_
              exact ih5 0 (i + 1) h37 L 0 0 cd (⟨⟨by omega, by omega⟩, hfr.tr (((am_fr.rf.tr (am_fr.st e13 (by omega) (by omega))).tr Fh23).tr Fh37), Or.inr ⟨rfl, _, _, hJ9.symm.trans (rJ_no (by omega) (by omega) qh23), Xh37⟩⟩) (by omega)
            · skip
              refine q_blk (lv2 := [(0, vr t), (1, vi 1), (2, vi 0), (3, vi i), (4, vi (kd e9))]) (st2 := [vi (-8), vr t]) kX6_readTerm_65 rfl ?_
              refine q_goto (tgt := 72) eX6_readTerm_67 (by decide) ?_
              refine AQ.callVv (av := [vi (-8)]) (st := []) (c_X6_addCodeF Xh23 (v := (-8))) lk_RX6_230 (by decide) rfl rfl (SF.ob Xh23) ⟨_, rfl, rfl⟩ (Nat.le_of_ble_eq_true rfl) eX6_readTerm_72 (fun h40 e39 => ?_)
              obtain ⟨Xh40, Fh40⟩ := e39
              refine q_blk (lv2 := [(0, vr t), (1, vi 1), (2, vi 0), (3, vi (i + 1)), (4, vi (kd e9))]) (st2 := []) kX6_readTerm_75 rfl ?_
              refine q_goto (tgt := 8) eX6_readTerm_78 (by decide) ?_
              refine q_sub (lv2 := [(0, vr t), (1, vi 1), (2, vi 0), (3, vi (i + 1))]) [0, 1, 2, 3] rfl ?_
              exact ih5 0 (i + 1) h40 L 0 0 cd (⟨⟨by omega, by omega⟩, hfr.tr (((am_fr.rf.tr (am_fr.st e13 (by omega) (by omega))).tr Fh23).tr Fh40), Or.inr ⟨rfl, _, _, hJ9.symm.trans (rJ_no (by omega) (by omega) qh23), Xh40⟩⟩) (by omega)
        · skip
          refine q_blk (lv2 := [(0, vr t), (1, vi 1), (2, vi g), (3, vi i), (4, vi (kd e9))]) (st2 := [vi 47, vi (kd e9)]) kX6_readTerm_32 rfl ?_
          refine AQ.ic_eq (tgt := 41) eX6_readTerm_36 (by decide) (by first | assumption | exact ⟨by omega, by omega⟩) ⟨by decide, by decide⟩ (fun br41 => ?_) (fun br41 => ?_)
          · skip
            refine q_blk (lv2 := [(0, vr t), (1, vi 1), (2, vi g), (3, vi i), (4, vi (kd e9))]) (st2 := [vr t, vr t]) kX6_readTerm_41 rfl ?_
            refine q_gi eX6_readTerm_43 fl_RX6_28 (Or.inl rfl) w0 (z := e9) rfl ?_
            refine q_blk (lv2 := [(0, vr t), (1, vi 1), (2, vi g), (3, vi i), (4, vi (kd e9))]) (st2 := [vi (e9 + 1), vr t]) kX6_readTerm_46 rfl ?_
            refine q_pi eX6_readTerm_48 fl_RX6_28 (fun q hq => by cases hq; exact Or.inl rfl) (Or.inl rfl) w0 (Nat.le_of_ble_eq_true rfl) (l2 := [0, 0, 0, 0, 0, 0, 0, wt, (e9 + 1), v9, px, (L9.length : Int), hs, er, ea]) rfl (fun h42 e43 => ?_)
            have k44 := am_at e43
            have k45 := (am_ne e43 (t + 3) (by omega)).trans w1
            have k46 := (am_ne e43 (t + 4) (by omega)).trans w2
            have k47 := (am_ne e43 (t + 5) (by omega)).trans w3
            have k48 := (am_ne e43 (t + 6) (by omega)).trans w4
            have k49 := (am_ne e43 j (by omega)).trans w5
            have k50 := wL.kept (lo := t) (hi := t + 1) (am_fr.st e43 (by omega) (by omega)) (by omega)
            refine q_blk (lv2 := [(0, vr t), (1, vi 1), (2, vi g), (3, vi i), (4, vi (kd e9))]) (st2 := [vi 1, vr t]) kX6_readTerm_51 rfl ?_
            refine AQ.callVi (av := [vi 1]) (st := []) (c_X6_readFactor1 (L := L9) ⟨_, k44, k45, k46, k47, k48, cj, k49, k50⟩ n0 kn (by omega) (by omega) kr vq hL9 (by omega)) lk_RX6_233 (by decide) rfl rfl ⟨_, _, _, k44⟩ ⟨_, rfl, rfl⟩ (Nat.le_of_ble_eq_true rfl) eX6_readTerm_53 (fun z51 h53 e52 => ?_)
            rcases e52 with ⟨⟨rfl, Lh53, hh53e, qh53, ⟨bh53a, bh53b, bh53c⟩, hh53n, hh53c, Xh53, Ch53⟩ | ⟨rfl, eh53, ah53, qh53, Xh53⟩, Fh53⟩
            · skip
              obtain ⟨g54t, g540, g541, g542, g543, g544, g54j, g545, g54L⟩ := id Xh53
              refine q_blk (lv2 := [(0, vr t), (1, vi 1), (2, vi 1), (3, vi i), (4, vi (kd e9))]) (st2 := [vi 42, vi (kd e9), vr t]) kX6_readTerm_56 rfl ?_
              refine AQ.ic_ne (tgt := 70) eX6_readTerm_62 (by decide) (by first | assumption | exact ⟨by omega, by omega⟩) ⟨by decide, by decide⟩ (fun br55 => ?_) (fun br55 => ?_)
              · skip
                refine q_blk (lv2 := [(0, vr t), (1, vi 1), (2, vi 1), (3, vi i), (4, vi (kd e9))]) (st2 := [vi (-9), vr t]) kX6_readTerm_70 rfl ?_
                refine AQ.callVv (av := [vi (-9)]) (st := []) (c_X6_addCode (v := (-9)) ⟨_, g540, g541, g542, g543, g544, cj, g545, g54L⟩ (by omega) (by omega)) lk_RX6_230 (by decide) rfl rfl ⟨_, _, _, g540⟩ ⟨_, rfl, rfl⟩ (Nat.le_of_ble_eq_true rfl) eX6_readTerm_72 (fun h58 e57 => ?_)
                obtain ⟨Xh58, Fh58⟩ := e57
                obtain ⟨g59t, g590, g591, g592, g593, g594, g59j, g595, g59L⟩ := id Xh58
                refine q_blk (lv2 := [(0, vr t), (1, vi 1), (2, vi 1), (3, vi (i + 1)), (4, vi (kd e9))]) (st2 := []) kX6_readTerm_75 rfl ?_
                refine q_goto (tgt := 8) eX6_readTerm_78 (by decide) ?_
                refine q_sub (lv2 := [(0, vr t), (1, vi 1), (2, vi 1), (3, vi (i + 1))]) [0, 1, 2, 3] rfl ?_
                exact ih5 1 (i + 1) h58 (Lh53 ++ [(5, 0)]) hh53e hh53n (am_uI hh53c (Lh53.length : Int) (-9)) (⟨⟨by omega, by omega⟩, hfr.tr (((am_fr.rf.tr (am_fr.st e43 (by omega) (by omega))).tr Fh53).tr Fh58), Or.inl ⟨rfl, ⟨by omega, by omega, by simp; omega⟩, by rw [show 800 - (i + 1).toNat = 800 - i.toNat - 1 by omega]; exact (rJ_go (o := 5) (by omega) (by omega) qh53).symm.trans hJ9, Ch53.add (by unfold gm_en; simp), SU.cast ⟨_, g590, g591, g592, g593, g594, cj, g595, g59L⟩ (by simp)⟩⟩) (by omega)
              · skip
                refine q_blk (lv2 := [(0, vr t), (1, vi 1), (2, vi 1), (3, vi i), (4, vi (kd e9))]) (st2 := [vi (-8), vr t]) kX6_readTerm_65 rfl ?_
                refine q_goto (tgt := 72) eX6_readTerm_67 (by decide) ?_
                refine AQ.callVv (av := [vi (-8)]) (st := []) (c_X6_addCode (v := (-8)) ⟨_, g540, g541, g542, g543, g544, cj, g545, g54L⟩ (by omega) (by omega)) lk_RX6_230 (by decide) rfl rfl ⟨_, _, _, g540⟩ ⟨_, rfl, rfl⟩ (Nat.le_of_ble_eq_true rfl) eX6_readTerm_72 (fun h62 e61 => ?_)
                obtain ⟨Xh62, Fh62⟩ := e61
                obtain ⟨g63t, g630, g631, g632, g633, g634, g63j, g635, g63L⟩ := id Xh62
                refine q_blk (lv2 := [(0, vr t), (1, vi 1), (2, vi 1), (3, vi (i + 1)), (4, vi (kd e9))]) (st2 := []) kX6_readTerm_75 rfl ?_
                refine q_goto (tgt := 8) eX6_readTerm_78 (by decide) ?_
                refine q_sub (lv2 := [(0, vr t), (1, vi 1), (2, vi 1), (3, vi (i + 1))]) [0, 1, 2, 3] rfl ?_
                exact ih5 1 (i + 1) h62 (Lh53 ++ [(4, 0)]) hh53e hh53n (am_uI hh53c (Lh53.length : Int) (-8)) (⟨⟨by omega, by omega⟩, hfr.tr (((am_fr.rf.tr (am_fr.st e43 (by omega) (by omega))).tr Fh53).tr Fh62), Or.inl ⟨rfl, ⟨by omega, by omega, by simp; omega⟩, by rw [show 800 - (i + 1).toNat = 800 - i.toNat - 1 by omega]; exact (rJ_go (o := 4) (by omega) (by omega) qh53).symm.trans hJ9, Ch53.add (by unfold gm_en; simp), SU.cast ⟨_, g630, g631, g632, g633, g634, cj, g635, g63L⟩ (by simp)⟩⟩) (by omega)
            · skip
              refine q_blk (lv2 := [(0, vr t), (1, vi 1), (2, vi 0), (3, vi i), (4, vi (kd e9))]) (st2 := [vi 42, vi (kd e9), vr t]) kX6_readTerm_56 rfl ?_
              refine AQ.ic_ne (tgt := 70) eX6_readTerm_62 (by decide) (by first | assumption | exact ⟨by omega, by omega⟩) ⟨by decide, by decide⟩ (fun br64 => ?_) (fun br64 => ?_)
              · skip
                refine q_blk (lv2 := [(0, vr t), (1, vi 1), (2, vi 0), (3, vi i), (4, vi (kd e9))]) (st2 := [vi (-9), vr t]) kX6_readTerm_70 rfl ?_
                refine AQ.callVv (av := [vi (-9)]) (st := []) (c_X6_addCodeF Xh53 (v := (-9))) lk_RX6_230 (by decide) rfl rfl (SF.ob Xh53) ⟨_, rfl, rfl⟩ (Nat.le_of_ble_eq_true rfl) eX6_readTerm_72 (fun h67 e66 => ?_)
                obtain ⟨Xh67, Fh67⟩ := e66
                refine q_blk (lv2 := [(0, vr t), (1, vi 1), (2, vi 0), (3, vi (i + 1)), (4, vi (kd e9))]) (st2 := []) kX6_readTerm_75 rfl ?_
                refine q_goto (tgt := 8) eX6_readTerm_78 (by decide) ?_
                refine q_sub (lv2 := [(0, vr t), (1, vi 1), (2, vi 0), (3, vi (i + 1))]) [0, 1, 2, 3] rfl ?_
                exact ih5 0 (i + 1) h67 L 0 0 cd (⟨⟨by omega, by omega⟩, hfr.tr (((am_fr.rf.tr (am_fr.st e43 (by omega) (by omega))).tr Fh53).tr Fh67), Or.inr ⟨rfl, _, _, hJ9.symm.trans (rJ_no (by omega) (by omega) qh53), Xh67⟩⟩) (by omega)
              · skip
                refine q_blk (lv2 := [(0, vr t), (1, vi 1), (2, vi 0), (3, vi i), (4, vi (kd e9))]) (st2 := [vi (-8), vr t]) kX6_readTerm_65 rfl ?_
                refine q_goto (tgt := 72) eX6_readTerm_67 (by decide) ?_
                refine AQ.callVv (av := [vi (-8)]) (st := []) (c_X6_addCodeF Xh53 (v := (-8))) lk_RX6_230 (by decide) rfl rfl (SF.ob Xh53) ⟨_, rfl, rfl⟩ (Nat.le_of_ble_eq_true rfl) eX6_readTerm_72 (fun h70 e69 => ?_)
                obtain ⟨Xh70, Fh70⟩ := e69
                refine q_blk (lv2 := [(0, vr t), (1, vi 1), (2, vi 0), (3, vi (i + 1)), (4, vi (kd e9))]) (st2 := []) kX6_readTerm_75 rfl ?_
                refine q_goto (tgt := 8) eX6_readTerm_78 (by decide) ?_
                refine q_sub (lv2 := [(0, vr t), (1, vi 1), (2, vi 0), (3, vi (i + 1))]) [0, 1, 2, 3] rfl ?_
                exact ih5 0 (i + 1) h70 L 0 0 cd (⟨⟨by omega, by omega⟩, hfr.tr (((am_fr.rf.tr (am_fr.st e43 (by omega) (by omega))).tr Fh53).tr Fh70), Or.inr ⟨rfl, _, _, hJ9.symm.trans (rJ_no (by omega) (by omega) qh53), Xh70⟩⟩) (by omega)
          · skip
            refine q_blk (lv2 := [(0, vr t), (1, vi 1), (2, vi g), (3, vi i), (4, vi (kd e9))]) (st2 := [vi 1]) kX6_readTerm_39 rfl ?_
            exact q_rz rfl eX6_readTerm_40 (by decide) ⟨1, rfl, Or.inl ⟨rfl, L9, e9, hJ9.symm.trans (rJ_end (Or.inr ⟨by omega, by omega⟩)), ⟨by omega, by omega, by omega⟩, _, _, ⟨_, w0, w1, w2, w3, w4, cj, w5, wL⟩, hL9⟩, hfr.tr am_fr.rf⟩
  · skip
    refine q_blk (lv2 := [(0, vr t), (1, vi 1), (2, vi 0), (3, vi 0)]) (st2 := []) kX6_readTerm_5 rfl ?_
    refine am_lp7 (I := fun (g : Int) (i : Int) (hh : AH) (L9 : GL) (e9 : Int) (v9 : Int) (c9 : Int → Int) => (0 ≤ i ∧ i ≤ 800) ∧ am_fr h hh t (t + 7) ∧ ((g = 1 ∧ (he < e9 ∧ e9 ≤ n ∧ (L9.length : Int) ≤ (L.length : Int) + (e9 - he)) ∧ rJ kd (rA kd st vl (some (rU kd st vl 2))) 42 47 4 5 (800 - i.toNat) L9 e9 = rM kd st vl (some (rU kd st vl 2)) L he ∧ CL c9 L9 ∧ SU hh t u b j kd st vl e9 v9 px (L9.length : Int) hs er ea c9) ∨ (g = 0 ∧ ∃ e a, rM kd st vl (some (rU kd st vl 2)) L he = .inl (e, a) ∧ SF hh t u b j kd st vl e a))) (μ := fun (g : Int) (i : Int) (hh : AH) (L9 : GL) (e9 : Int) (v9 : Int) (c9 : Int → Int) => (800 - i).toNat) (G := fun (g : Int) (i : Int) (hh : AH) (L9 : GL) (e9 : Int) (v9 : Int) (c9 : Int → Int) => AQ w m_X6_readTerm 14 8 [(0, vr t), (1, vi 1), (2, vi g), (3, vi i)] [] hh (am_int (fun z h1 => ((z = 1 ∧ ∃ L' he', rM kd st vl (some (rU kd st vl 2)) L he = .inr (L', he') ∧ (he < he' ∧ he' ≤ n ∧ (L'.length : Int) ≤ (L.length : Int) + (he' - he)) ∧ ∃ nu' cd', SU h1 t u b j kd st vl he' nu' px (L'.length : Int) hs er ea cd' ∧ CL cd' L') ∨ (z = 0 ∧ ∃ e a, rM kd st vl (some (rU kd st vl 2)) L he = .inl (e, a) ∧ SF h1 t u b j kd st vl e a)) ∧ am_fr h h1 t (t + 7)))) ?_ 0 0 h3 L 0 0 cd (⟨⟨by omega, by omega⟩, (am_fr.rf.tr Fh3), Or.inr ⟨rfl, _, _, by unfold rM; exact rB_l qh3 _, Xh3⟩⟩)
    intro g i hh L9 e9 v9 c9 hI72 ih71
    obtain ⟨⟨i0, i1⟩, hfr, hG⟩ := hI72
    have hg9 : g = 0 ∨ g = 1 := by rcases hG with q | q; exact Or.inr q.1; exact Or.inl q.1
    refine q_blk (lv2 := [(0, vr t), (1, vi 1), (2, vi g), (3, vi i)]) (st2 := [vi 800, vi i]) kX6_readTerm_8 rfl ?_
    refine AQ.ic_ge (tgt := 81) eX6_readTerm_12 (by decide) (by first | assumption | exact ⟨by omega, by omega⟩) ⟨by decide, by decide⟩ (fun br73 => ?_) (fun br73 => ?_)
    · skip
      refine q_blk (lv2 := [(0, vr t), (1, vi 1), (2, vi g), (3, vi i)]) (st2 := [vi g]) kX6_readTerm_81 rfl ?_
      exact q_rz rfl eX6_readTerm_82 (by omega) ⟨g, rfl, (by rcases hG with ⟨rfl, hb9, hJ9, hL9, hS9⟩ | hG; exact Or.inl ⟨rfl, L9, e9, hJ9.symm.trans (rJ_end (Or.inl (by omega))), hb9, _, _, hS9, hL9⟩; exact Or.inr hG), hfr⟩
    · skip
      refine q_blk (lv2 := [(0, vr t), (1, vi 1), (2, vi g), (3, vi i)]) (st2 := [vi g]) kX6_readTerm_15 rfl ?_
      refine AQ.if_eq (tgt := 81) eX6_readTerm_16 (by decide) (by first | assumption | exact ⟨by omega, by omega⟩) (fun br74 => ?_) (fun br74 => ?_)
      · skip
        refine q_blk (lv2 := [(0, vr t), (1, vi 1), (2, vi g), (3, vi i)]) (st2 := [vi g]) kX6_readTerm_81 rfl ?_
        exact q_rz rfl eX6_readTerm_82 (by omega) ⟨g, rfl, (by rcases hG with ⟨rfl, hb9, hJ9, hL9, hS9⟩ | hG; exact Or.inl ⟨rfl, L9, e9, hJ9.symm.trans (rJ_end (Or.inl (by omega))), hb9, _, _, hS9, hL9⟩; exact Or.inr hG), hfr⟩
      · skip
        obtain ⟨-, ⟨b9a, b9b, b9c⟩, hJ9, hL9, hS9⟩ := hG.resolve_right (fun q => absurd q.1 (by omega))
        obtain ⟨wt, w0, w1, w2, w3, w4, wj, w5, wL⟩ := id hS9
        have kr9 := kr e9 (by omega) (by omega)
        have hen9 : kd e9 ≠ 0 → e9 ≠ n := fun q e => by rw [e] at q; omega
        refine q_blk (lv2 := [(0, vr t), (1, vi 1), (2, vi g), (3, vi i)]) (st2 := [vr t]) kX6_readTerm_19 rfl ?_
        refine q_Vi (av := []) (st := []) (c_X6_kindHere ⟨_, w0, w1, w2, w3, w4, cj, w5, wL⟩ (by omega) (by omega)) lk_RX6_70 (by decide) rfl rfl ⟨_, _, _, w0⟩ ⟨_, rfl, rfl⟩ (Nat.le_of_ble_eq_true rfl) eX6_readTerm_20 (fun z75 e76 => ?_)
        subst e76
        refine q_blk (lv2 := [(0, vr t), (1, vi 1), (2, vi g), (3, vi i), (4, vi (kd e9))]) (st2 := [vi 42, vi (kd e9)]) kX6_readTerm_23 rfl ?_
        refine AQ.ic_eq (tgt := 41) eX6_readTerm_29 (by decide) (by first | assumption | exact ⟨by omega, by omega⟩) ⟨by decide, by decide⟩ (fun br77 => ?_) (fun br77 => ?_)
        · skip
          refine q_blk (lv2 := [(0, vr t), (1, vi 1), (2, vi g), (3, vi i), (4, vi (kd e9))]) (st2 := [vr t, vr t]) kX6_readTerm_41 rfl ?_
          refine q_gi eX6_readTerm_43 fl_RX6_28 (Or.inl rfl) w0 (z := e9) rfl ?_
          refine q_blk (lv2 := [(0, vr t), (1, vi 1), (2, vi g), (3, vi i), (4, vi (kd e9))]) (st2 := [vi (e9 + 1), vr t]) kX6_readTerm_46 rfl ?_
          refine q_pi eX6_readTerm_48 fl_RX6_28 (fun q hq => by cases hq; exact Or.inl rfl) (Or.inl rfl) w0 (Nat.le_of_ble_eq_true rfl) (l2 := [0, 0, 0, 0, 0, 0, 0, wt, (e9 + 1), v9, px, (L9.length : Int), hs, er, ea]) rfl (fun h78 e79 => ?_)
          have k80 := am_at e79
          have k81 := (am_ne e79 (t + 3) (by omega)).trans w1
          have k82 := (am_ne e79 (t + 4) (by omega)).trans w2
          have k83 := (am_ne e79 (t + 5) (by omega)).trans w3
          have k84 := (am_ne e79 (t + 6) (by omega)).trans w4
          have k85 := (am_ne e79 j (by omega)).trans w5
          have k86 := wL.kept (lo := t) (hi := t + 1) (am_fr.st e79 (by omega) (by omega)) (by omega)
          refine q_blk (lv2 := [(0, vr t), (1, vi 1), (2, vi g), (3, vi i), (4, vi (kd e9))]) (st2 := [vi 1, vr t]) kX6_readTerm_51 rfl ?_
          refine AQ.callVi (av := [vi 1]) (st := []) (c_X6_readFactor1 (L := L9) ⟨_, k80, k81, k82, k83, k84, cj, k85, k86⟩ n0 kn (by omega) (by omega) kr vq hL9 (by omega)) lk_RX6_233 (by decide) rfl rfl ⟨_, _, _, k80⟩ ⟨_, rfl, rfl⟩ (Nat.le_of_ble_eq_true rfl) eX6_readTerm_53 (fun z87 h89 e88 => ?_)
          rcases e88 with ⟨⟨rfl, Lh89, hh89e, qh89, ⟨bh89a, bh89b, bh89c⟩, hh89n, hh89c, Xh89, Ch89⟩ | ⟨rfl, eh89, ah89, qh89, Xh89⟩, Fh89⟩
          · skip
            obtain ⟨g90t, g900, g901, g902, g903, g904, g90j, g905, g90L⟩ := id Xh89
            refine q_blk (lv2 := [(0, vr t), (1, vi 1), (2, vi 1), (3, vi i), (4, vi (kd e9))]) (st2 := [vi 42, vi (kd e9), vr t]) kX6_readTerm_56 rfl ?_
            refine AQ.ic_ne (tgt := 70) eX6_readTerm_62 (by decide) (by first | assumption | exact ⟨by omega, by omega⟩) ⟨by decide, by decide⟩ (fun br91 => ?_) (fun br91 => ?_)
            · skip
              refine q_blk (lv2 := [(0, vr t), (1, vi 1), (2, vi 1), (3, vi i), (4, vi (kd e9))]) (st2 := [vi (-9), vr t]) kX6_readTerm_70 rfl ?_
              refine AQ.callVv (av := [vi (-9)]) (st := []) (c_X6_addCode (v := (-9)) ⟨_, g900, g901, g902, g903, g904, cj, g905, g90L⟩ (by omega) (by omega)) lk_RX6_230 (by decide) rfl rfl ⟨_, _, _, g900⟩ ⟨_, rfl, rfl⟩ (Nat.le_of_ble_eq_true rfl) eX6_readTerm_72 (fun h94 e93 => ?_)
              obtain ⟨Xh94, Fh94⟩ := e93
              obtain ⟨g95t, g950, g951, g952, g953, g954, g95j, g955, g95L⟩ := id Xh94
              refine q_blk (lv2 := [(0, vr t), (1, vi 1), (2, vi 1), (3, vi (i + 1)), (4, vi (kd e9))]) (st2 := []) kX6_readTerm_75 rfl ?_
              refine q_goto (tgt := 8) eX6_readTerm_78 (by decide) ?_
              refine q_sub (lv2 := [(0, vr t), (1, vi 1), (2, vi 1), (3, vi (i + 1))]) [0, 1, 2, 3] rfl ?_
              exact ih71 1 (i + 1) h94 (Lh89 ++ [(5, 0)]) hh89e hh89n (am_uI hh89c (Lh89.length : Int) (-9)) (⟨⟨by omega, by omega⟩, hfr.tr (((am_fr.rf.tr (am_fr.st e79 (by omega) (by omega))).tr Fh89).tr Fh94), Or.inl ⟨rfl, ⟨by omega, by omega, by simp; omega⟩, by rw [show 800 - (i + 1).toNat = 800 - i.toNat - 1 by omega]; exact (rJ_go (o := 5) (by omega) (by omega) qh89).symm.trans hJ9, Ch89.add (by unfold gm_en; simp), SU.cast ⟨_, g950, g951, g952, g953, g954, cj, g955, g95L⟩ (by simp)⟩⟩) (by omega)
            · skip
              refine q_blk (lv2 := [(0, vr t), (1, vi 1), (2, vi 1), (3, vi i), (4, vi (kd e9))]) (st2 := [vi (-8), vr t]) kX6_readTerm_65 rfl ?_
              refine q_goto (tgt := 72) eX6_readTerm_67 (by decide) ?_
              refine AQ.callVv (av := [vi (-8)]) (st := []) (c_X6_addCode (v := (-8)) ⟨_, g900, g901, g902, g903, g904, cj, g905, g90L⟩ (by omega) (by omega)) lk_RX6_230 (by decide) rfl rfl ⟨_, _, _, g900⟩ ⟨_, rfl, rfl⟩ (Nat.le_of_ble_eq_true rfl) eX6_readTerm_72 (fun h98 e97 => ?_)
              obtain ⟨Xh98, Fh98⟩ := e97
              obtain ⟨g99t, g990, g991, g992, g993, g994, g99j, g995, g99L⟩ := id Xh98
              refine q_blk (lv2 := [(0, vr t), (1, vi 1), (2, vi 1), (3, vi (i + 1)), (4, vi (kd e9))]) (st2 := []) kX6_readTerm_75 rfl ?_
              refine q_goto (tgt := 8) eX6_readTerm_78 (by decide) ?_
              refine q_sub (lv2 := [(0, vr t), (1, vi 1), (2, vi 1), (3, vi (i + 1))]) [0, 1, 2, 3] rfl ?_
              exact ih71 1 (i + 1) h98 (Lh89 ++ [(4, 0)]) hh89e hh89n (am_uI hh89c (Lh89.length : Int) (-8)) (⟨⟨by omega, by omega⟩, hfr.tr (((am_fr.rf.tr (am_fr.st e79 (by omega) (by omega))).tr Fh89).tr Fh98), Or.inl ⟨rfl, ⟨by omega, by omega, by simp; omega⟩, by rw [show 800 - (i + 1).toNat = 800 - i.toNat - 1 by omega]; exact (rJ_go (o := 4) (by omega) (by omega) qh89).symm.trans hJ9, Ch89.add (by unfold gm_en; simp), SU.cast ⟨_, g990, g991, g992, g993, g994, cj, g995, g99L⟩ (by simp)⟩⟩) (by omega)
          · skip
            refine q_blk (lv2 := [(0, vr t), (1, vi 1), (2, vi 0), (3, vi i), (4, vi (kd e9))]) (st2 := [vi 42, vi (kd e9), vr t]) kX6_readTerm_56 rfl ?_
            refine AQ.ic_ne (tgt := 70) eX6_readTerm_62 (by decide) (by first | assumption | exact ⟨by omega, by omega⟩) ⟨by decide, by decide⟩ (fun br100 => ?_) (fun br100 => ?_)
            · skip
              refine q_blk (lv2 := [(0, vr t), (1, vi 1), (2, vi 0), (3, vi i), (4, vi (kd e9))]) (st2 := [vi (-9), vr t]) kX6_readTerm_70 rfl ?_
              refine AQ.callVv (av := [vi (-9)]) (st := []) (c_X6_addCodeF Xh89 (v := (-9))) lk_RX6_230 (by decide) rfl rfl (SF.ob Xh89) ⟨_, rfl, rfl⟩ (Nat.le_of_ble_eq_true rfl) eX6_readTerm_72 (fun h103 e102 => ?_)
              obtain ⟨Xh103, Fh103⟩ := e102
              refine q_blk (lv2 := [(0, vr t), (1, vi 1), (2, vi 0), (3, vi (i + 1)), (4, vi (kd e9))]) (st2 := []) kX6_readTerm_75 rfl ?_
              refine q_goto (tgt := 8) eX6_readTerm_78 (by decide) ?_
              refine q_sub (lv2 := [(0, vr t), (1, vi 1), (2, vi 0), (3, vi (i + 1))]) [0, 1, 2, 3] rfl ?_
              exact ih71 0 (i + 1) h103 L 0 0 cd (⟨⟨by omega, by omega⟩, hfr.tr (((am_fr.rf.tr (am_fr.st e79 (by omega) (by omega))).tr Fh89).tr Fh103), Or.inr ⟨rfl, _, _, hJ9.symm.trans (rJ_no (by omega) (by omega) qh89), Xh103⟩⟩) (by omega)
            · skip
              refine q_blk (lv2 := [(0, vr t), (1, vi 1), (2, vi 0), (3, vi i), (4, vi (kd e9))]) (st2 := [vi (-8), vr t]) kX6_readTerm_65 rfl ?_
              refine q_goto (tgt := 72) eX6_readTerm_67 (by decide) ?_
              refine AQ.callVv (av := [vi (-8)]) (st := []) (c_X6_addCodeF Xh89 (v := (-8))) lk_RX6_230 (by decide) rfl rfl (SF.ob Xh89) ⟨_, rfl, rfl⟩ (Nat.le_of_ble_eq_true rfl) eX6_readTerm_72 (fun h106 e105 => ?_)
              obtain ⟨Xh106, Fh106⟩ := e105
              refine q_blk (lv2 := [(0, vr t), (1, vi 1), (2, vi 0), (3, vi (i + 1)), (4, vi (kd e9))]) (st2 := []) kX6_readTerm_75 rfl ?_
              refine q_goto (tgt := 8) eX6_readTerm_78 (by decide) ?_
              refine q_sub (lv2 := [(0, vr t), (1, vi 1), (2, vi 0), (3, vi (i + 1))]) [0, 1, 2, 3] rfl ?_
              exact ih71 0 (i + 1) h106 L 0 0 cd (⟨⟨by omega, by omega⟩, hfr.tr (((am_fr.rf.tr (am_fr.st e79 (by omega) (by omega))).tr Fh89).tr Fh106), Or.inr ⟨rfl, _, _, hJ9.symm.trans (rJ_no (by omega) (by omega) qh89), Xh106⟩⟩) (by omega)
        · skip
          refine q_blk (lv2 := [(0, vr t), (1, vi 1), (2, vi g), (3, vi i), (4, vi (kd e9))]) (st2 := [vi 47, vi (kd e9)]) kX6_readTerm_32 rfl ?_
          refine AQ.ic_eq (tgt := 41) eX6_readTerm_36 (by decide) (by first | assumption | exact ⟨by omega, by omega⟩) ⟨by decide, by decide⟩ (fun br107 => ?_) (fun br107 => ?_)
          · skip
            refine q_blk (lv2 := [(0, vr t), (1, vi 1), (2, vi g), (3, vi i), (4, vi (kd e9))]) (st2 := [vr t, vr t]) kX6_readTerm_41 rfl ?_
            refine q_gi eX6_readTerm_43 fl_RX6_28 (Or.inl rfl) w0 (z := e9) rfl ?_
            refine q_blk (lv2 := [(0, vr t), (1, vi 1), (2, vi g), (3, vi i), (4, vi (kd e9))]) (st2 := [vi (e9 + 1), vr t]) kX6_readTerm_46 rfl ?_
            refine q_pi eX6_readTerm_48 fl_RX6_28 (fun q hq => by cases hq; exact Or.inl rfl) (Or.inl rfl) w0 (Nat.le_of_ble_eq_true rfl) (l2 := [0, 0, 0, 0, 0, 0, 0, wt, (e9 + 1), v9, px, (L9.length : Int), hs, er, ea]) rfl (fun h108 e109 => ?_)
            have k110 := am_at e109
            have k111 := (am_ne e109 (t + 3) (by omega)).trans w1
            have k112 := (am_ne e109 (t + 4) (by omega)).trans w2
            have k113 := (am_ne e109 (t + 5) (by omega)).trans w3
            have k114 := (am_ne e109 (t + 6) (by omega)).trans w4
            have k115 := (am_ne e109 j (by omega)).trans w5
            have k116 := wL.kept (lo := t) (hi := t + 1) (am_fr.st e109 (by omega) (by omega)) (by omega)
            refine q_blk (lv2 := [(0, vr t), (1, vi 1), (2, vi g), (3, vi i), (4, vi (kd e9))]) (st2 := [vi 1, vr t]) kX6_readTerm_51 rfl ?_
            refine AQ.callVi (av := [vi 1]) (st := []) (c_X6_readFactor1 (L := L9) ⟨_, k110, k111, k112, k113, k114, cj, k115, k116⟩ n0 kn (by omega) (by omega) kr vq hL9 (by omega)) lk_RX6_233 (by decide) rfl rfl ⟨_, _, _, k110⟩ ⟨_, rfl, rfl⟩ (Nat.le_of_ble_eq_true rfl) eX6_readTerm_53 (fun z117 h119 e118 => ?_)
            rcases e118 with ⟨⟨rfl, Lh119, hh119e, qh119, ⟨bh119a, bh119b, bh119c⟩, hh119n, hh119c, Xh119, Ch119⟩ | ⟨rfl, eh119, ah119, qh119, Xh119⟩, Fh119⟩
            · skip
              obtain ⟨g120t, g1200, g1201, g1202, g1203, g1204, g120j, g1205, g120L⟩ := id Xh119
              refine q_blk (lv2 := [(0, vr t), (1, vi 1), (2, vi 1), (3, vi i), (4, vi (kd e9))]) (st2 := [vi 42, vi (kd e9), vr t]) kX6_readTerm_56 rfl ?_
              refine AQ.ic_ne (tgt := 70) eX6_readTerm_62 (by decide) (by first | assumption | exact ⟨by omega, by omega⟩) ⟨by decide, by decide⟩ (fun br121 => ?_) (fun br121 => ?_)
              · skip
                refine q_blk (lv2 := [(0, vr t), (1, vi 1), (2, vi 1), (3, vi i), (4, vi (kd e9))]) (st2 := [vi (-9), vr t]) kX6_readTerm_70 rfl ?_
                refine AQ.callVv (av := [vi (-9)]) (st := []) (c_X6_addCode (v := (-9)) ⟨_, g1200, g1201, g1202, g1203, g1204, cj, g1205, g120L⟩ (by omega) (by omega)) lk_RX6_230 (by decide) rfl rfl ⟨_, _, _, g1200⟩ ⟨_, rfl, rfl⟩ (Nat.le_of_ble_eq_true rfl) eX6_readTerm_72 (fun h124 e123 => ?_)
                obtain ⟨Xh124, Fh124⟩ := e123
                obtain ⟨g125t, g1250, g1251, g1252, g1253, g1254, g125j, g1255, g125L⟩ := id Xh124
                refine q_blk (lv2 := [(0, vr t), (1, vi 1), (2, vi 1), (3, vi (i + 1)), (4, vi (kd e9))]) (st2 := []) kX6_readTerm_75 rfl ?_
                refine q_goto (tgt := 8) eX6_readTerm_78 (by decide) ?_
                refine q_sub (lv2 := [(0, vr t), (1, vi 1), (2, vi 1), (3, vi (i + 1))]) [0, 1, 2, 3] rfl ?_
                exact ih71 1 (i + 1) h124 (Lh119 ++ [(5, 0)]) hh119e hh119n (am_uI hh119c (Lh119.length : Int) (-9)) (⟨⟨by omega, by omega⟩, hfr.tr (((am_fr.rf.tr (am_fr.st e109 (by omega) (by omega))).tr Fh119).tr Fh124), Or.inl ⟨rfl, ⟨by omega, by omega, by simp; omega⟩, by rw [show 800 - (i + 1).toNat = 800 - i.toNat - 1 by omega]; exact (rJ_go (o := 5) (by omega) (by omega) qh119).symm.trans hJ9, Ch119.add (by unfold gm_en; simp), SU.cast ⟨_, g1250, g1251, g1252, g1253, g1254, cj, g1255, g125L⟩ (by simp)⟩⟩) (by omega)
              · skip
                refine q_blk (lv2 := [(0, vr t), (1, vi 1), (2, vi 1), (3, vi i), (4, vi (kd e9))]) (st2 := [vi (-8), vr t]) kX6_readTerm_65 rfl ?_
                refine q_goto (tgt := 72) eX6_readTerm_67 (by decide) ?_
                refine AQ.callVv (av := [vi (-8)]) (st := []) (c_X6_addCode (v := (-8)) ⟨_, g1200, g1201, g1202, g1203, g1204, cj, g1205, g120L⟩ (by omega) (by omega)) lk_RX6_230 (by decide) rfl rfl ⟨_, _, _, g1200⟩ ⟨_, rfl, rfl⟩ (Nat.le_of_ble_eq_true rfl) eX6_readTerm_72 (fun h128 e127 => ?_)
                obtain ⟨Xh128, Fh128⟩ := e127
                obtain ⟨g129t, g1290, g1291, g1292, g1293, g1294, g129j, g1295, g129L⟩ := id Xh128
                refine q_blk (lv2 := [(0, vr t), (1, vi 1), (2, vi 1), (3, vi (i + 1)), (4, vi (kd e9))]) (st2 := []) kX6_readTerm_75 rfl ?_
                refine q_goto (tgt := 8) eX6_readTerm_78 (by decide) ?_
                refine q_sub (lv2 := [(0, vr t), (1, vi 1), (2, vi 1), (3, vi (i + 1))]) [0, 1, 2, 3] rfl ?_
                exact ih71 1 (i + 1) h128 (Lh119 ++ [(4, 0)]) hh119e hh119n (am_uI hh119c (Lh119.length : Int) (-8)) (⟨⟨by omega, by omega⟩, hfr.tr (((am_fr.rf.tr (am_fr.st e109 (by omega) (by omega))).tr Fh119).tr Fh128), Or.inl ⟨rfl, ⟨by omega, by omega, by simp; omega⟩, by rw [show 800 - (i + 1).toNat = 800 - i.toNat - 1 by omega]; exact (rJ_go (o := 4) (by omega) (by omega) qh119).symm.trans hJ9, Ch119.add (by unfold gm_en; simp), SU.cast ⟨_, g1290, g1291, g1292, g1293, g1294, cj, g1295, g129L⟩ (by simp)⟩⟩) (by omega)
            · skip
              refine q_blk (lv2 := [(0, vr t), (1, vi 1), (2, vi 0), (3, vi i), (4, vi (kd e9))]) (st2 := [vi 42, vi (kd e9), vr t]) kX6_readTerm_56 rfl ?_
              refine AQ.ic_ne (tgt := 70) eX6_readTerm_62 (by decide) (by first | assumption | exact ⟨by omega, by omega⟩) ⟨by decide, by decide⟩ (fun br130 => ?_) (fun br130 => ?_)
              · skip
                refine q_blk (lv2 := [(0, vr t), (1, vi 1), (2, vi 0), (3, vi i), (4, vi (kd e9))]) (st2 := [vi (-9), vr t]) kX6_readTerm_70 rfl ?_
                refine AQ.callVv (av := [vi (-9)]) (st := []) (c_X6_addCodeF Xh119 (v := (-9))) lk_RX6_230 (by decide) rfl rfl (SF.ob Xh119) ⟨_, rfl, rfl⟩ (Nat.le_of_ble_eq_true rfl) eX6_readTerm_72 (fun h133 e132 => ?_)
                obtain ⟨Xh133, Fh133⟩ := e132
                refine q_blk (lv2 := [(0, vr t), (1, vi 1), (2, vi 0), (3, vi (i + 1)), (4, vi (kd e9))]) (st2 := []) kX6_readTerm_75 rfl ?_
                refine q_goto (tgt := 8) eX6_readTerm_78 (by decide) ?_
                refine q_sub (lv2 := [(0, vr t), (1, vi 1), (2, vi 0), (3, vi (i + 1))]) [0, 1, 2, 3] rfl ?_
                exact ih71 0 (i + 1) h133 L 0 0 cd (⟨⟨by omega, by omega⟩, hfr.tr (((am_fr.rf.tr (am_fr.st e109 (by omega) (by omega))).tr Fh119).tr Fh133), Or.inr ⟨rfl, _, _, hJ9.symm.trans (rJ_no (by omega) (by omega) qh119), Xh133⟩⟩) (by omega)
              · skip
                refine q_blk (lv2 := [(0, vr t), (1, vi 1), (2, vi 0), (3, vi i), (4, vi (kd e9))]) (st2 := [vi (-8), vr t]) kX6_readTerm_65 rfl ?_
                refine q_goto (tgt := 72) eX6_readTerm_67 (by decide) ?_
                refine AQ.callVv (av := [vi (-8)]) (st := []) (c_X6_addCodeF Xh119 (v := (-8))) lk_RX6_230 (by decide) rfl rfl (SF.ob Xh119) ⟨_, rfl, rfl⟩ (Nat.le_of_ble_eq_true rfl) eX6_readTerm_72 (fun h136 e135 => ?_)
                obtain ⟨Xh136, Fh136⟩ := e135
                refine q_blk (lv2 := [(0, vr t), (1, vi 1), (2, vi 0), (3, vi (i + 1)), (4, vi (kd e9))]) (st2 := []) kX6_readTerm_75 rfl ?_
                refine q_goto (tgt := 8) eX6_readTerm_78 (by decide) ?_
                refine q_sub (lv2 := [(0, vr t), (1, vi 1), (2, vi 0), (3, vi (i + 1))]) [0, 1, 2, 3] rfl ?_
                exact ih71 0 (i + 1) h136 L 0 0 cd (⟨⟨by omega, by omega⟩, hfr.tr (((am_fr.rf.tr (am_fr.st e109 (by omega) (by omega))).tr Fh119).tr Fh136), Or.inr ⟨rfl, _, _, hJ9.symm.trans (rJ_no (by omega) (by omega) qh119), Xh136⟩⟩) (by omega)
          · skip
            refine q_blk (lv2 := [(0, vr t), (1, vi 1), (2, vi g), (3, vi i), (4, vi (kd e9))]) (st2 := [vi 1]) kX6_readTerm_39 rfl ?_
            exact q_rz rfl eX6_readTerm_40 (by decide) ⟨1, rfl, Or.inl ⟨rfl, L9, e9, hJ9.symm.trans (rJ_end (Or.inr ⟨by omega, by omega⟩)), ⟨by omega, by omega, by omega⟩, _, _, ⟨_, w0, w1, w2, w3, w4, cj, w5, wL⟩, hL9⟩, hfr.tr am_fr.rf⟩

set_option maxHeartbeats 1000000 in
theorem c_X6_readSum1 {w : am_w} {h : AH} {L : GL} {t u b j : Nat} {kd st vl : Int → Int} {he nu px hs er ea : Int} {cd : Int → Int} (hS : SU h t u b j kd st vl he nu px (L.length : Int) hs er ea cd) {n : Int} (n0 : n ≤ 800) (kn : kd n = 0) (he0 : 0 ≤ he) (he1 : he ≤ n) (kr : ∀ i, 0 ≤ i → i < 801 → -5 ≤ kd i ∧ kd i ≤ 100) (vq : ∀ i, 0 ≤ i → i < 801 → 0 ≤ vl i ∧ vl i ≤ 10000) (hL : CL cd L) (hl : (L.length : Int) ≤ he)  : AE w m_X6_readSum 15 [vr t, vi 1] h (am_int (fun z h1 => ((z = 1 ∧ ∃ L' he', rU kd st vl 3 L he = .inr (L', he') ∧ (he < he' ∧ he' ≤ n ∧ (L'.length : Int) ≤ (L.length : Int) + (he' - he)) ∧ ∃ nu' cd', SU h1 t u b j kd st vl he' nu' px (L'.length : Int) hs er ea cd' ∧ CL cd' L') ∨ (z = 0 ∧ ∃ e a, rU kd st vl 3 L he = .inl (e, a) ∧ SF h1 t u b j kd st vl e a)) ∧ am_fr h h1 t (t + 7))) := by
  refine AE.of wf_X6_readSum (Nat.le_of_ble_eq_true rfl) (am_ok_z (fun z h1 q => by rcases q.1 with q | q; exact Or.inr q.1; exact Or.inl q.1)) ?_
  obtain ⟨tc, c0, c1, c2, c3, c4, cj, c5, cL⟩ := id hS
  have kr1 := kr he he0 (by omega)
  have vr1 := vq he he0 (by omega)
  have hen : kd he ≠ 0 → he ≠ n := fun q e9 => by rw [e9] at q; omega
  refine q_blk (lv2 := [(0, vr t), (1, vi 1)]) (st2 := [vi 1, vr t]) kX6_readSum_0 rfl ?_
  refine AQ.callVi (av := [vi 1]) (st := []) (c_X6_readTerm1 (L := L) ⟨_, c0, c1, c2, c3, c4, cj, c5, cL⟩ n0 kn (by omega) (by omega) kr vq hL (by omega)) lk_RX6_227 (by decide) rfl rfl ⟨_, _, _, c0⟩ ⟨_, rfl, rfl⟩ (Nat.le_of_ble_eq_true rfl) eX6_readSum_2 (fun z1 h3 e2 => ?_)
  rcases e2 with ⟨⟨rfl, Lh3, hh3e, qh3, ⟨bh3a, bh3b, bh3c⟩, hh3n, hh3c, Xh3, Ch3⟩ | ⟨rfl, eh3, ah3, qh3, Xh3⟩, Fh3⟩
  · skip
    obtain ⟨g4t, g40, g41, g42, g43, g44, g4j, g45, g4L⟩ := id Xh3
    refine q_blk (lv2 := [(0, vr t), (1, vi 1), (2, vi 1), (3, vi 0)]) (st2 := []) kX6_readSum_5 rfl ?_
    refine am_lp7 (I := fun (g : Int) (i : Int) (hh : AH) (L9 : GL) (e9 : Int) (v9 : Int) (c9 : Int → Int) => (0 ≤ i ∧ i ≤ 800) ∧ am_fr h hh t (t + 7) ∧ ((g = 1 ∧ (he < e9 ∧ e9 ≤ n ∧ (L9.length : Int) ≤ (L.length : Int) + (e9 - he)) ∧ rJ kd (rM kd st vl (some (rU kd st vl 2))) 43 45 2 3 (800 - i.toNat) L9 e9 = rU kd st vl 3 L he ∧ CL c9 L9 ∧ SU hh t u b j kd st vl e9 v9 px (L9.length : Int) hs er ea c9) ∨ (g = 0 ∧ ∃ e a, rU kd st vl 3 L he = .inl (e, a) ∧ SF hh t u b j kd st vl e a))) (μ := fun (g : Int) (i : Int) (hh : AH) (L9 : GL) (e9 : Int) (v9 : Int) (c9 : Int → Int) => (800 - i).toNat) (G := fun (g : Int) (i : Int) (hh : AH) (L9 : GL) (e9 : Int) (v9 : Int) (c9 : Int → Int) => AQ w m_X6_readSum 15 8 [(0, vr t), (1, vi 1), (2, vi g), (3, vi i)] [] hh (am_int (fun z h1 => ((z = 1 ∧ ∃ L' he', rU kd st vl 3 L he = .inr (L', he') ∧ (he < he' ∧ he' ≤ n ∧ (L'.length : Int) ≤ (L.length : Int) + (he' - he)) ∧ ∃ nu' cd', SU h1 t u b j kd st vl he' nu' px (L'.length : Int) hs er ea cd' ∧ CL cd' L') ∨ (z = 0 ∧ ∃ e a, rU kd st vl 3 L he = .inl (e, a) ∧ SF h1 t u b j kd st vl e a)) ∧ am_fr h h1 t (t + 7)))) ?_ 1 0 h3 Lh3 hh3e hh3n hh3c (⟨⟨by omega, by omega⟩, (am_fr.rf.tr Fh3), Or.inl ⟨rfl, ⟨by omega, by omega, by omega⟩, by rw [show (800 - (0 : Int).toNat : Nat) = 800 from rfl]; rw [rU_3]; rw [rB_r qh3], Ch3, ⟨_, g40, g41, g42, g43, g44, cj, g45, g4L⟩⟩⟩)
    intro g i hh L9 e9 v9 c9 hI6 ih5
    obtain ⟨⟨i0, i1⟩, hfr, hG⟩ := hI6
    have hg9 : g = 0 ∨ g = 1 := by rcases hG with q | q; exact Or.inr q.1; exact Or.inl q.1
    refine q_blk (lv2 := [(0, vr t), (1, vi 1), (2, vi g), (3, vi i)]) (st2 := [vi 800, vi i]) kX6_readSum_8 rfl ?_
    refine AQ.ic_ge (tgt := 81) eX6_readSum_12 (by decide) (by first | assumption | exact ⟨by omega, by omega⟩) ⟨by decide, by decide⟩ (fun br7 => ?_) (fun br7 => ?_)
    · skip
      refine q_blk (lv2 := [(0, vr t), (1, vi 1), (2, vi g), (3, vi i)]) (st2 := [vi g]) kX6_readSum_81 rfl ?_
      exact q_rz rfl eX6_readSum_82 (by omega) ⟨g, rfl, (by rcases hG with ⟨rfl, hb9, hJ9, hL9, hS9⟩ | hG; exact Or.inl ⟨rfl, L9, e9, hJ9.symm.trans (rJ_end (Or.inl (by omega))), hb9, _, _, hS9, hL9⟩; exact Or.inr hG), hfr⟩
    · skip
      refine q_blk (lv2 := [(0, vr t), (1, vi 1), (2, vi g), (3, vi i)]) (st2 := [vi g]) kX6_readSum_15 rfl ?_
      refine AQ.if_eq (tgt := 81) eX6_readSum_16 (by decide) (by first | assumption | exact ⟨by omega, by omega⟩) (fun br8 => ?_) (fun br8 => ?_)
      · skip
        refine q_blk (lv2 := [(0, vr t), (1, vi 1), (2, vi g), (3, vi i)]) (st2 := [vi g]) kX6_readSum_81 rfl ?_
        exact q_rz rfl eX6_readSum_82 (by omega) ⟨g, rfl, (by rcases hG with ⟨rfl, hb9, hJ9, hL9, hS9⟩ | hG; exact Or.inl ⟨rfl, L9, e9, hJ9.symm.trans (rJ_end (Or.inl (by omega))), hb9, _, _, hS9, hL9⟩; exact Or.inr hG), hfr⟩
      · skip
        obtain ⟨-, ⟨b9a, b9b, b9c⟩, hJ9, hL9, hS9⟩ := hG.resolve_right (fun q => absurd q.1 (by omega))
        obtain ⟨wt, w0, w1, w2, w3, w4, wj, w5, wL⟩ := id hS9
        have kr9 := kr e9 (by omega) (by omega)
        have hen9 : kd e9 ≠ 0 → e9 ≠ n := fun q e => by rw [e] at q; omega
        refine q_blk (lv2 := [(0, vr t), (1, vi 1), (2, vi g), (3, vi i)]) (st2 := [vr t]) kX6_readSum_19 rfl ?_
        refine q_Vi (av := []) (st := []) (c_X6_kindHere ⟨_, w0, w1, w2, w3, w4, cj, w5, wL⟩ (by omega) (by omega)) lk_RX6_70 (by decide) rfl rfl ⟨_, _, _, w0⟩ ⟨_, rfl, rfl⟩ (Nat.le_of_ble_eq_true rfl) eX6_readSum_20 (fun z9 e10 => ?_)
        subst e10
        refine q_blk (lv2 := [(0, vr t), (1, vi 1), (2, vi g), (3, vi i), (4, vi (kd e9))]) (st2 := [vi 43, vi (kd e9)]) kX6_readSum_23 rfl ?_
        refine AQ.ic_eq (tgt := 41) eX6_readSum_29 (by decide) (by first | assumption | exact ⟨by omega, by omega⟩) ⟨by decide, by decide⟩ (fun br11 => ?_) (fun br11 => ?_)
        · skip
          refine q_blk (lv2 := [(0, vr t), (1, vi 1), (2, vi g), (3, vi i), (4, vi (kd e9))]) (st2 := [vr t, vr t]) kX6_readSum_41 rfl ?_
          refine q_gi eX6_readSum_43 fl_RX6_28 (Or.inl rfl) w0 (z := e9) rfl ?_
          refine q_blk (lv2 := [(0, vr t), (1, vi 1), (2, vi g), (3, vi i), (4, vi (kd e9))]) (st2 := [vi (e9 + 1), vr t]) kX6_readSum_46 rfl ?_
          refine q_pi eX6_readSum_48 fl_RX6_28 (fun q hq => by cases hq; exact Or.inl rfl) (Or.inl rfl) w0 (Nat.le_of_ble_eq_true rfl) (l2 := [0, 0, 0, 0, 0, 0, 0, wt, (e9 + 1), v9, px, (L9.length : Int), hs, er, ea]) rfl (fun h12 e13 => ?_)
          have k14 := am_at e13
          have k15 := (am_ne e13 (t + 3) (by omega)).trans w1
          have k16 := (am_ne e13 (t + 4) (by omega)).trans w2
          have k17 := (am_ne e13 (t + 5) (by omega)).trans w3
          have k18 := (am_ne e13 (t + 6) (by omega)).trans w4
          have k19 := (am_ne e13 j (by omega)).trans w5
          have k20 := wL.kept (lo := t) (hi := t + 1) (am_fr.st e13 (by omega) (by omega)) (by omega)
          refine q_blk (lv2 := [(0, vr t), (1, vi 1), (2, vi g), (3, vi i), (4, vi (kd e9))]) (st2 := [vi 1, vr t]) kX6_readSum_51 rfl ?_
          refine AQ.callVi (av := [vi 1]) (st := []) (c_X6_readTerm1 (L := L9) ⟨_, k14, k15, k16, k17, k18, cj, k19, k20⟩ n0 kn (by omega) (by omega) kr vq hL9 (by omega)) lk_RX6_227 (by decide) rfl rfl ⟨_, _, _, k14⟩ ⟨_, rfl, rfl⟩ (Nat.le_of_ble_eq_true rfl) eX6_readSum_53 (fun z21 h23 e22 => ?_)
          rcases e22 with ⟨⟨rfl, Lh23, hh23e, qh23, ⟨bh23a, bh23b, bh23c⟩, hh23n, hh23c, Xh23, Ch23⟩ | ⟨rfl, eh23, ah23, qh23, Xh23⟩, Fh23⟩
          · skip
            obtain ⟨g24t, g240, g241, g242, g243, g244, g24j, g245, g24L⟩ := id Xh23
            refine q_blk (lv2 := [(0, vr t), (1, vi 1), (2, vi 1), (3, vi i), (4, vi (kd e9))]) (st2 := [vi 43, vi (kd e9), vr t]) kX6_readSum_56 rfl ?_
            refine AQ.ic_ne (tgt := 70) eX6_readSum_62 (by decide) (by first | assumption | exact ⟨by omega, by omega⟩) ⟨by decide, by decide⟩ (fun br25 => ?_) (fun br25 => ?_)
            · skip
              refine q_blk (lv2 := [(0, vr t), (1, vi 1), (2, vi 1), (3, vi i), (4, vi (kd e9))]) (st2 := [vi (-7), vr t]) kX6_readSum_70 rfl ?_
              refine AQ.callVv (av := [vi (-7)]) (st := []) (c_X6_addCode (v := (-7)) ⟨_, g240, g241, g242, g243, g244, cj, g245, g24L⟩ (by omega) (by omega)) lk_RX6_230 (by decide) rfl rfl ⟨_, _, _, g240⟩ ⟨_, rfl, rfl⟩ (Nat.le_of_ble_eq_true rfl) eX6_readSum_72 (fun h28 e27 => ?_)
              obtain ⟨Xh28, Fh28⟩ := e27
              obtain ⟨g29t, g290, g291, g292, g293, g294, g29j, g295, g29L⟩ := id Xh28
              refine q_blk (lv2 := [(0, vr t), (1, vi 1), (2, vi 1), (3, vi (i + 1)), (4, vi (kd e9))]) (st2 := []) kX6_readSum_75 rfl ?_
              refine q_goto (tgt := 8) eX6_readSum_78 (by decide) ?_
              refine q_sub (lv2 := [(0, vr t), (1, vi 1), (2, vi 1), (3, vi (i + 1))]) [0, 1, 2, 3] rfl ?_
              exact ih5 1 (i + 1) h28 (Lh23 ++ [(3, 0)]) hh23e hh23n (am_uI hh23c (Lh23.length : Int) (-7)) (⟨⟨by omega, by omega⟩, hfr.tr (((am_fr.rf.tr (am_fr.st e13 (by omega) (by omega))).tr Fh23).tr Fh28), Or.inl ⟨rfl, ⟨by omega, by omega, by simp; omega⟩, by rw [show 800 - (i + 1).toNat = 800 - i.toNat - 1 by omega]; exact (rJ_go (o := 3) (by omega) (by omega) qh23).symm.trans hJ9, Ch23.add (by unfold gm_en; simp), SU.cast ⟨_, g290, g291, g292, g293, g294, cj, g295, g29L⟩ (by simp)⟩⟩) (by omega)
            · skip
              refine q_blk (lv2 := [(0, vr t), (1, vi 1), (2, vi 1), (3, vi i), (4, vi (kd e9))]) (st2 := [vi (-6), vr t]) kX6_readSum_65 rfl ?_
              refine q_goto (tgt := 72) eX6_readSum_67 (by decide) ?_
              refine AQ.callVv (av := [vi (-6)]) (st := []) (c_X6_addCode (v := (-6)) ⟨_, g240, g241, g242, g243, g244, cj, g245, g24L⟩ (by omega) (by omega)) lk_RX6_230 (by decide) rfl rfl ⟨_, _, _, g240⟩ ⟨_, rfl, rfl⟩ (Nat.le_of_ble_eq_true rfl) eX6_readSum_72 (fun h32 e31 => ?_)
              obtain ⟨Xh32, Fh32⟩ := e31
              obtain ⟨g33t, g330, g331, g332, g333, g334, g33j, g335, g33L⟩ := id Xh32
              refine q_blk (lv2 := [(0, vr t), (1, vi 1), (2, vi 1), (3, vi (i + 1)), (4, vi (kd e9))]) (st2 := []) kX6_readSum_75 rfl ?_
              refine q_goto (tgt := 8) eX6_readSum_78 (by decide) ?_
              refine q_sub (lv2 := [(0, vr t), (1, vi 1), (2, vi 1), (3, vi (i + 1))]) [0, 1, 2, 3] rfl ?_
              exact ih5 1 (i + 1) h32 (Lh23 ++ [(2, 0)]) hh23e hh23n (am_uI hh23c (Lh23.length : Int) (-6)) (⟨⟨by omega, by omega⟩, hfr.tr (((am_fr.rf.tr (am_fr.st e13 (by omega) (by omega))).tr Fh23).tr Fh32), Or.inl ⟨rfl, ⟨by omega, by omega, by simp; omega⟩, by rw [show 800 - (i + 1).toNat = 800 - i.toNat - 1 by omega]; exact (rJ_go (o := 2) (by omega) (by omega) qh23).symm.trans hJ9, Ch23.add (by unfold gm_en; simp), SU.cast ⟨_, g330, g331, g332, g333, g334, cj, g335, g33L⟩ (by simp)⟩⟩) (by omega)
          · skip
            refine q_blk (lv2 := [(0, vr t), (1, vi 1), (2, vi 0), (3, vi i), (4, vi (kd e9))]) (st2 := [vi 43, vi (kd e9), vr t]) kX6_readSum_56 rfl ?_
            refine AQ.ic_ne (tgt := 70) eX6_readSum_62 (by decide) (by first | assumption | exact ⟨by omega, by omega⟩) ⟨by decide, by decide⟩ (fun br34 => ?_) (fun br34 => ?_)
            · skip
              refine q_blk (lv2 := [(0, vr t), (1, vi 1), (2, vi 0), (3, vi i), (4, vi (kd e9))]) (st2 := [vi (-7), vr t]) kX6_readSum_70 rfl ?_
              refine AQ.callVv (av := [vi (-7)]) (st := []) (c_X6_addCodeF Xh23 (v := (-7))) lk_RX6_230 (by decide) rfl rfl (SF.ob Xh23) ⟨_, rfl, rfl⟩ (Nat.le_of_ble_eq_true rfl) eX6_readSum_72 (fun h37 e36 => ?_)
              obtain ⟨Xh37, Fh37⟩ := e36
              refine q_blk (lv2 := [(0, vr t), (1, vi 1), (2, vi 0), (3, vi (i + 1)), (4, vi (kd e9))]) (st2 := []) kX6_readSum_75 rfl ?_
              refine q_goto (tgt := 8) eX6_readSum_78 (by decide) ?_
              refine q_sub (lv2 := [(0, vr t), (1, vi 1), (2, vi 0), (3, vi (i + 1))]) [0, 1, 2, 3] rfl ?_
              exact ih5 0 (i + 1) h37 L 0 0 cd (⟨⟨by omega, by omega⟩, hfr.tr (((am_fr.rf.tr (am_fr.st e13 (by omega) (by omega))).tr Fh23).tr Fh37), Or.inr ⟨rfl, _, _, hJ9.symm.trans (rJ_no (by omega) (by omega) qh23), Xh37⟩⟩) (by omega)
            · skip
              refine q_blk (lv2 := [(0, vr t), (1, vi 1), (2, vi 0), (3, vi i), (4, vi (kd e9))]) (st2 := [vi (-6), vr t]) kX6_readSum_65 rfl ?_
              refine q_goto (tgt := 72) eX6_readSum_67 (by decide) ?_
              refine AQ.callVv (av := [vi (-6)]) (st := []) (c_X6_addCodeF Xh23 (v := (-6))) lk_RX6_230 (by decide) rfl rfl (SF.ob Xh23) ⟨_, rfl, rfl⟩ (Nat.le_of_ble_eq_true rfl) eX6_readSum_72 (fun h40 e39 => ?_)
              obtain ⟨Xh40, Fh40⟩ := e39
              refine q_blk (lv2 := [(0, vr t), (1, vi 1), (2, vi 0), (3, vi (i + 1)), (4, vi (kd e9))]) (st2 := []) kX6_readSum_75 rfl ?_
              refine q_goto (tgt := 8) eX6_readSum_78 (by decide) ?_
              refine q_sub (lv2 := [(0, vr t), (1, vi 1), (2, vi 0), (3, vi (i + 1))]) [0, 1, 2, 3] rfl ?_
              exact ih5 0 (i + 1) h40 L 0 0 cd (⟨⟨by omega, by omega⟩, hfr.tr (((am_fr.rf.tr (am_fr.st e13 (by omega) (by omega))).tr Fh23).tr Fh40), Or.inr ⟨rfl, _, _, hJ9.symm.trans (rJ_no (by omega) (by omega) qh23), Xh40⟩⟩) (by omega)
        · skip
          refine q_blk (lv2 := [(0, vr t), (1, vi 1), (2, vi g), (3, vi i), (4, vi (kd e9))]) (st2 := [vi 45, vi (kd e9)]) kX6_readSum_32 rfl ?_
          refine AQ.ic_eq (tgt := 41) eX6_readSum_36 (by decide) (by first | assumption | exact ⟨by omega, by omega⟩) ⟨by decide, by decide⟩ (fun br41 => ?_) (fun br41 => ?_)
          · skip
            refine q_blk (lv2 := [(0, vr t), (1, vi 1), (2, vi g), (3, vi i), (4, vi (kd e9))]) (st2 := [vr t, vr t]) kX6_readSum_41 rfl ?_
            refine q_gi eX6_readSum_43 fl_RX6_28 (Or.inl rfl) w0 (z := e9) rfl ?_
            refine q_blk (lv2 := [(0, vr t), (1, vi 1), (2, vi g), (3, vi i), (4, vi (kd e9))]) (st2 := [vi (e9 + 1), vr t]) kX6_readSum_46 rfl ?_
            refine q_pi eX6_readSum_48 fl_RX6_28 (fun q hq => by cases hq; exact Or.inl rfl) (Or.inl rfl) w0 (Nat.le_of_ble_eq_true rfl) (l2 := [0, 0, 0, 0, 0, 0, 0, wt, (e9 + 1), v9, px, (L9.length : Int), hs, er, ea]) rfl (fun h42 e43 => ?_)
            have k44 := am_at e43
            have k45 := (am_ne e43 (t + 3) (by omega)).trans w1
            have k46 := (am_ne e43 (t + 4) (by omega)).trans w2
            have k47 := (am_ne e43 (t + 5) (by omega)).trans w3
            have k48 := (am_ne e43 (t + 6) (by omega)).trans w4
            have k49 := (am_ne e43 j (by omega)).trans w5
            have k50 := wL.kept (lo := t) (hi := t + 1) (am_fr.st e43 (by omega) (by omega)) (by omega)
            refine q_blk (lv2 := [(0, vr t), (1, vi 1), (2, vi g), (3, vi i), (4, vi (kd e9))]) (st2 := [vi 1, vr t]) kX6_readSum_51 rfl ?_
            refine AQ.callVi (av := [vi 1]) (st := []) (c_X6_readTerm1 (L := L9) ⟨_, k44, k45, k46, k47, k48, cj, k49, k50⟩ n0 kn (by omega) (by omega) kr vq hL9 (by omega)) lk_RX6_227 (by decide) rfl rfl ⟨_, _, _, k44⟩ ⟨_, rfl, rfl⟩ (Nat.le_of_ble_eq_true rfl) eX6_readSum_53 (fun z51 h53 e52 => ?_)
            rcases e52 with ⟨⟨rfl, Lh53, hh53e, qh53, ⟨bh53a, bh53b, bh53c⟩, hh53n, hh53c, Xh53, Ch53⟩ | ⟨rfl, eh53, ah53, qh53, Xh53⟩, Fh53⟩
            · skip
              obtain ⟨g54t, g540, g541, g542, g543, g544, g54j, g545, g54L⟩ := id Xh53
              refine q_blk (lv2 := [(0, vr t), (1, vi 1), (2, vi 1), (3, vi i), (4, vi (kd e9))]) (st2 := [vi 43, vi (kd e9), vr t]) kX6_readSum_56 rfl ?_
              refine AQ.ic_ne (tgt := 70) eX6_readSum_62 (by decide) (by first | assumption | exact ⟨by omega, by omega⟩) ⟨by decide, by decide⟩ (fun br55 => ?_) (fun br55 => ?_)
              · skip
                refine q_blk (lv2 := [(0, vr t), (1, vi 1), (2, vi 1), (3, vi i), (4, vi (kd e9))]) (st2 := [vi (-7), vr t]) kX6_readSum_70 rfl ?_
                refine AQ.callVv (av := [vi (-7)]) (st := []) (c_X6_addCode (v := (-7)) ⟨_, g540, g541, g542, g543, g544, cj, g545, g54L⟩ (by omega) (by omega)) lk_RX6_230 (by decide) rfl rfl ⟨_, _, _, g540⟩ ⟨_, rfl, rfl⟩ (Nat.le_of_ble_eq_true rfl) eX6_readSum_72 (fun h58 e57 => ?_)
                obtain ⟨Xh58, Fh58⟩ := e57
                obtain ⟨g59t, g590, g591, g592, g593, g594, g59j, g595, g59L⟩ := id Xh58
                refine q_blk (lv2 := [(0, vr t), (1, vi 1), (2, vi 1), (3, vi (i + 1)), (4, vi (kd e9))]) (st2 := []) kX6_readSum_75 rfl ?_
                refine q_goto (tgt := 8) eX6_readSum_78 (by decide) ?_
                refine q_sub (lv2 := [(0, vr t), (1, vi 1), (2, vi 1), (3, vi (i + 1))]) [0, 1, 2, 3] rfl ?_
                exact ih5 1 (i + 1) h58 (Lh53 ++ [(3, 0)]) hh53e hh53n (am_uI hh53c (Lh53.length : Int) (-7)) (⟨⟨by omega, by omega⟩, hfr.tr (((am_fr.rf.tr (am_fr.st e43 (by omega) (by omega))).tr Fh53).tr Fh58), Or.inl ⟨rfl, ⟨by omega, by omega, by simp; omega⟩, by rw [show 800 - (i + 1).toNat = 800 - i.toNat - 1 by omega]; exact (rJ_go (o := 3) (by omega) (by omega) qh53).symm.trans hJ9, Ch53.add (by unfold gm_en; simp), SU.cast ⟨_, g590, g591, g592, g593, g594, cj, g595, g59L⟩ (by simp)⟩⟩) (by omega)
              · skip
                refine q_blk (lv2 := [(0, vr t), (1, vi 1), (2, vi 1), (3, vi i), (4, vi (kd e9))]) (st2 := [vi (-6), vr t]) kX6_readSum_65 rfl ?_
                refine q_goto (tgt := 72) eX6_readSum_67 (by decide) ?_
                refine AQ.callVv (av := [vi (-6)]) (st := []) (c_X6_addCode (v := (-6)) ⟨_, g540, g541, g542, g543, g544, cj, g545, g54L⟩ (by omega) (by omega)) lk_RX6_230 (by decide) rfl rfl ⟨_, _, _, g540⟩ ⟨_, rfl, rfl⟩ (Nat.le_of_ble_eq_true rfl) eX6_readSum_72 (fun h62 e61 => ?_)
                obtain ⟨Xh62, Fh62⟩ := e61
                obtain ⟨g63t, g630, g631, g632, g633, g634, g63j, g635, g63L⟩ := id Xh62
                refine q_blk (lv2 := [(0, vr t), (1, vi 1), (2, vi 1), (3, vi (i + 1)), (4, vi (kd e9))]) (st2 := []) kX6_readSum_75 rfl ?_
                refine q_goto (tgt := 8) eX6_readSum_78 (by decide) ?_
                refine q_sub (lv2 := [(0, vr t), (1, vi 1), (2, vi 1), (3, vi (i + 1))]) [0, 1, 2, 3] rfl ?_
                exact ih5 1 (i + 1) h62 (Lh53 ++ [(2, 0)]) hh53e hh53n (am_uI hh53c (Lh53.length : Int) (-6)) (⟨⟨by omega, by omega⟩, hfr.tr (((am_fr.rf.tr (am_fr.st e43 (by omega) (by omega))).tr Fh53).tr Fh62), Or.inl ⟨rfl, ⟨by omega, by omega, by simp; omega⟩, by rw [show 800 - (i + 1).toNat = 800 - i.toNat - 1 by omega]; exact (rJ_go (o := 2) (by omega) (by omega) qh53).symm.trans hJ9, Ch53.add (by unfold gm_en; simp), SU.cast ⟨_, g630, g631, g632, g633, g634, cj, g635, g63L⟩ (by simp)⟩⟩) (by omega)
            · skip
              refine q_blk (lv2 := [(0, vr t), (1, vi 1), (2, vi 0), (3, vi i), (4, vi (kd e9))]) (st2 := [vi 43, vi (kd e9), vr t]) kX6_readSum_56 rfl ?_
              refine AQ.ic_ne (tgt := 70) eX6_readSum_62 (by decide) (by first | assumption | exact ⟨by omega, by omega⟩) ⟨by decide, by decide⟩ (fun br64 => ?_) (fun br64 => ?_)
              · skip
                refine q_blk (lv2 := [(0, vr t), (1, vi 1), (2, vi 0), (3, vi i), (4, vi (kd e9))]) (st2 := [vi (-7), vr t]) kX6_readSum_70 rfl ?_
                refine AQ.callVv (av := [vi (-7)]) (st := []) (c_X6_addCodeF Xh53 (v := (-7))) lk_RX6_230 (by decide) rfl rfl (SF.ob Xh53) ⟨_, rfl, rfl⟩ (Nat.le_of_ble_eq_true rfl) eX6_readSum_72 (fun h67 e66 => ?_)
                obtain ⟨Xh67, Fh67⟩ := e66
                refine q_blk (lv2 := [(0, vr t), (1, vi 1), (2, vi 0), (3, vi (i + 1)), (4, vi (kd e9))]) (st2 := []) kX6_readSum_75 rfl ?_
                refine q_goto (tgt := 8) eX6_readSum_78 (by decide) ?_
                refine q_sub (lv2 := [(0, vr t), (1, vi 1), (2, vi 0), (3, vi (i + 1))]) [0, 1, 2, 3] rfl ?_
                exact ih5 0 (i + 1) h67 L 0 0 cd (⟨⟨by omega, by omega⟩, hfr.tr (((am_fr.rf.tr (am_fr.st e43 (by omega) (by omega))).tr Fh53).tr Fh67), Or.inr ⟨rfl, _, _, hJ9.symm.trans (rJ_no (by omega) (by omega) qh53), Xh67⟩⟩) (by omega)
              · skip
                refine q_blk (lv2 := [(0, vr t), (1, vi 1), (2, vi 0), (3, vi i), (4, vi (kd e9))]) (st2 := [vi (-6), vr t]) kX6_readSum_65 rfl ?_
                refine q_goto (tgt := 72) eX6_readSum_67 (by decide) ?_
                refine AQ.callVv (av := [vi (-6)]) (st := []) (c_X6_addCodeF Xh53 (v := (-6))) lk_RX6_230 (by decide) rfl rfl (SF.ob Xh53) ⟨_, rfl, rfl⟩ (Nat.le_of_ble_eq_true rfl) eX6_readSum_72 (fun h70 e69 => ?_)
                obtain ⟨Xh70, Fh70⟩ := e69
                refine q_blk (lv2 := [(0, vr t), (1, vi 1), (2, vi 0), (3, vi (i + 1)), (4, vi (kd e9))]) (st2 := []) kX6_readSum_75 rfl ?_
                refine q_goto (tgt := 8) eX6_readSum_78 (by decide) ?_
                refine q_sub (lv2 := [(0, vr t), (1, vi 1), (2, vi 0), (3, vi (i + 1))]) [0, 1, 2, 3] rfl ?_
                exact ih5 0 (i + 1) h70 L 0 0 cd (⟨⟨by omega, by omega⟩, hfr.tr (((am_fr.rf.tr (am_fr.st e43 (by omega) (by omega))).tr Fh53).tr Fh70), Or.inr ⟨rfl, _, _, hJ9.symm.trans (rJ_no (by omega) (by omega) qh53), Xh70⟩⟩) (by omega)
          · skip
            refine q_blk (lv2 := [(0, vr t), (1, vi 1), (2, vi g), (3, vi i), (4, vi (kd e9))]) (st2 := [vi 1]) kX6_readSum_39 rfl ?_
            exact q_rz rfl eX6_readSum_40 (by decide) ⟨1, rfl, Or.inl ⟨rfl, L9, e9, hJ9.symm.trans (rJ_end (Or.inr ⟨by omega, by omega⟩)), ⟨by omega, by omega, by omega⟩, _, _, ⟨_, w0, w1, w2, w3, w4, cj, w5, wL⟩, hL9⟩, hfr.tr am_fr.rf⟩
  · skip
    refine q_blk (lv2 := [(0, vr t), (1, vi 1), (2, vi 0), (3, vi 0)]) (st2 := []) kX6_readSum_5 rfl ?_
    refine am_lp7 (I := fun (g : Int) (i : Int) (hh : AH) (L9 : GL) (e9 : Int) (v9 : Int) (c9 : Int → Int) => (0 ≤ i ∧ i ≤ 800) ∧ am_fr h hh t (t + 7) ∧ ((g = 1 ∧ (he < e9 ∧ e9 ≤ n ∧ (L9.length : Int) ≤ (L.length : Int) + (e9 - he)) ∧ rJ kd (rM kd st vl (some (rU kd st vl 2))) 43 45 2 3 (800 - i.toNat) L9 e9 = rU kd st vl 3 L he ∧ CL c9 L9 ∧ SU hh t u b j kd st vl e9 v9 px (L9.length : Int) hs er ea c9) ∨ (g = 0 ∧ ∃ e a, rU kd st vl 3 L he = .inl (e, a) ∧ SF hh t u b j kd st vl e a))) (μ := fun (g : Int) (i : Int) (hh : AH) (L9 : GL) (e9 : Int) (v9 : Int) (c9 : Int → Int) => (800 - i).toNat) (G := fun (g : Int) (i : Int) (hh : AH) (L9 : GL) (e9 : Int) (v9 : Int) (c9 : Int → Int) => AQ w m_X6_readSum 15 8 [(0, vr t), (1, vi 1), (2, vi g), (3, vi i)] [] hh (am_int (fun z h1 => ((z = 1 ∧ ∃ L' he', rU kd st vl 3 L he = .inr (L', he') ∧ (he < he' ∧ he' ≤ n ∧ (L'.length : Int) ≤ (L.length : Int) + (he' - he)) ∧ ∃ nu' cd', SU h1 t u b j kd st vl he' nu' px (L'.length : Int) hs er ea cd' ∧ CL cd' L') ∨ (z = 0 ∧ ∃ e a, rU kd st vl 3 L he = .inl (e, a) ∧ SF h1 t u b j kd st vl e a)) ∧ am_fr h h1 t (t + 7)))) ?_ 0 0 h3 L 0 0 cd (⟨⟨by omega, by omega⟩, (am_fr.rf.tr Fh3), Or.inr ⟨rfl, _, _, by rw [rU_3]; exact rB_l qh3 _, Xh3⟩⟩)
    intro g i hh L9 e9 v9 c9 hI72 ih71
    obtain ⟨⟨i0, i1⟩, hfr, hG⟩ := hI72
    have hg9 : g = 0 ∨ g = 1 := by rcases hG with q | q; exact Or.inr q.1; exact Or.inl q.1
    refine q_blk (lv2 := [(0, vr t), (1, vi 1), (2, vi g), (3, vi i)]) (st2 := [vi 800, vi i]) kX6_readSum_8 rfl ?_
    refine AQ.ic_ge (tgt := 81) eX6_readSum_12 (by decide) (by first | assumption | exact ⟨by omega, by omega⟩) ⟨by decide, by decide⟩ (fun br73 => ?_) (fun br73 => ?_)
    · skip
      refine q_blk (lv2 := [(0, vr t), (1, vi 1), (2, vi g), (3, vi i)]) (st2 := [vi g]) kX6_readSum_81 rfl ?_
      exact q_rz rfl eX6_readSum_82 (by omega) ⟨g, rfl, (by rcases hG with ⟨rfl, hb9, hJ9, hL9, hS9⟩ | hG; exact Or.inl ⟨rfl, L9, e9, hJ9.symm.trans (rJ_end (Or.inl (by omega))), hb9, _, _, hS9, hL9⟩; exact Or.inr hG), hfr⟩
    · skip
      refine q_blk (lv2 := [(0, vr t), (1, vi 1), (2, vi g), (3, vi i)]) (st2 := [vi g]) kX6_readSum_15 rfl ?_
      refine AQ.if_eq (tgt := 81) eX6_readSum_16 (by decide) (by first | assumption | exact ⟨by omega, by omega⟩) (fun br74 => ?_) (fun br74 => ?_)
      · skip
        refine q_blk (lv2 := [(0, vr t), (1, vi 1), (2, vi g), (3, vi i)]) (st2 := [vi g]) kX6_readSum_81 rfl ?_
        exact q_rz rfl eX6_readSum_82 (by omega) ⟨g, rfl, (by rcases hG with ⟨rfl, hb9, hJ9, hL9, hS9⟩ | hG; exact Or.inl ⟨rfl, L9, e9, hJ9.symm.trans (rJ_end (Or.inl (by omega))), hb9, _, _, hS9, hL9⟩; exact Or.inr hG), hfr⟩
      · skip
        obtain ⟨-, ⟨b9a, b9b, b9c⟩, hJ9, hL9, hS9⟩ := hG.resolve_right (fun q => absurd q.1 (by omega))
        obtain ⟨wt, w0, w1, w2, w3, w4, wj, w5, wL⟩ := id hS9
        have kr9 := kr e9 (by omega) (by omega)
        have hen9 : kd e9 ≠ 0 → e9 ≠ n := fun q e => by rw [e] at q; omega
        refine q_blk (lv2 := [(0, vr t), (1, vi 1), (2, vi g), (3, vi i)]) (st2 := [vr t]) kX6_readSum_19 rfl ?_
        refine q_Vi (av := []) (st := []) (c_X6_kindHere ⟨_, w0, w1, w2, w3, w4, cj, w5, wL⟩ (by omega) (by omega)) lk_RX6_70 (by decide) rfl rfl ⟨_, _, _, w0⟩ ⟨_, rfl, rfl⟩ (Nat.le_of_ble_eq_true rfl) eX6_readSum_20 (fun z75 e76 => ?_)
        subst e76
        refine q_blk (lv2 := [(0, vr t), (1, vi 1), (2, vi g), (3, vi i), (4, vi (kd e9))]) (st2 := [vi 43, vi (kd e9)]) kX6_readSum_23 rfl ?_
        refine AQ.ic_eq (tgt := 41) eX6_readSum_29 (by decide) (by first | assumption | exact ⟨by omega, by omega⟩) ⟨by decide, by decide⟩ (fun br77 => ?_) (fun br77 => ?_)
        · skip
          refine q_blk (lv2 := [(0, vr t), (1, vi 1), (2, vi g), (3, vi i), (4, vi (kd e9))]) (st2 := [vr t, vr t]) kX6_readSum_41 rfl ?_
          refine q_gi eX6_readSum_43 fl_RX6_28 (Or.inl rfl) w0 (z := e9) rfl ?_
          refine q_blk (lv2 := [(0, vr t), (1, vi 1), (2, vi g), (3, vi i), (4, vi (kd e9))]) (st2 := [vi (e9 + 1), vr t]) kX6_readSum_46 rfl ?_
          refine q_pi eX6_readSum_48 fl_RX6_28 (fun q hq => by cases hq; exact Or.inl rfl) (Or.inl rfl) w0 (Nat.le_of_ble_eq_true rfl) (l2 := [0, 0, 0, 0, 0, 0, 0, wt, (e9 + 1), v9, px, (L9.length : Int), hs, er, ea]) rfl (fun h78 e79 => ?_)
          have k80 := am_at e79
          have k81 := (am_ne e79 (t + 3) (by omega)).trans w1
          have k82 := (am_ne e79 (t + 4) (by omega)).trans w2
          have k83 := (am_ne e79 (t + 5) (by omega)).trans w3
          have k84 := (am_ne e79 (t + 6) (by omega)).trans w4
          have k85 := (am_ne e79 j (by omega)).trans w5
          have k86 := wL.kept (lo := t) (hi := t + 1) (am_fr.st e79 (by omega) (by omega)) (by omega)
          refine q_blk (lv2 := [(0, vr t), (1, vi 1), (2, vi g), (3, vi i), (4, vi (kd e9))]) (st2 := [vi 1, vr t]) kX6_readSum_51 rfl ?_
          refine AQ.callVi (av := [vi 1]) (st := []) (c_X6_readTerm1 (L := L9) ⟨_, k80, k81, k82, k83, k84, cj, k85, k86⟩ n0 kn (by omega) (by omega) kr vq hL9 (by omega)) lk_RX6_227 (by decide) rfl rfl ⟨_, _, _, k80⟩ ⟨_, rfl, rfl⟩ (Nat.le_of_ble_eq_true rfl) eX6_readSum_53 (fun z87 h89 e88 => ?_)
          rcases e88 with ⟨⟨rfl, Lh89, hh89e, qh89, ⟨bh89a, bh89b, bh89c⟩, hh89n, hh89c, Xh89, Ch89⟩ | ⟨rfl, eh89, ah89, qh89, Xh89⟩, Fh89⟩
          · skip
            obtain ⟨g90t, g900, g901, g902, g903, g904, g90j, g905, g90L⟩ := id Xh89
            refine q_blk (lv2 := [(0, vr t), (1, vi 1), (2, vi 1), (3, vi i), (4, vi (kd e9))]) (st2 := [vi 43, vi (kd e9), vr t]) kX6_readSum_56 rfl ?_
            refine AQ.ic_ne (tgt := 70) eX6_readSum_62 (by decide) (by first | assumption | exact ⟨by omega, by omega⟩) ⟨by decide, by decide⟩ (fun br91 => ?_) (fun br91 => ?_)
            · skip
              refine q_blk (lv2 := [(0, vr t), (1, vi 1), (2, vi 1), (3, vi i), (4, vi (kd e9))]) (st2 := [vi (-7), vr t]) kX6_readSum_70 rfl ?_
              refine AQ.callVv (av := [vi (-7)]) (st := []) (c_X6_addCode (v := (-7)) ⟨_, g900, g901, g902, g903, g904, cj, g905, g90L⟩ (by omega) (by omega)) lk_RX6_230 (by decide) rfl rfl ⟨_, _, _, g900⟩ ⟨_, rfl, rfl⟩ (Nat.le_of_ble_eq_true rfl) eX6_readSum_72 (fun h94 e93 => ?_)
              obtain ⟨Xh94, Fh94⟩ := e93
              obtain ⟨g95t, g950, g951, g952, g953, g954, g95j, g955, g95L⟩ := id Xh94
              refine q_blk (lv2 := [(0, vr t), (1, vi 1), (2, vi 1), (3, vi (i + 1)), (4, vi (kd e9))]) (st2 := []) kX6_readSum_75 rfl ?_
              refine q_goto (tgt := 8) eX6_readSum_78 (by decide) ?_
              refine q_sub (lv2 := [(0, vr t), (1, vi 1), (2, vi 1), (3, vi (i + 1))]) [0, 1, 2, 3] rfl ?_
              exact ih71 1 (i + 1) h94 (Lh89 ++ [(3, 0)]) hh89e hh89n (am_uI hh89c (Lh89.length : Int) (-7)) (⟨⟨by omega, by omega⟩, hfr.tr (((am_fr.rf.tr (am_fr.st e79 (by omega) (by omega))).tr Fh89).tr Fh94), Or.inl ⟨rfl, ⟨by omega, by omega, by simp; omega⟩, by rw [show 800 - (i + 1).toNat = 800 - i.toNat - 1 by omega]; exact (rJ_go (o := 3) (by omega) (by omega) qh89).symm.trans hJ9, Ch89.add (by unfold gm_en; simp), SU.cast ⟨_, g950, g951, g952, g953, g954, cj, g955, g95L⟩ (by simp)⟩⟩) (by omega)
            · skip
              refine q_blk (lv2 := [(0, vr t), (1, vi 1), (2, vi 1), (3, vi i), (4, vi (kd e9))]) (st2 := [vi (-6), vr t]) kX6_readSum_65 rfl ?_
              refine q_goto (tgt := 72) eX6_readSum_67 (by decide) ?_
              refine AQ.callVv (av := [vi (-6)]) (st := []) (c_X6_addCode (v := (-6)) ⟨_, g900, g901, g902, g903, g904, cj, g905, g90L⟩ (by omega) (by omega)) lk_RX6_230 (by decide) rfl rfl ⟨_, _, _, g900⟩ ⟨_, rfl, rfl⟩ (Nat.le_of_ble_eq_true rfl) eX6_readSum_72 (fun h98 e97 => ?_)
              obtain ⟨Xh98, Fh98⟩ := e97
              obtain ⟨g99t, g990, g991, g992, g993, g994, g99j, g995, g99L⟩ := id Xh98
              refine q_blk (lv2 := [(0, vr t), (1, vi 1), (2, vi 1), (3, vi (i + 1)), (4, vi (kd e9))]) (st2 := []) kX6_readSum_75 rfl ?_
              refine q_goto (tgt := 8) eX6_readSum_78 (by decide) ?_
              refine q_sub (lv2 := [(0, vr t), (1, vi 1), (2, vi 1), (3, vi (i + 1))]) [0, 1, 2, 3] rfl ?_
              exact ih71 1 (i + 1) h98 (Lh89 ++ [(2, 0)]) hh89e hh89n (am_uI hh89c (Lh89.length : Int) (-6)) (⟨⟨by omega, by omega⟩, hfr.tr (((am_fr.rf.tr (am_fr.st e79 (by omega) (by omega))).tr Fh89).tr Fh98), Or.inl ⟨rfl, ⟨by omega, by omega, by simp; omega⟩, by rw [show 800 - (i + 1).toNat = 800 - i.toNat - 1 by omega]; exact (rJ_go (o := 2) (by omega) (by omega) qh89).symm.trans hJ9, Ch89.add (by unfold gm_en; simp), SU.cast ⟨_, g990, g991, g992, g993, g994, cj, g995, g99L⟩ (by simp)⟩⟩) (by omega)
          · skip
            refine q_blk (lv2 := [(0, vr t), (1, vi 1), (2, vi 0), (3, vi i), (4, vi (kd e9))]) (st2 := [vi 43, vi (kd e9), vr t]) kX6_readSum_56 rfl ?_
            refine AQ.ic_ne (tgt := 70) eX6_readSum_62 (by decide) (by first | assumption | exact ⟨by omega, by omega⟩) ⟨by decide, by decide⟩ (fun br100 => ?_) (fun br100 => ?_)
            · skip
              refine q_blk (lv2 := [(0, vr t), (1, vi 1), (2, vi 0), (3, vi i), (4, vi (kd e9))]) (st2 := [vi (-7), vr t]) kX6_readSum_70 rfl ?_
              refine AQ.callVv (av := [vi (-7)]) (st := []) (c_X6_addCodeF Xh89 (v := (-7))) lk_RX6_230 (by decide) rfl rfl (SF.ob Xh89) ⟨_, rfl, rfl⟩ (Nat.le_of_ble_eq_true rfl) eX6_readSum_72 (fun h103 e102 => ?_)
              obtain ⟨Xh103, Fh103⟩ := e102
              refine q_blk (lv2 := [(0, vr t), (1, vi 1), (2, vi 0), (3, vi (i + 1)), (4, vi (kd e9))]) (st2 := []) kX6_readSum_75 rfl ?_
              refine q_goto (tgt := 8) eX6_readSum_78 (by decide) ?_
              refine q_sub (lv2 := [(0, vr t), (1, vi 1), (2, vi 0), (3, vi (i + 1))]) [0, 1, 2, 3] rfl ?_
              exact ih71 0 (i + 1) h103 L 0 0 cd (⟨⟨by omega, by omega⟩, hfr.tr (((am_fr.rf.tr (am_fr.st e79 (by omega) (by omega))).tr Fh89).tr Fh103), Or.inr ⟨rfl, _, _, hJ9.symm.trans (rJ_no (by omega) (by omega) qh89), Xh103⟩⟩) (by omega)
            · skip
              refine q_blk (lv2 := [(0, vr t), (1, vi 1), (2, vi 0), (3, vi i), (4, vi (kd e9))]) (st2 := [vi (-6), vr t]) kX6_readSum_65 rfl ?_
              refine q_goto (tgt := 72) eX6_readSum_67 (by decide) ?_
              refine AQ.callVv (av := [vi (-6)]) (st := []) (c_X6_addCodeF Xh89 (v := (-6))) lk_RX6_230 (by decide) rfl rfl (SF.ob Xh89) ⟨_, rfl, rfl⟩ (Nat.le_of_ble_eq_true rfl) eX6_readSum_72 (fun h106 e105 => ?_)
              obtain ⟨Xh106, Fh106⟩ := e105
              refine q_blk (lv2 := [(0, vr t), (1, vi 1), (2, vi 0), (3, vi (i + 1)), (4, vi (kd e9))]) (st2 := []) kX6_readSum_75 rfl ?_
              refine q_goto (tgt := 8) eX6_readSum_78 (by decide) ?_
              refine q_sub (lv2 := [(0, vr t), (1, vi 1), (2, vi 0), (3, vi (i + 1))]) [0, 1, 2, 3] rfl ?_
              exact ih71 0 (i + 1) h106 L 0 0 cd (⟨⟨by omega, by omega⟩, hfr.tr (((am_fr.rf.tr (am_fr.st e79 (by omega) (by omega))).tr Fh89).tr Fh106), Or.inr ⟨rfl, _, _, hJ9.symm.trans (rJ_no (by omega) (by omega) qh89), Xh106⟩⟩) (by omega)
        · skip
          refine q_blk (lv2 := [(0, vr t), (1, vi 1), (2, vi g), (3, vi i), (4, vi (kd e9))]) (st2 := [vi 45, vi (kd e9)]) kX6_readSum_32 rfl ?_
          refine AQ.ic_eq (tgt := 41) eX6_readSum_36 (by decide) (by first | assumption | exact ⟨by omega, by omega⟩) ⟨by decide, by decide⟩ (fun br107 => ?_) (fun br107 => ?_)
          · skip
            refine q_blk (lv2 := [(0, vr t), (1, vi 1), (2, vi g), (3, vi i), (4, vi (kd e9))]) (st2 := [vr t, vr t]) kX6_readSum_41 rfl ?_
            refine q_gi eX6_readSum_43 fl_RX6_28 (Or.inl rfl) w0 (z := e9) rfl ?_
            refine q_blk (lv2 := [(0, vr t), (1, vi 1), (2, vi g), (3, vi i), (4, vi (kd e9))]) (st2 := [vi (e9 + 1), vr t]) kX6_readSum_46 rfl ?_
            refine q_pi eX6_readSum_48 fl_RX6_28 (fun q hq => by cases hq; exact Or.inl rfl) (Or.inl rfl) w0 (Nat.le_of_ble_eq_true rfl) (l2 := [0, 0, 0, 0, 0, 0, 0, wt, (e9 + 1), v9, px, (L9.length : Int), hs, er, ea]) rfl (fun h108 e109 => ?_)
            have k110 := am_at e109
            have k111 := (am_ne e109 (t + 3) (by omega)).trans w1
            have k112 := (am_ne e109 (t + 4) (by omega)).trans w2
            have k113 := (am_ne e109 (t + 5) (by omega)).trans w3
            have k114 := (am_ne e109 (t + 6) (by omega)).trans w4
            have k115 := (am_ne e109 j (by omega)).trans w5
            have k116 := wL.kept (lo := t) (hi := t + 1) (am_fr.st e109 (by omega) (by omega)) (by omega)
            refine q_blk (lv2 := [(0, vr t), (1, vi 1), (2, vi g), (3, vi i), (4, vi (kd e9))]) (st2 := [vi 1, vr t]) kX6_readSum_51 rfl ?_
            refine AQ.callVi (av := [vi 1]) (st := []) (c_X6_readTerm1 (L := L9) ⟨_, k110, k111, k112, k113, k114, cj, k115, k116⟩ n0 kn (by omega) (by omega) kr vq hL9 (by omega)) lk_RX6_227 (by decide) rfl rfl ⟨_, _, _, k110⟩ ⟨_, rfl, rfl⟩ (Nat.le_of_ble_eq_true rfl) eX6_readSum_53 (fun z117 h119 e118 => ?_)
            rcases e118 with ⟨⟨rfl, Lh119, hh119e, qh119, ⟨bh119a, bh119b, bh119c⟩, hh119n, hh119c, Xh119, Ch119⟩ | ⟨rfl, eh119, ah119, qh119, Xh119⟩, Fh119⟩
            · skip
              obtain ⟨g120t, g1200, g1201, g1202, g1203, g1204, g120j, g1205, g120L⟩ := id Xh119
              refine q_blk (lv2 := [(0, vr t), (1, vi 1), (2, vi 1), (3, vi i), (4, vi (kd e9))]) (st2 := [vi 43, vi (kd e9), vr t]) kX6_readSum_56 rfl ?_
              refine AQ.ic_ne (tgt := 70) eX6_readSum_62 (by decide) (by first | assumption | exact ⟨by omega, by omega⟩) ⟨by decide, by decide⟩ (fun br121 => ?_) (fun br121 => ?_)
              · skip
                refine q_blk (lv2 := [(0, vr t), (1, vi 1), (2, vi 1), (3, vi i), (4, vi (kd e9))]) (st2 := [vi (-7), vr t]) kX6_readSum_70 rfl ?_
                refine AQ.callVv (av := [vi (-7)]) (st := []) (c_X6_addCode (v := (-7)) ⟨_, g1200, g1201, g1202, g1203, g1204, cj, g1205, g120L⟩ (by omega) (by omega)) lk_RX6_230 (by decide) rfl rfl ⟨_, _, _, g1200⟩ ⟨_, rfl, rfl⟩ (Nat.le_of_ble_eq_true rfl) eX6_readSum_72 (fun h124 e123 => ?_)
                obtain ⟨Xh124, Fh124⟩ := e123
                obtain ⟨g125t, g1250, g1251, g1252, g1253, g1254, g125j, g1255, g125L⟩ := id Xh124
                refine q_blk (lv2 := [(0, vr t), (1, vi 1), (2, vi 1), (3, vi (i + 1)), (4, vi (kd e9))]) (st2 := []) kX6_readSum_75 rfl ?_
                refine q_goto (tgt := 8) eX6_readSum_78 (by decide) ?_
                refine q_sub (lv2 := [(0, vr t), (1, vi 1), (2, vi 1), (3, vi (i + 1))]) [0, 1, 2, 3] rfl ?_
                exact ih71 1 (i + 1) h124 (Lh119 ++ [(3, 0)]) hh119e hh119n (am_uI hh119c (Lh119.length : Int) (-7)) (⟨⟨by omega, by omega⟩, hfr.tr (((am_fr.rf.tr (am_fr.st e109 (by omega) (by omega))).tr Fh119).tr Fh124), Or.inl ⟨rfl, ⟨by omega, by omega, by simp; omega⟩, by rw [show 800 - (i + 1).toNat = 800 - i.toNat - 1 by omega]; exact (rJ_go (o := 3) (by omega) (by omega) qh119).symm.trans hJ9, Ch119.add (by unfold gm_en; simp), SU.cast ⟨_, g1250, g1251, g1252, g1253, g1254, cj, g1255, g125L⟩ (by simp)⟩⟩) (by omega)
              · skip
                refine q_blk (lv2 := [(0, vr t), (1, vi 1), (2, vi 1), (3, vi i), (4, vi (kd e9))]) (st2 := [vi (-6), vr t]) kX6_readSum_65 rfl ?_
                refine q_goto (tgt := 72) eX6_readSum_67 (by decide) ?_
                refine AQ.callVv (av := [vi (-6)]) (st := []) (c_X6_addCode (v := (-6)) ⟨_, g1200, g1201, g1202, g1203, g1204, cj, g1205, g120L⟩ (by omega) (by omega)) lk_RX6_230 (by decide) rfl rfl ⟨_, _, _, g1200⟩ ⟨_, rfl, rfl⟩ (Nat.le_of_ble_eq_true rfl) eX6_readSum_72 (fun h128 e127 => ?_)
                obtain ⟨Xh128, Fh128⟩ := e127
                obtain ⟨g129t, g1290, g1291, g1292, g1293, g1294, g129j, g1295, g129L⟩ := id Xh128
                refine q_blk (lv2 := [(0, vr t), (1, vi 1), (2, vi 1), (3, vi (i + 1)), (4, vi (kd e9))]) (st2 := []) kX6_readSum_75 rfl ?_
                refine q_goto (tgt := 8) eX6_readSum_78 (by decide) ?_
                refine q_sub (lv2 := [(0, vr t), (1, vi 1), (2, vi 1), (3, vi (i + 1))]) [0, 1, 2, 3] rfl ?_
                exact ih71 1 (i + 1) h128 (Lh119 ++ [(2, 0)]) hh119e hh119n (am_uI hh119c (Lh119.length : Int) (-6)) (⟨⟨by omega, by omega⟩, hfr.tr (((am_fr.rf.tr (am_fr.st e109 (by omega) (by omega))).tr Fh119).tr Fh128), Or.inl ⟨rfl, ⟨by omega, by omega, by simp; omega⟩, by rw [show 800 - (i + 1).toNat = 800 - i.toNat - 1 by omega]; exact (rJ_go (o := 2) (by omega) (by omega) qh119).symm.trans hJ9, Ch119.add (by unfold gm_en; simp), SU.cast ⟨_, g1290, g1291, g1292, g1293, g1294, cj, g1295, g129L⟩ (by simp)⟩⟩) (by omega)
            · skip
              refine q_blk (lv2 := [(0, vr t), (1, vi 1), (2, vi 0), (3, vi i), (4, vi (kd e9))]) (st2 := [vi 43, vi (kd e9), vr t]) kX6_readSum_56 rfl ?_
              refine AQ.ic_ne (tgt := 70) eX6_readSum_62 (by decide) (by first | assumption | exact ⟨by omega, by omega⟩) ⟨by decide, by decide⟩ (fun br130 => ?_) (fun br130 => ?_)
              · skip
                refine q_blk (lv2 := [(0, vr t), (1, vi 1), (2, vi 0), (3, vi i), (4, vi (kd e9))]) (st2 := [vi (-7), vr t]) kX6_readSum_70 rfl ?_
                refine AQ.callVv (av := [vi (-7)]) (st := []) (c_X6_addCodeF Xh119 (v := (-7))) lk_RX6_230 (by decide) rfl rfl (SF.ob Xh119) ⟨_, rfl, rfl⟩ (Nat.le_of_ble_eq_true rfl) eX6_readSum_72 (fun h133 e132 => ?_)
                obtain ⟨Xh133, Fh133⟩ := e132
                refine q_blk (lv2 := [(0, vr t), (1, vi 1), (2, vi 0), (3, vi (i + 1)), (4, vi (kd e9))]) (st2 := []) kX6_readSum_75 rfl ?_
                refine q_goto (tgt := 8) eX6_readSum_78 (by decide) ?_
                refine q_sub (lv2 := [(0, vr t), (1, vi 1), (2, vi 0), (3, vi (i + 1))]) [0, 1, 2, 3] rfl ?_
                exact ih71 0 (i + 1) h133 L 0 0 cd (⟨⟨by omega, by omega⟩, hfr.tr (((am_fr.rf.tr (am_fr.st e109 (by omega) (by omega))).tr Fh119).tr Fh133), Or.inr ⟨rfl, _, _, hJ9.symm.trans (rJ_no (by omega) (by omega) qh119), Xh133⟩⟩) (by omega)
              · skip
                refine q_blk (lv2 := [(0, vr t), (1, vi 1), (2, vi 0), (3, vi i), (4, vi (kd e9))]) (st2 := [vi (-6), vr t]) kX6_readSum_65 rfl ?_
                refine q_goto (tgt := 72) eX6_readSum_67 (by decide) ?_
                refine AQ.callVv (av := [vi (-6)]) (st := []) (c_X6_addCodeF Xh119 (v := (-6))) lk_RX6_230 (by decide) rfl rfl (SF.ob Xh119) ⟨_, rfl, rfl⟩ (Nat.le_of_ble_eq_true rfl) eX6_readSum_72 (fun h136 e135 => ?_)
                obtain ⟨Xh136, Fh136⟩ := e135
                refine q_blk (lv2 := [(0, vr t), (1, vi 1), (2, vi 0), (3, vi (i + 1)), (4, vi (kd e9))]) (st2 := []) kX6_readSum_75 rfl ?_
                refine q_goto (tgt := 8) eX6_readSum_78 (by decide) ?_
                refine q_sub (lv2 := [(0, vr t), (1, vi 1), (2, vi 0), (3, vi (i + 1))]) [0, 1, 2, 3] rfl ?_
                exact ih71 0 (i + 1) h136 L 0 0 cd (⟨⟨by omega, by omega⟩, hfr.tr (((am_fr.rf.tr (am_fr.st e109 (by omega) (by omega))).tr Fh119).tr Fh136), Or.inr ⟨rfl, _, _, hJ9.symm.trans (rJ_no (by omega) (by omega) qh119), Xh136⟩⟩) (by omega)
          · skip
            refine q_blk (lv2 := [(0, vr t), (1, vi 1), (2, vi g), (3, vi i), (4, vi (kd e9))]) (st2 := [vi 1]) kX6_readSum_39 rfl ?_
            exact q_rz rfl eX6_readSum_40 (by decide) ⟨1, rfl, Or.inl ⟨rfl, L9, e9, hJ9.symm.trans (rJ_end (Or.inr ⟨by omega, by omega⟩)), ⟨by omega, by omega, by omega⟩, _, _, ⟨_, w0, w1, w2, w3, w4, cj, w5, wL⟩, hL9⟩, hfr.tr am_fr.rf⟩

set_option maxHeartbeats 1000000 in
theorem c_X6_readFactor0 {w : am_w} {h : AH} {L : GL} {t u b j : Nat} {kd st vl : Int → Int} {he nu px hs er ea : Int} {cd : Int → Int} (hS : SU h t u b j kd st vl he nu px (L.length : Int) hs er ea cd) {n : Int} (n0 : n ≤ 800) (kn : kd n = 0) (he0 : 0 ≤ he) (he1 : he ≤ n) (kr : ∀ i, 0 ≤ i → i < 801 → -5 ≤ kd i ∧ kd i ≤ 100) (vq : ∀ i, 0 ≤ i → i < 801 → 0 ≤ vl i ∧ vl i ≤ 10000) (hL : CL cd L) (hl : (L.length : Int) ≤ he)  : AE w m_X6_readFactor 16 [vr t, vi 0] h (am_int (fun z h1 => ((z = 1 ∧ ∃ L' he', rA kd st vl (some (rU kd st vl 3)) L he = .inr (L', he') ∧ (he < he' ∧ he' ≤ n ∧ (L'.length : Int) ≤ (L.length : Int) + (he' - he)) ∧ ∃ nu' cd', SU h1 t u b j kd st vl he' nu' px (L'.length : Int) hs er ea cd' ∧ CL cd' L') ∨ (z = 0 ∧ ∃ e a, rA kd st vl (some (rU kd st vl 3)) L he = .inl (e, a) ∧ SF h1 t u b j kd st vl e a)) ∧ am_fr h h1 t (t + 7))) := by
  refine AE.of wf_X6_readFactor (Nat.le_of_ble_eq_true rfl) (am_ok_z (fun z h1 q => by rcases q.1 with q | q; exact Or.inr q.1; exact Or.inl q.1)) ?_
  obtain ⟨tc, c0, c1, c2, c3, c4, cj, c5, cL⟩ := id hS
  have kr1 := kr he he0 (by omega)
  have vr1 := vq he he0 (by omega)
  have hen : kd he ≠ 0 → he ≠ n := fun q e9 => by rw [e9] at q; omega
  refine q_blk (lv2 := [(0, vr t), (1, vi 0)]) (st2 := [vr t]) kX6_readFactor_0 rfl ?_
  refine q_Vi (av := []) (st := []) (c_X6_kindHere ⟨_, c0, c1, c2, c3, c4, cj, c5, cL⟩ (by omega) (by omega)) lk_RX6_70 (by decide) rfl rfl ⟨_, _, _, c0⟩ ⟨_, rfl, rfl⟩ (Nat.le_of_ble_eq_true rfl) eX6_readFactor_1 (fun z1 e2 => ?_)
  subst e2
  refine q_blk (lv2 := [(0, vr t), (1, vi 0), (2, vi (kd he))]) (st2 := [vi 40, vi (kd he)]) kX6_readFactor_4 rfl ?_
  refine AQ.ic_ne (tgt := 58) eX6_readFactor_8 (by decide) (by first | assumption | exact ⟨by omega, by omega⟩) ⟨by decide, by decide⟩ (fun br3 => ?_) (fun br3 => ?_)
  · skip
    refine q_blk (lv2 := [(0, vr t), (1, vi 0), (2, vi (kd he))]) (st2 := [vi (kd he)]) kX6_readFactor_58 rfl ?_
    refine AQ.if_ge (tgt := 79) eX6_readFactor_59 (by decide) (by first | assumption | exact ⟨by omega, by omega⟩) (fun br4 => ?_) (fun br4 => ?_)
    · skip
      refine q_blk (lv2 := [(0, vr t), (1, vi 0), (2, vi (kd he))]) (st2 := [vi 2, vi (kd he)]) kX6_readFactor_79 rfl ?_
      refine AQ.ic_eq (tgt := 91) eX6_readFactor_81 (by decide) (by first | assumption | exact ⟨by omega, by omega⟩) ⟨by decide, by decide⟩ (fun br5 => ?_) (fun br5 => ?_)
      · skip
        refine q_blk (lv2 := [(0, vr t), (1, vi 0), (2, vi (kd he))]) (st2 := [vr t, vr t]) kX6_readFactor_91 rfl ?_
        refine q_Vi (av := []) (st := [vr t]) (c_X6_valueHere ⟨_, c0, c1, c2, c3, c4, cj, c5, cL⟩ (by omega) (by omega)) lk_RX6_148 (by decide) rfl rfl ⟨_, _, _, c0⟩ ⟨_, rfl, rfl⟩ (Nat.le_of_ble_eq_true rfl) eX6_readFactor_93 (fun z6 e7 => ?_)
        subst e7
        refine q_pi eX6_readFactor_96 fl_RX6_31 (fun q hq => by cases hq; exact Or.inl rfl) (Or.inl rfl) c0 (Nat.le_of_ble_eq_true rfl) (l2 := [0, 0, 0, 0, 0, 0, 0, tc, he, (vl he), px, (L.length : Int), hs, er, ea]) rfl (fun h8 e9 => ?_)
        have k10 := am_at e9
        have k11 := (am_ne e9 (t + 3) (by omega)).trans c1
        have k12 := (am_ne e9 (t + 4) (by omega)).trans c2
        have k13 := (am_ne e9 (t + 5) (by omega)).trans c3
        have k14 := (am_ne e9 (t + 6) (by omega)).trans c4
        have k15 := (am_ne e9 j (by omega)).trans c5
        have k16 := cL.kept (lo := t) (hi := t + 1) (am_fr.st e9 (by omega) (by omega)) (by omega)
        refine q_blk (lv2 := [(0, vr t), (1, vi 0), (2, vi (kd he))]) (st2 := [vr t]) kX6_readFactor_99 rfl ?_
        refine q_gi eX6_readFactor_100 fl_RX6_31 (Or.inl rfl) k10 (z := (vl he)) rfl ?_
        refine q_blk (lv2 := [(0, vr t), (1, vi 0), (2, vi (kd he))]) (st2 := [vi 9999, vi (vl he)]) kX6_readFactor_103 rfl ?_
        refine AQ.ic_le (tgt := 116) eX6_readFactor_106 (by decide) (by first | assumption | exact ⟨by omega, by omega⟩) ⟨by decide, by decide⟩ (fun br17 => ?_) (fun br17 => ?_)
        · skip
          refine q_blk (lv2 := [(0, vr t), (1, vi 0), (2, vi (kd he))]) (st2 := [vr t, vr t]) kX6_readFactor_116 rfl ?_
          refine q_gi eX6_readFactor_118 fl_RX6_28 (Or.inl rfl) k10 (z := he) rfl ?_
          refine q_blk (lv2 := [(0, vr t), (1, vi 0), (2, vi (kd he))]) (st2 := [vi (he + 1), vr t]) kX6_readFactor_121 rfl ?_
          refine q_pi eX6_readFactor_123 fl_RX6_28 (fun q hq => by cases hq; exact Or.inl rfl) (Or.inl rfl) k10 (Nat.le_of_ble_eq_true rfl) (l2 := [0, 0, 0, 0, 0, 0, 0, tc, (he + 1), (vl he), px, (L.length : Int), hs, er, ea]) rfl (fun h18 e19 => ?_)
          have k20 := am_at e19
          have k21 := (am_ne e19 (t + 3) (by omega)).trans k11
          have k22 := (am_ne e19 (t + 4) (by omega)).trans k12
          have k23 := (am_ne e19 (t + 5) (by omega)).trans k13
          have k24 := (am_ne e19 (t + 6) (by omega)).trans k14
          have k25 := (am_ne e19 j (by omega)).trans k15
          have k26 := k16.kept (lo := t) (hi := t + 1) (am_fr.st e19 (by omega) (by omega)) (by omega)
          refine q_blk (lv2 := [(0, vr t), (1, vi 0), (2, vi (kd he))]) (st2 := [vr t, vr t]) kX6_readFactor_126 rfl ?_
          refine q_gi eX6_readFactor_128 fl_RX6_31 (Or.inl rfl) k20 (z := (vl he)) rfl ?_
          refine AQ.callVv (av := [vi (vl he)]) (st := []) (c_X6_addCode (v := (vl he)) ⟨_, k20, k21, k22, k23, k24, cj, k25, k26⟩ (by omega) (by omega)) lk_RX6_230 (by decide) rfl rfl ⟨_, _, _, k20⟩ ⟨_, rfl, rfl⟩ (Nat.le_of_ble_eq_true rfl) eX6_readFactor_131 (fun h29 e28 => ?_)
          obtain ⟨Xh29, Fh29⟩ := e28
          obtain ⟨g30t, g300, g301, g302, g303, g304, g30j, g305, g30L⟩ := id Xh29
          refine q_blk (lv2 := [(0, vr t), (1, vi 0), (2, vi (kd he))]) (st2 := [vi 1]) kX6_readFactor_134 rfl ?_
          exact q_rz rfl eX6_readFactor_135 (by decide) ⟨1, rfl, Or.inl ⟨rfl, L ++ [(0, vl he)], he + 1, by unfold rA; rw [if_neg (by omega), if_neg (by omega), if_pos (by omega), if_pos (by omega)], ⟨by omega, by omega, by simp; omega⟩, (vl he), (am_uI cd (L.length : Int) (vl he)), SU.cast ⟨_, g300, g301, g302, g303, g304, cj, g305, g30L⟩ (by simp), hL.add (by unfold gm_en; (try simp); (try omega))⟩, ((am_fr.rf.tr ((am_fr.st e9 (by omega) (by omega)).tr (am_fr.st e19 (by omega) (by omega)))).tr Fh29)⟩
        · skip
          refine q_blk (lv2 := [(0, vr t), (1, vi 0), (2, vi (kd he))]) (st2 := [vi (-3), vr t]) kX6_readFactor_109 rfl ?_
          refine AQ.callVi (av := [vi (-3)]) (st := []) (c_X6_fail (e := (-3)) ⟨_, k10, k11, k12, k13, k14, cj, k15, k16⟩ (by omega) (by omega)) lk_RX6_83 (by decide) rfl rfl ⟨_, _, _, k10⟩ ⟨_, rfl, rfl⟩ (Nat.le_of_ble_eq_true rfl) eX6_readFactor_112 (fun z31 h33 e32 => ?_)
          obtain ⟨z310, Xh33, Fh33⟩ := e32
          subst z310
          obtain ⟨g34t, g340, g341, g342, g343, g344, g34j, g345, g34L⟩ := id Xh33
          exact q_rz rfl eX6_readFactor_115 (by decide) ⟨0, rfl, Or.inr ⟨rfl, _, _, by unfold rA; rw [if_neg (by omega), if_neg (by omega), if_pos (by omega), if_neg (by omega)], ⟨_, _, _, _, _, _, ⟨_, g340, g341, g342, g343, g344, cj, g345, g34L⟩, by omega, by omega⟩⟩, ((am_fr.rf.tr (am_fr.st e9 (by omega) (by omega))).tr Fh33)⟩
      · skip
        refine q_blk (lv2 := [(0, vr t), (1, vi 0), (2, vi (kd he))]) (st2 := [vi (-2), vr t]) kX6_readFactor_84 rfl ?_
        refine AQ.callVi (av := [vi (-2)]) (st := []) (c_X6_fail (e := (-2)) ⟨_, c0, c1, c2, c3, c4, cj, c5, cL⟩ (by omega) (by omega)) lk_RX6_83 (by decide) rfl rfl ⟨_, _, _, c0⟩ ⟨_, rfl, rfl⟩ (Nat.le_of_ble_eq_true rfl) eX6_readFactor_87 (fun z35 h37 e36 => ?_)
        obtain ⟨z350, Xh37, Fh37⟩ := e36
        subst z350
        obtain ⟨g38t, g380, g381, g382, g383, g384, g38j, g385, g38L⟩ := id Xh37
        exact q_rz rfl eX6_readFactor_90 (by decide) ⟨0, rfl, Or.inr ⟨rfl, _, _, by unfold rA; rw [if_neg (by omega), if_neg (by omega), if_neg (by omega)], ⟨_, _, _, _, _, _, ⟨_, g380, g381, g382, g383, g384, cj, g385, g38L⟩, by omega, by omega⟩⟩, (am_fr.rf.tr Fh37)⟩
    · skip
      refine q_blk (lv2 := [(0, vr t), (1, vi 0), (2, vi (kd he))]) (st2 := [vr t, vr t]) kX6_readFactor_62 rfl ?_
      refine q_gi eX6_readFactor_64 fl_RX6_28 (Or.inl rfl) c0 (z := he) rfl ?_
      refine q_blk (lv2 := [(0, vr t), (1, vi 0), (2, vi (kd he))]) (st2 := [vi (he + 1), vr t]) kX6_readFactor_67 rfl ?_
      refine q_pi eX6_readFactor_69 fl_RX6_28 (fun q hq => by cases hq; exact Or.inl rfl) (Or.inl rfl) c0 (Nat.le_of_ble_eq_true rfl) (l2 := [0, 0, 0, 0, 0, 0, 0, tc, (he + 1), nu, px, (L.length : Int), hs, er, ea]) rfl (fun h39 e40 => ?_)
      have k41 := am_at e40
      have k42 := (am_ne e40 (t + 3) (by omega)).trans c1
      have k43 := (am_ne e40 (t + 4) (by omega)).trans c2
      have k44 := (am_ne e40 (t + 5) (by omega)).trans c3
      have k45 := (am_ne e40 (t + 6) (by omega)).trans c4
      have k46 := (am_ne e40 j (by omega)).trans c5
      have k47 := cL.kept (lo := t) (hi := t + 1) (am_fr.st e40 (by omega) (by omega)) (by omega)
      refine q_blk (lv2 := [(0, vr t), (1, vi 0), (2, vi (kd he))]) (st2 := [vi (kd he), vr t]) kX6_readFactor_72 rfl ?_
      refine AQ.callVv (av := [vi (kd he)]) (st := []) (c_X6_addCode (v := (kd he)) ⟨_, k41, k42, k43, k44, k45, cj, k46, k47⟩ (by omega) (by omega)) lk_RX6_230 (by decide) rfl rfl ⟨_, _, _, k41⟩ ⟨_, rfl, rfl⟩ (Nat.le_of_ble_eq_true rfl) eX6_readFactor_74 (fun h50 e49 => ?_)
      obtain ⟨Xh50, Fh50⟩ := e49
      obtain ⟨g51t, g510, g511, g512, g513, g514, g51j, g515, g51L⟩ := id Xh50
      refine q_blk (lv2 := [(0, vr t), (1, vi 0), (2, vi (kd he))]) (st2 := [vi 1]) kX6_readFactor_77 rfl ?_
      exact q_rz rfl eX6_readFactor_78 (by decide) ⟨1, rfl, Or.inl ⟨rfl, L ++ [(1, -1 - kd he)], he + 1, by unfold rA; rw [if_neg (by omega), if_pos (by omega)], ⟨by omega, by omega, by simp; omega⟩, nu, (am_uI cd (L.length : Int) (kd he)), SU.cast ⟨_, g510, g511, g512, g513, g514, cj, g515, g51L⟩ (by simp), hL.add (by unfold gm_en; (try simp); (try omega))⟩, ((am_fr.rf.tr (am_fr.st e40 (by omega) (by omega))).tr Fh50)⟩
  · skip
    refine q_blk (lv2 := [(0, vr t), (1, vi 0), (2, vi (kd he))]) (st2 := [vi 4, vi 0]) kX6_readFactor_11 rfl ?_
    refine AQ.of (AS.ic_lt_t (tgt := 23) eX6_readFactor_13 (by decide) ⟨by decide, by decide⟩ ⟨by decide, by decide⟩ (by decide)) ?_
    refine q_blk (lv2 := [(0, vr t), (1, vi 0), (2, vi (kd he))]) (st2 := [vr t, vr t]) kX6_readFactor_23 rfl ?_
    refine q_gi eX6_readFactor_25 fl_RX6_28 (Or.inl rfl) c0 (z := he) rfl ?_
    refine q_blk (lv2 := [(0, vr t), (1, vi 0), (2, vi (kd he))]) (st2 := [vi (he + 1), vr t]) kX6_readFactor_28 rfl ?_
    refine q_pi eX6_readFactor_30 fl_RX6_28 (fun q hq => by cases hq; exact Or.inl rfl) (Or.inl rfl) c0 (Nat.le_of_ble_eq_true rfl) (l2 := [0, 0, 0, 0, 0, 0, 0, tc, (he + 1), nu, px, (L.length : Int), hs, er, ea]) rfl (fun h52 e53 => ?_)
    have k54 := am_at e53
    have k55 := (am_ne e53 (t + 3) (by omega)).trans c1
    have k56 := (am_ne e53 (t + 4) (by omega)).trans c2
    have k57 := (am_ne e53 (t + 5) (by omega)).trans c3
    have k58 := (am_ne e53 (t + 6) (by omega)).trans c4
    have k59 := (am_ne e53 j (by omega)).trans c5
    have k60 := cL.kept (lo := t) (hi := t + 1) (am_fr.st e53 (by omega) (by omega)) (by omega)
    refine q_blk (lv2 := [(0, vr t), (1, vi 0), (2, vi (kd he))]) (st2 := [vi (0 + 1), vr t]) kX6_readFactor_33 rfl ?_
    refine AQ.callVi (av := [vi (0 + 1)]) (st := []) (c_X6_readSum1 (L := L) ⟨_, k54, k55, k56, k57, k58, cj, k59, k60⟩ n0 kn (by omega) (by omega) kr vq hL (by omega)) lk_RX6_215 (by decide) rfl rfl ⟨_, _, _, k54⟩ ⟨_, rfl, rfl⟩ (Nat.le_of_ble_eq_true rfl) eX6_readFactor_37 (fun z61 h63 e62 => ?_)
    rcases e62 with ⟨⟨rfl, Lh63, hh63e, qh63, ⟨bh63a, bh63b, bh63c⟩, hh63n, hh63c, Xh63, Ch63⟩ | ⟨rfl, eh63, ah63, qh63, Xh63⟩, Fh63⟩
    · skip
      obtain ⟨g64t, g640, g641, g642, g643, g644, g64j, g645, g64L⟩ := id Xh63
      refine AQ.of (AS.if_eq_f eX6_readFactor_40 ⟨by decide, by decide⟩ (by decide) (by decide)) ?_
      refine q_blk (lv2 := [(0, vr t), (1, vi 0), (2, vi (kd he))]) (st2 := [vi 41, vr t]) kX6_readFactor_43 rfl ?_
      refine AQ.callVi (av := [vi 41]) (st := []) (c_X6_take ⟨_, g640, g641, g642, g643, g644, cj, g645, g64L⟩ (by omega) (by omega) kr vq (k := 41) (by omega) (by omega)) lk_RX6_166 (by decide) rfl rfl ⟨_, _, _, g640⟩ ⟨_, rfl, rfl⟩ (Nat.le_of_ble_eq_true rfl) eX6_readFactor_46 (fun z65 h67 e66 => ?_)
      rcases e66 with ⟨⟨rfl, qh67, Xh67⟩ | ⟨rfl, qh67, Xh67⟩, Fh67⟩
      · skip
        obtain ⟨g68t, g680, g681, g682, g683, g684, g68j, g685, g68L⟩ := id Xh67
        have nh67 : hh63e ≠ n := fun e9 => by rw [e9] at qh67; omega
        refine AQ.of (AS.if_eq_f eX6_readFactor_49 ⟨by decide, by decide⟩ (by decide) (by decide)) ?_
        refine q_blk (lv2 := [(0, vr t), (1, vi 0), (2, vi (kd he))]) (st2 := [vi 1]) kX6_readFactor_52 rfl ?_
        refine q_goto (tgt := 57) eX6_readFactor_53 (by decide) ?_
        exact q_rz rfl eX6_readFactor_57 (by decide) ⟨1, rfl, Or.inl ⟨rfl, _, _, by unfold rA; rw [if_pos (by omega)]; exact (rB_r qh63 _).trans (rB_r (show rT kd st 41 hh63e = .inr () by unfold rT; rw [if_pos qh67]) _), ⟨by omega, by omega, by omega⟩, _, _, ⟨_, g680, g681, g682, g683, g684, cj, g685, g68L⟩, Ch63⟩, (((am_fr.rf.tr (am_fr.st e53 (by omega) (by omega))).tr Fh63).tr Fh67)⟩
      · skip
        obtain ⟨g69t, g690, g691, g692, g693, g694, g69j, g695, g69L⟩ := id Xh67
        refine AQ.of (AS.if_eq_t (tgt := 56) eX6_readFactor_49 (by decide) ⟨by decide, by decide⟩ (by decide)) ?_
        refine q_blk (lv2 := [(0, vr t), (1, vi 0), (2, vi (kd he))]) (st2 := [vi 0]) kX6_readFactor_56 rfl ?_
        exact q_rz rfl eX6_readFactor_57 (by decide) ⟨0, rfl, Or.inr ⟨rfl, _, _, by unfold rA; rw [if_pos (by omega)]; exact (rB_r qh63 _).trans (rB_l (show rT kd st 41 hh63e = .inl (-2, st hh63e) by unfold rT; rw [if_neg qh67]) _), ⟨_, _, _, _, _, _, ⟨_, g690, g691, g692, g693, g694, cj, g695, g69L⟩, by omega, by omega⟩⟩, (((am_fr.rf.tr (am_fr.st e53 (by omega) (by omega))).tr Fh63).tr Fh67)⟩
    · skip
      refine AQ.of (AS.if_eq_t (tgt := 56) eX6_readFactor_40 (by decide) ⟨by decide, by decide⟩ (by decide)) ?_
      refine q_blk (lv2 := [(0, vr t), (1, vi 0), (2, vi (kd he))]) (st2 := [vi 0]) kX6_readFactor_56 rfl ?_
      exact q_rz rfl eX6_readFactor_57 (by decide) ⟨0, rfl, Or.inr ⟨rfl, _, _, by unfold rA; rw [if_pos (by omega)]; exact rB_l qh63 _, Xh63⟩, ((am_fr.rf.tr (am_fr.st e53 (by omega) (by omega))).tr Fh63)⟩

set_option maxHeartbeats 1000000 in
theorem c_X6_readTerm0 {w : am_w} {h : AH} {L : GL} {t u b j : Nat} {kd st vl : Int → Int} {he nu px hs er ea : Int} {cd : Int → Int} (hS : SU h t u b j kd st vl he nu px (L.length : Int) hs er ea cd) {n : Int} (n0 : n ≤ 800) (kn : kd n = 0) (he0 : 0 ≤ he) (he1 : he ≤ n) (kr : ∀ i, 0 ≤ i → i < 801 → -5 ≤ kd i ∧ kd i ≤ 100) (vq : ∀ i, 0 ≤ i → i < 801 → 0 ≤ vl i ∧ vl i ≤ 10000) (hL : CL cd L) (hl : (L.length : Int) ≤ he)  : AE w m_X6_readTerm 17 [vr t, vi 0] h (am_int (fun z h1 => ((z = 1 ∧ ∃ L' he', rM kd st vl (some (rU kd st vl 3)) L he = .inr (L', he') ∧ (he < he' ∧ he' ≤ n ∧ (L'.length : Int) ≤ (L.length : Int) + (he' - he)) ∧ ∃ nu' cd', SU h1 t u b j kd st vl he' nu' px (L'.length : Int) hs er ea cd' ∧ CL cd' L') ∨ (z = 0 ∧ ∃ e a, rM kd st vl (some (rU kd st vl 3)) L he = .inl (e, a) ∧ SF h1 t u b j kd st vl e a)) ∧ am_fr h h1 t (t + 7))) := by
  refine AE.of wf_X6_readTerm (Nat.le_of_ble_eq_true rfl) (am_ok_z (fun z h1 q => by rcases q.1 with q | q; exact Or.inr q.1; exact Or.inl q.1)) ?_
  obtain ⟨tc, c0, c1, c2, c3, c4, cj, c5, cL⟩ := id hS
  have kr1 := kr he he0 (by omega)
  have vr1 := vq he he0 (by omega)
  have hen : kd he ≠ 0 → he ≠ n := fun q e9 => by rw [e9] at q; omega
  refine q_blk (lv2 := [(0, vr t), (1, vi 0)]) (st2 := [vi 0, vr t]) kX6_readTerm_0 rfl ?_
  refine AQ.callVi (av := [vi 0]) (st := []) (c_X6_readFactor0 (L := L) ⟨_, c0, c1, c2, c3, c4, cj, c5, cL⟩ n0 kn (by omega) (by omega) kr vq hL (by omega)) lk_RX6_233 (by decide) rfl rfl ⟨_, _, _, c0⟩ ⟨_, rfl, rfl⟩ (Nat.le_of_ble_eq_true rfl) eX6_readTerm_2 (fun z1 h3 e2 => ?_)
  rcases e2 with ⟨⟨rfl, Lh3, hh3e, qh3, ⟨bh3a, bh3b, bh3c⟩, hh3n, hh3c, Xh3, Ch3⟩ | ⟨rfl, eh3, ah3, qh3, Xh3⟩, Fh3⟩
  · skip
    obtain ⟨g4t, g40, g41, g42, g43, g44, g4j, g45, g4L⟩ := id Xh3
    refine q_blk (lv2 := [(0, vr t), (1, vi 0), (2, vi 1), (3, vi 0)]) (st2 := []) kX6_readTerm_5 rfl ?_
    refine am_lp7 (I := fun (g : Int) (i : Int) (hh : AH) (L9 : GL) (e9 : Int) (v9 : Int) (c9 : Int → Int) => (0 ≤ i ∧ i ≤ 800) ∧ am_fr h hh t (t + 7) ∧ ((g = 1 ∧ (he < e9 ∧ e9 ≤ n ∧ (L9.length : Int) ≤ (L.length : Int) + (e9 - he)) ∧ rJ kd (rA kd st vl (some (rU kd st vl 3))) 42 47 4 5 (800 - i.toNat) L9 e9 = rM kd st vl (some (rU kd st vl 3)) L he ∧ CL c9 L9 ∧ SU hh t u b j kd st vl e9 v9 px (L9.length : Int) hs er ea c9) ∨ (g = 0 ∧ ∃ e a, rM kd st vl (some (rU kd st vl 3)) L he = .inl (e, a) ∧ SF hh t u b j kd st vl e a))) (μ := fun (g : Int) (i : Int) (hh : AH) (L9 : GL) (e9 : Int) (v9 : Int) (c9 : Int → Int) => (800 - i).toNat) (G := fun (g : Int) (i : Int) (hh : AH) (L9 : GL) (e9 : Int) (v9 : Int) (c9 : Int → Int) => AQ w m_X6_readTerm 17 8 [(0, vr t), (1, vi 0), (2, vi g), (3, vi i)] [] hh (am_int (fun z h1 => ((z = 1 ∧ ∃ L' he', rM kd st vl (some (rU kd st vl 3)) L he = .inr (L', he') ∧ (he < he' ∧ he' ≤ n ∧ (L'.length : Int) ≤ (L.length : Int) + (he' - he)) ∧ ∃ nu' cd', SU h1 t u b j kd st vl he' nu' px (L'.length : Int) hs er ea cd' ∧ CL cd' L') ∨ (z = 0 ∧ ∃ e a, rM kd st vl (some (rU kd st vl 3)) L he = .inl (e, a) ∧ SF h1 t u b j kd st vl e a)) ∧ am_fr h h1 t (t + 7)))) ?_ 1 0 h3 Lh3 hh3e hh3n hh3c (⟨⟨by omega, by omega⟩, (am_fr.rf.tr Fh3), Or.inl ⟨rfl, ⟨by omega, by omega, by omega⟩, by rw [show (800 - (0 : Int).toNat : Nat) = 800 from rfl]; unfold rM; rw [rB_r qh3], Ch3, ⟨_, g40, g41, g42, g43, g44, cj, g45, g4L⟩⟩⟩)
    intro g i hh L9 e9 v9 c9 hI6 ih5
    obtain ⟨⟨i0, i1⟩, hfr, hG⟩ := hI6
    have hg9 : g = 0 ∨ g = 1 := by rcases hG with q | q; exact Or.inr q.1; exact Or.inl q.1
    refine q_blk (lv2 := [(0, vr t), (1, vi 0), (2, vi g), (3, vi i)]) (st2 := [vi 800, vi i]) kX6_readTerm_8 rfl ?_
    refine AQ.ic_ge (tgt := 81) eX6_readTerm_12 (by decide) (by first | assumption | exact ⟨by omega, by omega⟩) ⟨by decide, by decide⟩ (fun br7 => ?_) (fun br7 => ?_)
    · skip
      refine q_blk (lv2 := [(0, vr t), (1, vi 0), (2, vi g), (3, vi i)]) (st2 := [vi g]) kX6_readTerm_81 rfl ?_
      exact q_rz rfl eX6_readTerm_82 (by omega) ⟨g, rfl, (by rcases hG with ⟨rfl, hb9, hJ9, hL9, hS9⟩ | hG; exact Or.inl ⟨rfl, L9, e9, hJ9.symm.trans (rJ_end (Or.inl (by omega))), hb9, _, _, hS9, hL9⟩; exact Or.inr hG), hfr⟩
    · skip
      refine q_blk (lv2 := [(0, vr t), (1, vi 0), (2, vi g), (3, vi i)]) (st2 := [vi g]) kX6_readTerm_15 rfl ?_
      refine AQ.if_eq (tgt := 81) eX6_readTerm_16 (by decide) (by first | assumption | exact ⟨by omega, by omega⟩) (fun br8 => ?_) (fun br8 => ?_)
      · skip
        refine q_blk (lv2 := [(0, vr t), (1, vi 0), (2, vi g), (3, vi i)]) (st2 := [vi g]) kX6_readTerm_81 rfl ?_
        exact q_rz rfl eX6_readTerm_82 (by omega) ⟨g, rfl, (by rcases hG with ⟨rfl, hb9, hJ9, hL9, hS9⟩ | hG; exact Or.inl ⟨rfl, L9, e9, hJ9.symm.trans (rJ_end (Or.inl (by omega))), hb9, _, _, hS9, hL9⟩; exact Or.inr hG), hfr⟩
      · skip
        obtain ⟨-, ⟨b9a, b9b, b9c⟩, hJ9, hL9, hS9⟩ := hG.resolve_right (fun q => absurd q.1 (by omega))
        obtain ⟨wt, w0, w1, w2, w3, w4, wj, w5, wL⟩ := id hS9
        have kr9 := kr e9 (by omega) (by omega)
        have hen9 : kd e9 ≠ 0 → e9 ≠ n := fun q e => by rw [e] at q; omega
        refine q_blk (lv2 := [(0, vr t), (1, vi 0), (2, vi g), (3, vi i)]) (st2 := [vr t]) kX6_readTerm_19 rfl ?_
        refine q_Vi (av := []) (st := []) (c_X6_kindHere ⟨_, w0, w1, w2, w3, w4, cj, w5, wL⟩ (by omega) (by omega)) lk_RX6_70 (by decide) rfl rfl ⟨_, _, _, w0⟩ ⟨_, rfl, rfl⟩ (Nat.le_of_ble_eq_true rfl) eX6_readTerm_20 (fun z9 e10 => ?_)
        subst e10
        refine q_blk (lv2 := [(0, vr t), (1, vi 0), (2, vi g), (3, vi i), (4, vi (kd e9))]) (st2 := [vi 42, vi (kd e9)]) kX6_readTerm_23 rfl ?_
        refine AQ.ic_eq (tgt := 41) eX6_readTerm_29 (by decide) (by first | assumption | exact ⟨by omega, by omega⟩) ⟨by decide, by decide⟩ (fun br11 => ?_) (fun br11 => ?_)
        · skip
          refine q_blk (lv2 := [(0, vr t), (1, vi 0), (2, vi g), (3, vi i), (4, vi (kd e9))]) (st2 := [vr t, vr t]) kX6_readTerm_41 rfl ?_
          refine q_gi eX6_readTerm_43 fl_RX6_28 (Or.inl rfl) w0 (z := e9) rfl ?_
          refine q_blk (lv2 := [(0, vr t), (1, vi 0), (2, vi g), (3, vi i), (4, vi (kd e9))]) (st2 := [vi (e9 + 1), vr t]) kX6_readTerm_46 rfl ?_
          refine q_pi eX6_readTerm_48 fl_RX6_28 (fun q hq => by cases hq; exact Or.inl rfl) (Or.inl rfl) w0 (Nat.le_of_ble_eq_true rfl) (l2 := [0, 0, 0, 0, 0, 0, 0, wt, (e9 + 1), v9, px, (L9.length : Int), hs, er, ea]) rfl (fun h12 e13 => ?_)
          have k14 := am_at e13
          have k15 := (am_ne e13 (t + 3) (by omega)).trans w1
          have k16 := (am_ne e13 (t + 4) (by omega)).trans w2
          have k17 := (am_ne e13 (t + 5) (by omega)).trans w3
          have k18 := (am_ne e13 (t + 6) (by omega)).trans w4
          have k19 := (am_ne e13 j (by omega)).trans w5
          have k20 := wL.kept (lo := t) (hi := t + 1) (am_fr.st e13 (by omega) (by omega)) (by omega)
          refine q_blk (lv2 := [(0, vr t), (1, vi 0), (2, vi g), (3, vi i), (4, vi (kd e9))]) (st2 := [vi 0, vr t]) kX6_readTerm_51 rfl ?_
          refine AQ.callVi (av := [vi 0]) (st := []) (c_X6_readFactor0 (L := L9) ⟨_, k14, k15, k16, k17, k18, cj, k19, k20⟩ n0 kn (by omega) (by omega) kr vq hL9 (by omega)) lk_RX6_233 (by decide) rfl rfl ⟨_, _, _, k14⟩ ⟨_, rfl, rfl⟩ (Nat.le_of_ble_eq_true rfl) eX6_readTerm_53 (fun z21 h23 e22 => ?_)
          rcases e22 with ⟨⟨rfl, Lh23, hh23e, qh23, ⟨bh23a, bh23b, bh23c⟩, hh23n, hh23c, Xh23, Ch23⟩ | ⟨rfl, eh23, ah23, qh23, Xh23⟩, Fh23⟩
          · skip
            obtain ⟨g24t, g240, g241, g242, g243, g244, g24j, g245, g24L⟩ := id Xh23
            refine q_blk (lv2 := [(0, vr t), (1, vi 0), (2, vi 1), (3, vi i), (4, vi (kd e9))]) (st2 := [vi 42, vi (kd e9), vr t]) kX6_readTerm_56 rfl ?_
            refine AQ.ic_ne (tgt := 70) eX6_readTerm_62 (by decide) (by first | assumption | exact ⟨by omega, by omega⟩) ⟨by decide, by decide⟩ (fun br25 => ?_) (fun br25 => ?_)
            · skip
              refine q_blk (lv2 := [(0, vr t), (1, vi 0), (2, vi 1), (3, vi i), (4, vi (kd e9))]) (st2 := [vi (-9), vr t]) kX6_readTerm_70 rfl ?_
              refine AQ.callVv (av := [vi (-9)]) (st := []) (c_X6_addCode (v := (-9)) ⟨_, g240, g241, g242, g243, g244, cj, g245, g24L⟩ (by omega) (by omega)) lk_RX6_230 (by decide) rfl rfl ⟨_, _, _, g240⟩ ⟨_, rfl, rfl⟩ (Nat.le_of_ble_eq_true rfl) eX6_readTerm_72 (fun h28 e27 => ?_)
              obtain ⟨Xh28, Fh28⟩ := e27
              obtain ⟨g29t, g290, g291, g292, g293, g294, g29j, g295, g29L⟩ := id Xh28
              refine q_blk (lv2 := [(0, vr t), (1, vi 0), (2, vi 1), (3, vi (i + 1)), (4, vi (kd e9))]) (st2 := []) kX6_readTerm_75 rfl ?_
              refine q_goto (tgt := 8) eX6_readTerm_78 (by decide) ?_
              refine q_sub (lv2 := [(0, vr t), (1, vi 0), (2, vi 1), (3, vi (i + 1))]) [0, 1, 2, 3] rfl ?_
              exact ih5 1 (i + 1) h28 (Lh23 ++ [(5, 0)]) hh23e hh23n (am_uI hh23c (Lh23.length : Int) (-9)) (⟨⟨by omega, by omega⟩, hfr.tr (((am_fr.rf.tr (am_fr.st e13 (by omega) (by omega))).tr Fh23).tr Fh28), Or.inl ⟨rfl, ⟨by omega, by omega, by simp; omega⟩, by rw [show 800 - (i + 1).toNat = 800 - i.toNat - 1 by omega]; exact (rJ_go (o := 5) (by omega) (by omega) qh23).symm.trans hJ9, Ch23.add (by unfold gm_en; simp), SU.cast ⟨_, g290, g291, g292, g293, g294, cj, g295, g29L⟩ (by simp)⟩⟩) (by omega)
            · skip
              refine q_blk (lv2 := [(0, vr t), (1, vi 0), (2, vi 1), (3, vi i), (4, vi (kd e9))]) (st2 := [vi (-8), vr t]) kX6_readTerm_65 rfl ?_
              refine q_goto (tgt := 72) eX6_readTerm_67 (by decide) ?_
              refine AQ.callVv (av := [vi (-8)]) (st := []) (c_X6_addCode (v := (-8)) ⟨_, g240, g241, g242, g243, g244, cj, g245, g24L⟩ (by omega) (by omega)) lk_RX6_230 (by decide) rfl rfl ⟨_, _, _, g240⟩ ⟨_, rfl, rfl⟩ (Nat.le_of_ble_eq_true rfl) eX6_readTerm_72 (fun h32 e31 => ?_)
              obtain ⟨Xh32, Fh32⟩ := e31
              obtain ⟨g33t, g330, g331, g332, g333, g334, g33j, g335, g33L⟩ := id Xh32
              refine q_blk (lv2 := [(0, vr t), (1, vi 0), (2, vi 1), (3, vi (i + 1)), (4, vi (kd e9))]) (st2 := []) kX6_readTerm_75 rfl ?_
              refine q_goto (tgt := 8) eX6_readTerm_78 (by decide) ?_
              refine q_sub (lv2 := [(0, vr t), (1, vi 0), (2, vi 1), (3, vi (i + 1))]) [0, 1, 2, 3] rfl ?_
              exact ih5 1 (i + 1) h32 (Lh23 ++ [(4, 0)]) hh23e hh23n (am_uI hh23c (Lh23.length : Int) (-8)) (⟨⟨by omega, by omega⟩, hfr.tr (((am_fr.rf.tr (am_fr.st e13 (by omega) (by omega))).tr Fh23).tr Fh32), Or.inl ⟨rfl, ⟨by omega, by omega, by simp; omega⟩, by rw [show 800 - (i + 1).toNat = 800 - i.toNat - 1 by omega]; exact (rJ_go (o := 4) (by omega) (by omega) qh23).symm.trans hJ9, Ch23.add (by unfold gm_en; simp), SU.cast ⟨_, g330, g331, g332, g333, g334, cj, g335, g33L⟩ (by simp)⟩⟩) (by omega)
          · skip
            refine q_blk (lv2 := [(0, vr t), (1, vi 0), (2, vi 0), (3, vi i), (4, vi (kd e9))]) (st2 := [vi 42, vi (kd e9), vr t]) kX6_readTerm_56 rfl ?_
            refine AQ.ic_ne (tgt := 70) eX6_readTerm_62 (by decide) (by first | assumption | exact ⟨by omega, by omega⟩) ⟨by decide, by decide⟩ (fun br34 => ?_) (fun br34 => ?_)
            · skip
              refine q_blk (lv2 := [(0, vr t), (1, vi 0), (2, vi 0), (3, vi i), (4, vi (kd e9))]) (st2 := [vi (-9), vr t]) kX6_readTerm_70 rfl ?_
              refine AQ.callVv (av := [vi (-9)]) (st := []) (c_X6_addCodeF Xh23 (v := (-9))) lk_RX6_230 (by decide) rfl rfl (SF.ob Xh23) ⟨_, rfl, rfl⟩ (Nat.le_of_ble_eq_true rfl) eX6_readTerm_72 (fun h37 e36 => ?_)
              obtain ⟨Xh37, Fh37⟩ := e36
              refine q_blk (lv2 := [(0, vr t), (1, vi 0), (2, vi 0), (3, vi (i + 1)), (4, vi (kd e9))]) (st2 := []) kX6_readTerm_75 rfl ?_
              refine q_goto (tgt := 8) eX6_readTerm_78 (by decide) ?_
              refine q_sub (lv2 := [(0, vr t), (1, vi 0), (2, vi 0), (3, vi (i + 1))]) [0, 1, 2, 3] rfl ?_
              exact ih5 0 (i + 1) h37 L 0 0 cd (⟨⟨by omega, by omega⟩, hfr.tr (((am_fr.rf.tr (am_fr.st e13 (by omega) (by omega))).tr Fh23).tr Fh37), Or.inr ⟨rfl, _, _, hJ9.symm.trans (rJ_no (by omega) (by omega) qh23), Xh37⟩⟩) (by omega)
            · skip
              refine q_blk (lv2 := [(0, vr t), (1, vi 0), (2, vi 0), (3, vi i), (4, vi (kd e9))]) (st2 := [vi (-8), vr t]) kX6_readTerm_65 rfl ?_
              refine q_goto (tgt := 72) eX6_readTerm_67 (by decide) ?_
              refine AQ.callVv (av := [vi (-8)]) (st := []) (c_X6_addCodeF Xh23 (v := (-8))) lk_RX6_230 (by decide) rfl rfl (SF.ob Xh23) ⟨_, rfl, rfl⟩ (Nat.le_of_ble_eq_true rfl) eX6_readTerm_72 (fun h40 e39 => ?_)
              obtain ⟨Xh40, Fh40⟩ := e39
              refine q_blk (lv2 := [(0, vr t), (1, vi 0), (2, vi 0), (3, vi (i + 1)), (4, vi (kd e9))]) (st2 := []) kX6_readTerm_75 rfl ?_
              refine q_goto (tgt := 8) eX6_readTerm_78 (by decide) ?_
              refine q_sub (lv2 := [(0, vr t), (1, vi 0), (2, vi 0), (3, vi (i + 1))]) [0, 1, 2, 3] rfl ?_
              exact ih5 0 (i + 1) h40 L 0 0 cd (⟨⟨by omega, by omega⟩, hfr.tr (((am_fr.rf.tr (am_fr.st e13 (by omega) (by omega))).tr Fh23).tr Fh40), Or.inr ⟨rfl, _, _, hJ9.symm.trans (rJ_no (by omega) (by omega) qh23), Xh40⟩⟩) (by omega)
        · skip
          refine q_blk (lv2 := [(0, vr t), (1, vi 0), (2, vi g), (3, vi i), (4, vi (kd e9))]) (st2 := [vi 47, vi (kd e9)]) kX6_readTerm_32 rfl ?_
          refine AQ.ic_eq (tgt := 41) eX6_readTerm_36 (by decide) (by first | assumption | exact ⟨by omega, by omega⟩) ⟨by decide, by decide⟩ (fun br41 => ?_) (fun br41 => ?_)
          · skip
            refine q_blk (lv2 := [(0, vr t), (1, vi 0), (2, vi g), (3, vi i), (4, vi (kd e9))]) (st2 := [vr t, vr t]) kX6_readTerm_41 rfl ?_
            refine q_gi eX6_readTerm_43 fl_RX6_28 (Or.inl rfl) w0 (z := e9) rfl ?_
            refine q_blk (lv2 := [(0, vr t), (1, vi 0), (2, vi g), (3, vi i), (4, vi (kd e9))]) (st2 := [vi (e9 + 1), vr t]) kX6_readTerm_46 rfl ?_
            refine q_pi eX6_readTerm_48 fl_RX6_28 (fun q hq => by cases hq; exact Or.inl rfl) (Or.inl rfl) w0 (Nat.le_of_ble_eq_true rfl) (l2 := [0, 0, 0, 0, 0, 0, 0, wt, (e9 + 1), v9, px, (L9.length : Int), hs, er, ea]) rfl (fun h42 e43 => ?_)
            have k44 := am_at e43
            have k45 := (am_ne e43 (t + 3) (by omega)).trans w1
            have k46 := (am_ne e43 (t + 4) (by omega)).trans w2
            have k47 := (am_ne e43 (t + 5) (by omega)).trans w3
            have k48 := (am_ne e43 (t + 6) (by omega)).trans w4
            have k49 := (am_ne e43 j (by omega)).trans w5
            have k50 := wL.kept (lo := t) (hi := t + 1) (am_fr.st e43 (by omega) (by omega)) (by omega)
            refine q_blk (lv2 := [(0, vr t), (1, vi 0), (2, vi g), (3, vi i), (4, vi (kd e9))]) (st2 := [vi 0, vr t]) kX6_readTerm_51 rfl ?_
            refine AQ.callVi (av := [vi 0]) (st := []) (c_X6_readFactor0 (L := L9) ⟨_, k44, k45, k46, k47, k48, cj, k49, k50⟩ n0 kn (by omega) (by omega) kr vq hL9 (by omega)) lk_RX6_233 (by decide) rfl rfl ⟨_, _, _, k44⟩ ⟨_, rfl, rfl⟩ (Nat.le_of_ble_eq_true rfl) eX6_readTerm_53 (fun z51 h53 e52 => ?_)
            rcases e52 with ⟨⟨rfl, Lh53, hh53e, qh53, ⟨bh53a, bh53b, bh53c⟩, hh53n, hh53c, Xh53, Ch53⟩ | ⟨rfl, eh53, ah53, qh53, Xh53⟩, Fh53⟩
            · skip
              obtain ⟨g54t, g540, g541, g542, g543, g544, g54j, g545, g54L⟩ := id Xh53
              refine q_blk (lv2 := [(0, vr t), (1, vi 0), (2, vi 1), (3, vi i), (4, vi (kd e9))]) (st2 := [vi 42, vi (kd e9), vr t]) kX6_readTerm_56 rfl ?_
              refine AQ.ic_ne (tgt := 70) eX6_readTerm_62 (by decide) (by first | assumption | exact ⟨by omega, by omega⟩) ⟨by decide, by decide⟩ (fun br55 => ?_) (fun br55 => ?_)
              · skip
                refine q_blk (lv2 := [(0, vr t), (1, vi 0), (2, vi 1), (3, vi i), (4, vi (kd e9))]) (st2 := [vi (-9), vr t]) kX6_readTerm_70 rfl ?_
                refine AQ.callVv (av := [vi (-9)]) (st := []) (c_X6_addCode (v := (-9)) ⟨_, g540, g541, g542, g543, g544, cj, g545, g54L⟩ (by omega) (by omega)) lk_RX6_230 (by decide) rfl rfl ⟨_, _, _, g540⟩ ⟨_, rfl, rfl⟩ (Nat.le_of_ble_eq_true rfl) eX6_readTerm_72 (fun h58 e57 => ?_)
                obtain ⟨Xh58, Fh58⟩ := e57
                obtain ⟨g59t, g590, g591, g592, g593, g594, g59j, g595, g59L⟩ := id Xh58
                refine q_blk (lv2 := [(0, vr t), (1, vi 0), (2, vi 1), (3, vi (i + 1)), (4, vi (kd e9))]) (st2 := []) kX6_readTerm_75 rfl ?_
                refine q_goto (tgt := 8) eX6_readTerm_78 (by decide) ?_
                refine q_sub (lv2 := [(0, vr t), (1, vi 0), (2, vi 1), (3, vi (i + 1))]) [0, 1, 2, 3] rfl ?_
                exact ih5 1 (i + 1) h58 (Lh53 ++ [(5, 0)]) hh53e hh53n (am_uI hh53c (Lh53.length : Int) (-9)) (⟨⟨by omega, by omega⟩, hfr.tr (((am_fr.rf.tr (am_fr.st e43 (by omega) (by omega))).tr Fh53).tr Fh58), Or.inl ⟨rfl, ⟨by omega, by omega, by simp; omega⟩, by rw [show 800 - (i + 1).toNat = 800 - i.toNat - 1 by omega]; exact (rJ_go (o := 5) (by omega) (by omega) qh53).symm.trans hJ9, Ch53.add (by unfold gm_en; simp), SU.cast ⟨_, g590, g591, g592, g593, g594, cj, g595, g59L⟩ (by simp)⟩⟩) (by omega)
              · skip
                refine q_blk (lv2 := [(0, vr t), (1, vi 0), (2, vi 1), (3, vi i), (4, vi (kd e9))]) (st2 := [vi (-8), vr t]) kX6_readTerm_65 rfl ?_
                refine q_goto (tgt := 72) eX6_readTerm_67 (by decide) ?_
                refine AQ.callVv (av := [vi (-8)]) (st := []) (c_X6_addCode (v := (-8)) ⟨_, g540, g541, g542, g543, g544, cj, g545, g54L⟩ (by omega) (by omega)) lk_RX6_230 (by decide) rfl rfl ⟨_, _, _, g540⟩ ⟨_, rfl, rfl⟩ (Nat.le_of_ble_eq_true rfl) eX6_readTerm_72 (fun h62 e61 => ?_)
                obtain ⟨Xh62, Fh62⟩ := e61
                obtain ⟨g63t, g630, g631, g632, g633, g634, g63j, g635, g63L⟩ := id Xh62
                refine q_blk (lv2 := [(0, vr t), (1, vi 0), (2, vi 1), (3, vi (i + 1)), (4, vi (kd e9))]) (st2 := []) kX6_readTerm_75 rfl ?_
                refine q_goto (tgt := 8) eX6_readTerm_78 (by decide) ?_
                refine q_sub (lv2 := [(0, vr t), (1, vi 0), (2, vi 1), (3, vi (i + 1))]) [0, 1, 2, 3] rfl ?_
                exact ih5 1 (i + 1) h62 (Lh53 ++ [(4, 0)]) hh53e hh53n (am_uI hh53c (Lh53.length : Int) (-8)) (⟨⟨by omega, by omega⟩, hfr.tr (((am_fr.rf.tr (am_fr.st e43 (by omega) (by omega))).tr Fh53).tr Fh62), Or.inl ⟨rfl, ⟨by omega, by omega, by simp; omega⟩, by rw [show 800 - (i + 1).toNat = 800 - i.toNat - 1 by omega]; exact (rJ_go (o := 4) (by omega) (by omega) qh53).symm.trans hJ9, Ch53.add (by unfold gm_en; simp), SU.cast ⟨_, g630, g631, g632, g633, g634, cj, g635, g63L⟩ (by simp)⟩⟩) (by omega)
            · skip
              refine q_blk (lv2 := [(0, vr t), (1, vi 0), (2, vi 0), (3, vi i), (4, vi (kd e9))]) (st2 := [vi 42, vi (kd e9), vr t]) kX6_readTerm_56 rfl ?_
              refine AQ.ic_ne (tgt := 70) eX6_readTerm_62 (by decide) (by first | assumption | exact ⟨by omega, by omega⟩) ⟨by decide, by decide⟩ (fun br64 => ?_) (fun br64 => ?_)
              · skip
                refine q_blk (lv2 := [(0, vr t), (1, vi 0), (2, vi 0), (3, vi i), (4, vi (kd e9))]) (st2 := [vi (-9), vr t]) kX6_readTerm_70 rfl ?_
                refine AQ.callVv (av := [vi (-9)]) (st := []) (c_X6_addCodeF Xh53 (v := (-9))) lk_RX6_230 (by decide) rfl rfl (SF.ob Xh53) ⟨_, rfl, rfl⟩ (Nat.le_of_ble_eq_true rfl) eX6_readTerm_72 (fun h67 e66 => ?_)
                obtain ⟨Xh67, Fh67⟩ := e66
                refine q_blk (lv2 := [(0, vr t), (1, vi 0), (2, vi 0), (3, vi (i + 1)), (4, vi (kd e9))]) (st2 := []) kX6_readTerm_75 rfl ?_
                refine q_goto (tgt := 8) eX6_readTerm_78 (by decide) ?_
                refine q_sub (lv2 := [(0, vr t), (1, vi 0), (2, vi 0), (3, vi (i + 1))]) [0, 1, 2, 3] rfl ?_
                exact ih5 0 (i + 1) h67 L 0 0 cd (⟨⟨by omega, by omega⟩, hfr.tr (((am_fr.rf.tr (am_fr.st e43 (by omega) (by omega))).tr Fh53).tr Fh67), Or.inr ⟨rfl, _, _, hJ9.symm.trans (rJ_no (by omega) (by omega) qh53), Xh67⟩⟩) (by omega)
              · skip
                refine q_blk (lv2 := [(0, vr t), (1, vi 0), (2, vi 0), (3, vi i), (4, vi (kd e9))]) (st2 := [vi (-8), vr t]) kX6_readTerm_65 rfl ?_
                refine q_goto (tgt := 72) eX6_readTerm_67 (by decide) ?_
                refine AQ.callVv (av := [vi (-8)]) (st := []) (c_X6_addCodeF Xh53 (v := (-8))) lk_RX6_230 (by decide) rfl rfl (SF.ob Xh53) ⟨_, rfl, rfl⟩ (Nat.le_of_ble_eq_true rfl) eX6_readTerm_72 (fun h70 e69 => ?_)
                obtain ⟨Xh70, Fh70⟩ := e69
                refine q_blk (lv2 := [(0, vr t), (1, vi 0), (2, vi 0), (3, vi (i + 1)), (4, vi (kd e9))]) (st2 := []) kX6_readTerm_75 rfl ?_
                refine q_goto (tgt := 8) eX6_readTerm_78 (by decide) ?_
                refine q_sub (lv2 := [(0, vr t), (1, vi 0), (2, vi 0), (3, vi (i + 1))]) [0, 1, 2, 3] rfl ?_
                exact ih5 0 (i + 1) h70 L 0 0 cd (⟨⟨by omega, by omega⟩, hfr.tr (((am_fr.rf.tr (am_fr.st e43 (by omega) (by omega))).tr Fh53).tr Fh70), Or.inr ⟨rfl, _, _, hJ9.symm.trans (rJ_no (by omega) (by omega) qh53), Xh70⟩⟩) (by omega)
          · skip
            refine q_blk (lv2 := [(0, vr t), (1, vi 0), (2, vi g), (3, vi i), (4, vi (kd e9))]) (st2 := [vi 1]) kX6_readTerm_39 rfl ?_
            exact q_rz rfl eX6_readTerm_40 (by decide) ⟨1, rfl, Or.inl ⟨rfl, L9, e9, hJ9.symm.trans (rJ_end (Or.inr ⟨by omega, by omega⟩)), ⟨by omega, by omega, by omega⟩, _, _, ⟨_, w0, w1, w2, w3, w4, cj, w5, wL⟩, hL9⟩, hfr.tr am_fr.rf⟩
  · skip
    refine q_blk (lv2 := [(0, vr t), (1, vi 0), (2, vi 0), (3, vi 0)]) (st2 := []) kX6_readTerm_5 rfl ?_
    refine am_lp7 (I := fun (g : Int) (i : Int) (hh : AH) (L9 : GL) (e9 : Int) (v9 : Int) (c9 : Int → Int) => (0 ≤ i ∧ i ≤ 800) ∧ am_fr h hh t (t + 7) ∧ ((g = 1 ∧ (he < e9 ∧ e9 ≤ n ∧ (L9.length : Int) ≤ (L.length : Int) + (e9 - he)) ∧ rJ kd (rA kd st vl (some (rU kd st vl 3))) 42 47 4 5 (800 - i.toNat) L9 e9 = rM kd st vl (some (rU kd st vl 3)) L he ∧ CL c9 L9 ∧ SU hh t u b j kd st vl e9 v9 px (L9.length : Int) hs er ea c9) ∨ (g = 0 ∧ ∃ e a, rM kd st vl (some (rU kd st vl 3)) L he = .inl (e, a) ∧ SF hh t u b j kd st vl e a))) (μ := fun (g : Int) (i : Int) (hh : AH) (L9 : GL) (e9 : Int) (v9 : Int) (c9 : Int → Int) => (800 - i).toNat) (G := fun (g : Int) (i : Int) (hh : AH) (L9 : GL) (e9 : Int) (v9 : Int) (c9 : Int → Int) => AQ w m_X6_readTerm 17 8 [(0, vr t), (1, vi 0), (2, vi g), (3, vi i)] [] hh (am_int (fun z h1 => ((z = 1 ∧ ∃ L' he', rM kd st vl (some (rU kd st vl 3)) L he = .inr (L', he') ∧ (he < he' ∧ he' ≤ n ∧ (L'.length : Int) ≤ (L.length : Int) + (he' - he)) ∧ ∃ nu' cd', SU h1 t u b j kd st vl he' nu' px (L'.length : Int) hs er ea cd' ∧ CL cd' L') ∨ (z = 0 ∧ ∃ e a, rM kd st vl (some (rU kd st vl 3)) L he = .inl (e, a) ∧ SF h1 t u b j kd st vl e a)) ∧ am_fr h h1 t (t + 7)))) ?_ 0 0 h3 L 0 0 cd (⟨⟨by omega, by omega⟩, (am_fr.rf.tr Fh3), Or.inr ⟨rfl, _, _, by unfold rM; exact rB_l qh3 _, Xh3⟩⟩)
    intro g i hh L9 e9 v9 c9 hI72 ih71
    obtain ⟨⟨i0, i1⟩, hfr, hG⟩ := hI72
    have hg9 : g = 0 ∨ g = 1 := by rcases hG with q | q; exact Or.inr q.1; exact Or.inl q.1
    refine q_blk (lv2 := [(0, vr t), (1, vi 0), (2, vi g), (3, vi i)]) (st2 := [vi 800, vi i]) kX6_readTerm_8 rfl ?_
    refine AQ.ic_ge (tgt := 81) eX6_readTerm_12 (by decide) (by first | assumption | exact ⟨by omega, by omega⟩) ⟨by decide, by decide⟩ (fun br73 => ?_) (fun br73 => ?_)
    · skip
      refine q_blk (lv2 := [(0, vr t), (1, vi 0), (2, vi g), (3, vi i)]) (st2 := [vi g]) kX6_readTerm_81 rfl ?_
      exact q_rz rfl eX6_readTerm_82 (by omega) ⟨g, rfl, (by rcases hG with ⟨rfl, hb9, hJ9, hL9, hS9⟩ | hG; exact Or.inl ⟨rfl, L9, e9, hJ9.symm.trans (rJ_end (Or.inl (by omega))), hb9, _, _, hS9, hL9⟩; exact Or.inr hG), hfr⟩
    · skip
      refine q_blk (lv2 := [(0, vr t), (1, vi 0), (2, vi g), (3, vi i)]) (st2 := [vi g]) kX6_readTerm_15 rfl ?_
      refine AQ.if_eq (tgt := 81) eX6_readTerm_16 (by decide) (by first | assumption | exact ⟨by omega, by omega⟩) (fun br74 => ?_) (fun br74 => ?_)
      · skip
        refine q_blk (lv2 := [(0, vr t), (1, vi 0), (2, vi g), (3, vi i)]) (st2 := [vi g]) kX6_readTerm_81 rfl ?_
        exact q_rz rfl eX6_readTerm_82 (by omega) ⟨g, rfl, (by rcases hG with ⟨rfl, hb9, hJ9, hL9, hS9⟩ | hG; exact Or.inl ⟨rfl, L9, e9, hJ9.symm.trans (rJ_end (Or.inl (by omega))), hb9, _, _, hS9, hL9⟩; exact Or.inr hG), hfr⟩
      · skip
        obtain ⟨-, ⟨b9a, b9b, b9c⟩, hJ9, hL9, hS9⟩ := hG.resolve_right (fun q => absurd q.1 (by omega))
        obtain ⟨wt, w0, w1, w2, w3, w4, wj, w5, wL⟩ := id hS9
        have kr9 := kr e9 (by omega) (by omega)
        have hen9 : kd e9 ≠ 0 → e9 ≠ n := fun q e => by rw [e] at q; omega
        refine q_blk (lv2 := [(0, vr t), (1, vi 0), (2, vi g), (3, vi i)]) (st2 := [vr t]) kX6_readTerm_19 rfl ?_
        refine q_Vi (av := []) (st := []) (c_X6_kindHere ⟨_, w0, w1, w2, w3, w4, cj, w5, wL⟩ (by omega) (by omega)) lk_RX6_70 (by decide) rfl rfl ⟨_, _, _, w0⟩ ⟨_, rfl, rfl⟩ (Nat.le_of_ble_eq_true rfl) eX6_readTerm_20 (fun z75 e76 => ?_)
        subst e76
        refine q_blk (lv2 := [(0, vr t), (1, vi 0), (2, vi g), (3, vi i), (4, vi (kd e9))]) (st2 := [vi 42, vi (kd e9)]) kX6_readTerm_23 rfl ?_
        refine AQ.ic_eq (tgt := 41) eX6_readTerm_29 (by decide) (by first | assumption | exact ⟨by omega, by omega⟩) ⟨by decide, by decide⟩ (fun br77 => ?_) (fun br77 => ?_)
        · skip
          refine q_blk (lv2 := [(0, vr t), (1, vi 0), (2, vi g), (3, vi i), (4, vi (kd e9))]) (st2 := [vr t, vr t]) kX6_readTerm_41 rfl ?_
          refine q_gi eX6_readTerm_43 fl_RX6_28 (Or.inl rfl) w0 (z := e9) rfl ?_
          refine q_blk (lv2 := [(0, vr t), (1, vi 0), (2, vi g), (3, vi i), (4, vi (kd e9))]) (st2 := [vi (e9 + 1), vr t]) kX6_readTerm_46 rfl ?_
          refine q_pi eX6_readTerm_48 fl_RX6_28 (fun q hq => by cases hq; exact Or.inl rfl) (Or.inl rfl) w0 (Nat.le_of_ble_eq_true rfl) (l2 := [0, 0, 0, 0, 0, 0, 0, wt, (e9 + 1), v9, px, (L9.length : Int), hs, er, ea]) rfl (fun h78 e79 => ?_)
          have k80 := am_at e79
          have k81 := (am_ne e79 (t + 3) (by omega)).trans w1
          have k82 := (am_ne e79 (t + 4) (by omega)).trans w2
          have k83 := (am_ne e79 (t + 5) (by omega)).trans w3
          have k84 := (am_ne e79 (t + 6) (by omega)).trans w4
          have k85 := (am_ne e79 j (by omega)).trans w5
          have k86 := wL.kept (lo := t) (hi := t + 1) (am_fr.st e79 (by omega) (by omega)) (by omega)
          refine q_blk (lv2 := [(0, vr t), (1, vi 0), (2, vi g), (3, vi i), (4, vi (kd e9))]) (st2 := [vi 0, vr t]) kX6_readTerm_51 rfl ?_
          refine AQ.callVi (av := [vi 0]) (st := []) (c_X6_readFactor0 (L := L9) ⟨_, k80, k81, k82, k83, k84, cj, k85, k86⟩ n0 kn (by omega) (by omega) kr vq hL9 (by omega)) lk_RX6_233 (by decide) rfl rfl ⟨_, _, _, k80⟩ ⟨_, rfl, rfl⟩ (Nat.le_of_ble_eq_true rfl) eX6_readTerm_53 (fun z87 h89 e88 => ?_)
          rcases e88 with ⟨⟨rfl, Lh89, hh89e, qh89, ⟨bh89a, bh89b, bh89c⟩, hh89n, hh89c, Xh89, Ch89⟩ | ⟨rfl, eh89, ah89, qh89, Xh89⟩, Fh89⟩
          · skip
            obtain ⟨g90t, g900, g901, g902, g903, g904, g90j, g905, g90L⟩ := id Xh89
            refine q_blk (lv2 := [(0, vr t), (1, vi 0), (2, vi 1), (3, vi i), (4, vi (kd e9))]) (st2 := [vi 42, vi (kd e9), vr t]) kX6_readTerm_56 rfl ?_
            refine AQ.ic_ne (tgt := 70) eX6_readTerm_62 (by decide) (by first | assumption | exact ⟨by omega, by omega⟩) ⟨by decide, by decide⟩ (fun br91 => ?_) (fun br91 => ?_)
            · skip
              refine q_blk (lv2 := [(0, vr t), (1, vi 0), (2, vi 1), (3, vi i), (4, vi (kd e9))]) (st2 := [vi (-9), vr t]) kX6_readTerm_70 rfl ?_
              refine AQ.callVv (av := [vi (-9)]) (st := []) (c_X6_addCode (v := (-9)) ⟨_, g900, g901, g902, g903, g904, cj, g905, g90L⟩ (by omega) (by omega)) lk_RX6_230 (by decide) rfl rfl ⟨_, _, _, g900⟩ ⟨_, rfl, rfl⟩ (Nat.le_of_ble_eq_true rfl) eX6_readTerm_72 (fun h94 e93 => ?_)
              obtain ⟨Xh94, Fh94⟩ := e93
              obtain ⟨g95t, g950, g951, g952, g953, g954, g95j, g955, g95L⟩ := id Xh94
              refine q_blk (lv2 := [(0, vr t), (1, vi 0), (2, vi 1), (3, vi (i + 1)), (4, vi (kd e9))]) (st2 := []) kX6_readTerm_75 rfl ?_
              refine q_goto (tgt := 8) eX6_readTerm_78 (by decide) ?_
              refine q_sub (lv2 := [(0, vr t), (1, vi 0), (2, vi 1), (3, vi (i + 1))]) [0, 1, 2, 3] rfl ?_
              exact ih71 1 (i + 1) h94 (Lh89 ++ [(5, 0)]) hh89e hh89n (am_uI hh89c (Lh89.length : Int) (-9)) (⟨⟨by omega, by omega⟩, hfr.tr (((am_fr.rf.tr (am_fr.st e79 (by omega) (by omega))).tr Fh89).tr Fh94), Or.inl ⟨rfl, ⟨by omega, by omega, by simp; omega⟩, by rw [show 800 - (i + 1).toNat = 800 - i.toNat - 1 by omega]; exact (rJ_go (o := 5) (by omega) (by omega) qh89).symm.trans hJ9, Ch89.add (by unfold gm_en; simp), SU.cast ⟨_, g950, g951, g952, g953, g954, cj, g955, g95L⟩ (by simp)⟩⟩) (by omega)
            · skip
              refine q_blk (lv2 := [(0, vr t), (1, vi 0), (2, vi 1), (3, vi i), (4, vi (kd e9))]) (st2 := [vi (-8), vr t]) kX6_readTerm_65 rfl ?_
              refine q_goto (tgt := 72) eX6_readTerm_67 (by decide) ?_
              refine AQ.callVv (av := [vi (-8)]) (st := []) (c_X6_addCode (v := (-8)) ⟨_, g900, g901, g902, g903, g904, cj, g905, g90L⟩ (by omega) (by omega)) lk_RX6_230 (by decide) rfl rfl ⟨_, _, _, g900⟩ ⟨_, rfl, rfl⟩ (Nat.le_of_ble_eq_true rfl) eX6_readTerm_72 (fun h98 e97 => ?_)
              obtain ⟨Xh98, Fh98⟩ := e97
              obtain ⟨g99t, g990, g991, g992, g993, g994, g99j, g995, g99L⟩ := id Xh98
              refine q_blk (lv2 := [(0, vr t), (1, vi 0), (2, vi 1), (3, vi (i + 1)), (4, vi (kd e9))]) (st2 := []) kX6_readTerm_75 rfl ?_
              refine q_goto (tgt := 8) eX6_readTerm_78 (by decide) ?_
              refine q_sub (lv2 := [(0, vr t), (1, vi 0), (2, vi 1), (3, vi (i + 1))]) [0, 1, 2, 3] rfl ?_
              exact ih71 1 (i + 1) h98 (Lh89 ++ [(4, 0)]) hh89e hh89n (am_uI hh89c (Lh89.length : Int) (-8)) (⟨⟨by omega, by omega⟩, hfr.tr (((am_fr.rf.tr (am_fr.st e79 (by omega) (by omega))).tr Fh89).tr Fh98), Or.inl ⟨rfl, ⟨by omega, by omega, by simp; omega⟩, by rw [show 800 - (i + 1).toNat = 800 - i.toNat - 1 by omega]; exact (rJ_go (o := 4) (by omega) (by omega) qh89).symm.trans hJ9, Ch89.add (by unfold gm_en; simp), SU.cast ⟨_, g990, g991, g992, g993, g994, cj, g995, g99L⟩ (by simp)⟩⟩) (by omega)
          · skip
            refine q_blk (lv2 := [(0, vr t), (1, vi 0), (2, vi 0), (3, vi i), (4, vi (kd e9))]) (st2 := [vi 42, vi (kd e9), vr t]) kX6_readTerm_56 rfl ?_
            refine AQ.ic_ne (tgt := 70) eX6_readTerm_62 (by decide) (by first | assumption | exact ⟨by omega, by omega⟩) ⟨by decide, by decide⟩ (fun br100 => ?_) (fun br100 => ?_)
            · skip
              refine q_blk (lv2 := [(0, vr t), (1, vi 0), (2, vi 0), (3, vi i), (4, vi (kd e9))]) (st2 := [vi (-9), vr t]) kX6_readTerm_70 rfl ?_
              refine AQ.callVv (av := [vi (-9)]) (st := []) (c_X6_addCodeF Xh89 (v := (-9))) lk_RX6_230 (by decide) rfl rfl (SF.ob Xh89) ⟨_, rfl, rfl⟩ (Nat.le_of_ble_eq_true rfl) eX6_readTerm_72 (fun h103 e102 => ?_)
              obtain ⟨Xh103, Fh103⟩ := e102
              refine q_blk (lv2 := [(0, vr t), (1, vi 0), (2, vi 0), (3, vi (i + 1)), (4, vi (kd e9))]) (st2 := []) kX6_readTerm_75 rfl ?_
              refine q_goto (tgt := 8) eX6_readTerm_78 (by decide) ?_
              refine q_sub (lv2 := [(0, vr t), (1, vi 0), (2, vi 0), (3, vi (i + 1))]) [0, 1, 2, 3] rfl ?_
              exact ih71 0 (i + 1) h103 L 0 0 cd (⟨⟨by omega, by omega⟩, hfr.tr (((am_fr.rf.tr (am_fr.st e79 (by omega) (by omega))).tr Fh89).tr Fh103), Or.inr ⟨rfl, _, _, hJ9.symm.trans (rJ_no (by omega) (by omega) qh89), Xh103⟩⟩) (by omega)
            · skip
              refine q_blk (lv2 := [(0, vr t), (1, vi 0), (2, vi 0), (3, vi i), (4, vi (kd e9))]) (st2 := [vi (-8), vr t]) kX6_readTerm_65 rfl ?_
              refine q_goto (tgt := 72) eX6_readTerm_67 (by decide) ?_
              refine AQ.callVv (av := [vi (-8)]) (st := []) (c_X6_addCodeF Xh89 (v := (-8))) lk_RX6_230 (by decide) rfl rfl (SF.ob Xh89) ⟨_, rfl, rfl⟩ (Nat.le_of_ble_eq_true rfl) eX6_readTerm_72 (fun h106 e105 => ?_)
              obtain ⟨Xh106, Fh106⟩ := e105
              refine q_blk (lv2 := [(0, vr t), (1, vi 0), (2, vi 0), (3, vi (i + 1)), (4, vi (kd e9))]) (st2 := []) kX6_readTerm_75 rfl ?_
              refine q_goto (tgt := 8) eX6_readTerm_78 (by decide) ?_
              refine q_sub (lv2 := [(0, vr t), (1, vi 0), (2, vi 0), (3, vi (i + 1))]) [0, 1, 2, 3] rfl ?_
              exact ih71 0 (i + 1) h106 L 0 0 cd (⟨⟨by omega, by omega⟩, hfr.tr (((am_fr.rf.tr (am_fr.st e79 (by omega) (by omega))).tr Fh89).tr Fh106), Or.inr ⟨rfl, _, _, hJ9.symm.trans (rJ_no (by omega) (by omega) qh89), Xh106⟩⟩) (by omega)
        · skip
          refine q_blk (lv2 := [(0, vr t), (1, vi 0), (2, vi g), (3, vi i), (4, vi (kd e9))]) (st2 := [vi 47, vi (kd e9)]) kX6_readTerm_32 rfl ?_
          refine AQ.ic_eq (tgt := 41) eX6_readTerm_36 (by decide) (by first | assumption | exact ⟨by omega, by omega⟩) ⟨by decide, by decide⟩ (fun br107 => ?_) (fun br107 => ?_)
          · skip
            refine q_blk (lv2 := [(0, vr t), (1, vi 0), (2, vi g), (3, vi i), (4, vi (kd e9))]) (st2 := [vr t, vr t]) kX6_readTerm_41 rfl ?_
            refine q_gi eX6_readTerm_43 fl_RX6_28 (Or.inl rfl) w0 (z := e9) rfl ?_
            refine q_blk (lv2 := [(0, vr t), (1, vi 0), (2, vi g), (3, vi i), (4, vi (kd e9))]) (st2 := [vi (e9 + 1), vr t]) kX6_readTerm_46 rfl ?_
            refine q_pi eX6_readTerm_48 fl_RX6_28 (fun q hq => by cases hq; exact Or.inl rfl) (Or.inl rfl) w0 (Nat.le_of_ble_eq_true rfl) (l2 := [0, 0, 0, 0, 0, 0, 0, wt, (e9 + 1), v9, px, (L9.length : Int), hs, er, ea]) rfl (fun h108 e109 => ?_)
            have k110 := am_at e109
            have k111 := (am_ne e109 (t + 3) (by omega)).trans w1
            have k112 := (am_ne e109 (t + 4) (by omega)).trans w2
            have k113 := (am_ne e109 (t + 5) (by omega)).trans w3
            have k114 := (am_ne e109 (t + 6) (by omega)).trans w4
            have k115 := (am_ne e109 j (by omega)).trans w5
            have k116 := wL.kept (lo := t) (hi := t + 1) (am_fr.st e109 (by omega) (by omega)) (by omega)
            refine q_blk (lv2 := [(0, vr t), (1, vi 0), (2, vi g), (3, vi i), (4, vi (kd e9))]) (st2 := [vi 0, vr t]) kX6_readTerm_51 rfl ?_
            refine AQ.callVi (av := [vi 0]) (st := []) (c_X6_readFactor0 (L := L9) ⟨_, k110, k111, k112, k113, k114, cj, k115, k116⟩ n0 kn (by omega) (by omega) kr vq hL9 (by omega)) lk_RX6_233 (by decide) rfl rfl ⟨_, _, _, k110⟩ ⟨_, rfl, rfl⟩ (Nat.le_of_ble_eq_true rfl) eX6_readTerm_53 (fun z117 h119 e118 => ?_)
            rcases e118 with ⟨⟨rfl, Lh119, hh119e, qh119, ⟨bh119a, bh119b, bh119c⟩, hh119n, hh119c, Xh119, Ch119⟩ | ⟨rfl, eh119, ah119, qh119, Xh119⟩, Fh119⟩
            · skip
              obtain ⟨g120t, g1200, g1201, g1202, g1203, g1204, g120j, g1205, g120L⟩ := id Xh119
              refine q_blk (lv2 := [(0, vr t), (1, vi 0), (2, vi 1), (3, vi i), (4, vi (kd e9))]) (st2 := [vi 42, vi (kd e9), vr t]) kX6_readTerm_56 rfl ?_
              refine AQ.ic_ne (tgt := 70) eX6_readTerm_62 (by decide) (by first | assumption | exact ⟨by omega, by omega⟩) ⟨by decide, by decide⟩ (fun br121 => ?_) (fun br121 => ?_)
              · skip
                refine q_blk (lv2 := [(0, vr t), (1, vi 0), (2, vi 1), (3, vi i), (4, vi (kd e9))]) (st2 := [vi (-9), vr t]) kX6_readTerm_70 rfl ?_
                refine AQ.callVv (av := [vi (-9)]) (st := []) (c_X6_addCode (v := (-9)) ⟨_, g1200, g1201, g1202, g1203, g1204, cj, g1205, g120L⟩ (by omega) (by omega)) lk_RX6_230 (by decide) rfl rfl ⟨_, _, _, g1200⟩ ⟨_, rfl, rfl⟩ (Nat.le_of_ble_eq_true rfl) eX6_readTerm_72 (fun h124 e123 => ?_)
                obtain ⟨Xh124, Fh124⟩ := e123
                obtain ⟨g125t, g1250, g1251, g1252, g1253, g1254, g125j, g1255, g125L⟩ := id Xh124
                refine q_blk (lv2 := [(0, vr t), (1, vi 0), (2, vi 1), (3, vi (i + 1)), (4, vi (kd e9))]) (st2 := []) kX6_readTerm_75 rfl ?_
                refine q_goto (tgt := 8) eX6_readTerm_78 (by decide) ?_
                refine q_sub (lv2 := [(0, vr t), (1, vi 0), (2, vi 1), (3, vi (i + 1))]) [0, 1, 2, 3] rfl ?_
                exact ih71 1 (i + 1) h124 (Lh119 ++ [(5, 0)]) hh119e hh119n (am_uI hh119c (Lh119.length : Int) (-9)) (⟨⟨by omega, by omega⟩, hfr.tr (((am_fr.rf.tr (am_fr.st e109 (by omega) (by omega))).tr Fh119).tr Fh124), Or.inl ⟨rfl, ⟨by omega, by omega, by simp; omega⟩, by rw [show 800 - (i + 1).toNat = 800 - i.toNat - 1 by omega]; exact (rJ_go (o := 5) (by omega) (by omega) qh119).symm.trans hJ9, Ch119.add (by unfold gm_en; simp), SU.cast ⟨_, g1250, g1251, g1252, g1253, g1254, cj, g1255, g125L⟩ (by simp)⟩⟩) (by omega)
              · skip
                refine q_blk (lv2 := [(0, vr t), (1, vi 0), (2, vi 1), (3, vi i), (4, vi (kd e9))]) (st2 := [vi (-8), vr t]) kX6_readTerm_65 rfl ?_
                refine q_goto (tgt := 72) eX6_readTerm_67 (by decide) ?_
                refine AQ.callVv (av := [vi (-8)]) (st := []) (c_X6_addCode (v := (-8)) ⟨_, g1200, g1201, g1202, g1203, g1204, cj, g1205, g120L⟩ (by omega) (by omega)) lk_RX6_230 (by decide) rfl rfl ⟨_, _, _, g1200⟩ ⟨_, rfl, rfl⟩ (Nat.le_of_ble_eq_true rfl) eX6_readTerm_72 (fun h128 e127 => ?_)
                obtain ⟨Xh128, Fh128⟩ := e127
                obtain ⟨g129t, g1290, g1291, g1292, g1293, g1294, g129j, g1295, g129L⟩ := id Xh128
                refine q_blk (lv2 := [(0, vr t), (1, vi 0), (2, vi 1), (3, vi (i + 1)), (4, vi (kd e9))]) (st2 := []) kX6_readTerm_75 rfl ?_
                refine q_goto (tgt := 8) eX6_readTerm_78 (by decide) ?_
                refine q_sub (lv2 := [(0, vr t), (1, vi 0), (2, vi 1), (3, vi (i + 1))]) [0, 1, 2, 3] rfl ?_
                exact ih71 1 (i + 1) h128 (Lh119 ++ [(4, 0)]) hh119e hh119n (am_uI hh119c (Lh119.length : Int) (-8)) (⟨⟨by omega, by omega⟩, hfr.tr (((am_fr.rf.tr (am_fr.st e109 (by omega) (by omega))).tr Fh119).tr Fh128), Or.inl ⟨rfl, ⟨by omega, by omega, by simp; omega⟩, by rw [show 800 - (i + 1).toNat = 800 - i.toNat - 1 by omega]; exact (rJ_go (o := 4) (by omega) (by omega) qh119).symm.trans hJ9, Ch119.add (by unfold gm_en; simp), SU.cast ⟨_, g1290, g1291, g1292, g1293, g1294, cj, g1295, g129L⟩ (by simp)⟩⟩) (by omega)
            · skip
              refine q_blk (lv2 := [(0, vr t), (1, vi 0), (2, vi 0), (3, vi i), (4, vi (kd e9))]) (st2 := [vi 42, vi (kd e9), vr t]) kX6_readTerm_56 rfl ?_
              refine AQ.ic_ne (tgt := 70) eX6_readTerm_62 (by decide) (by first | assumption | exact ⟨by omega, by omega⟩) ⟨by decide, by decide⟩ (fun br130 => ?_) (fun br130 => ?_)
              · skip
                refine q_blk (lv2 := [(0, vr t), (1, vi 0), (2, vi 0), (3, vi i), (4, vi (kd e9))]) (st2 := [vi (-9), vr t]) kX6_readTerm_70 rfl ?_
                refine AQ.callVv (av := [vi (-9)]) (st := []) (c_X6_addCodeF Xh119 (v := (-9))) lk_RX6_230 (by decide) rfl rfl (SF.ob Xh119) ⟨_, rfl, rfl⟩ (Nat.le_of_ble_eq_true rfl) eX6_readTerm_72 (fun h133 e132 => ?_)
                obtain ⟨Xh133, Fh133⟩ := e132
                refine q_blk (lv2 := [(0, vr t), (1, vi 0), (2, vi 0), (3, vi (i + 1)), (4, vi (kd e9))]) (st2 := []) kX6_readTerm_75 rfl ?_
                refine q_goto (tgt := 8) eX6_readTerm_78 (by decide) ?_
                refine q_sub (lv2 := [(0, vr t), (1, vi 0), (2, vi 0), (3, vi (i + 1))]) [0, 1, 2, 3] rfl ?_
                exact ih71 0 (i + 1) h133 L 0 0 cd (⟨⟨by omega, by omega⟩, hfr.tr (((am_fr.rf.tr (am_fr.st e109 (by omega) (by omega))).tr Fh119).tr Fh133), Or.inr ⟨rfl, _, _, hJ9.symm.trans (rJ_no (by omega) (by omega) qh119), Xh133⟩⟩) (by omega)
              · skip
                refine q_blk (lv2 := [(0, vr t), (1, vi 0), (2, vi 0), (3, vi i), (4, vi (kd e9))]) (st2 := [vi (-8), vr t]) kX6_readTerm_65 rfl ?_
                refine q_goto (tgt := 72) eX6_readTerm_67 (by decide) ?_
                refine AQ.callVv (av := [vi (-8)]) (st := []) (c_X6_addCodeF Xh119 (v := (-8))) lk_RX6_230 (by decide) rfl rfl (SF.ob Xh119) ⟨_, rfl, rfl⟩ (Nat.le_of_ble_eq_true rfl) eX6_readTerm_72 (fun h136 e135 => ?_)
                obtain ⟨Xh136, Fh136⟩ := e135
                refine q_blk (lv2 := [(0, vr t), (1, vi 0), (2, vi 0), (3, vi (i + 1)), (4, vi (kd e9))]) (st2 := []) kX6_readTerm_75 rfl ?_
                refine q_goto (tgt := 8) eX6_readTerm_78 (by decide) ?_
                refine q_sub (lv2 := [(0, vr t), (1, vi 0), (2, vi 0), (3, vi (i + 1))]) [0, 1, 2, 3] rfl ?_
                exact ih71 0 (i + 1) h136 L 0 0 cd (⟨⟨by omega, by omega⟩, hfr.tr (((am_fr.rf.tr (am_fr.st e109 (by omega) (by omega))).tr Fh119).tr Fh136), Or.inr ⟨rfl, _, _, hJ9.symm.trans (rJ_no (by omega) (by omega) qh119), Xh136⟩⟩) (by omega)
          · skip
            refine q_blk (lv2 := [(0, vr t), (1, vi 0), (2, vi g), (3, vi i), (4, vi (kd e9))]) (st2 := [vi 1]) kX6_readTerm_39 rfl ?_
            exact q_rz rfl eX6_readTerm_40 (by decide) ⟨1, rfl, Or.inl ⟨rfl, L9, e9, hJ9.symm.trans (rJ_end (Or.inr ⟨by omega, by omega⟩)), ⟨by omega, by omega, by omega⟩, _, _, ⟨_, w0, w1, w2, w3, w4, cj, w5, wL⟩, hL9⟩, hfr.tr am_fr.rf⟩

set_option maxHeartbeats 1000000 in
theorem c_X6_readSum0 {w : am_w} {h : AH} {L : GL} {t u b j : Nat} {kd st vl : Int → Int} {he nu px hs er ea : Int} {cd : Int → Int} (hS : SU h t u b j kd st vl he nu px (L.length : Int) hs er ea cd) {n : Int} (n0 : n ≤ 800) (kn : kd n = 0) (he0 : 0 ≤ he) (he1 : he ≤ n) (kr : ∀ i, 0 ≤ i → i < 801 → -5 ≤ kd i ∧ kd i ≤ 100) (vq : ∀ i, 0 ≤ i → i < 801 → 0 ≤ vl i ∧ vl i ≤ 10000) (hL : CL cd L) (hl : (L.length : Int) ≤ he)  : AE w m_X6_readSum 18 [vr t, vi 0] h (am_int (fun z h1 => ((z = 1 ∧ ∃ L' he', rU kd st vl 4 L he = .inr (L', he') ∧ (he < he' ∧ he' ≤ n ∧ (L'.length : Int) ≤ (L.length : Int) + (he' - he)) ∧ ∃ nu' cd', SU h1 t u b j kd st vl he' nu' px (L'.length : Int) hs er ea cd' ∧ CL cd' L') ∨ (z = 0 ∧ ∃ e a, rU kd st vl 4 L he = .inl (e, a) ∧ SF h1 t u b j kd st vl e a)) ∧ am_fr h h1 t (t + 7))) := by
  refine AE.of wf_X6_readSum (Nat.le_of_ble_eq_true rfl) (am_ok_z (fun z h1 q => by rcases q.1 with q | q; exact Or.inr q.1; exact Or.inl q.1)) ?_
  obtain ⟨tc, c0, c1, c2, c3, c4, cj, c5, cL⟩ := id hS
  have kr1 := kr he he0 (by omega)
  have vr1 := vq he he0 (by omega)
  have hen : kd he ≠ 0 → he ≠ n := fun q e9 => by rw [e9] at q; omega
  refine q_blk (lv2 := [(0, vr t), (1, vi 0)]) (st2 := [vi 0, vr t]) kX6_readSum_0 rfl ?_
  refine AQ.callVi (av := [vi 0]) (st := []) (c_X6_readTerm0 (L := L) ⟨_, c0, c1, c2, c3, c4, cj, c5, cL⟩ n0 kn (by omega) (by omega) kr vq hL (by omega)) lk_RX6_227 (by decide) rfl rfl ⟨_, _, _, c0⟩ ⟨_, rfl, rfl⟩ (Nat.le_of_ble_eq_true rfl) eX6_readSum_2 (fun z1 h3 e2 => ?_)
  rcases e2 with ⟨⟨rfl, Lh3, hh3e, qh3, ⟨bh3a, bh3b, bh3c⟩, hh3n, hh3c, Xh3, Ch3⟩ | ⟨rfl, eh3, ah3, qh3, Xh3⟩, Fh3⟩
  · skip
    obtain ⟨g4t, g40, g41, g42, g43, g44, g4j, g45, g4L⟩ := id Xh3
    refine q_blk (lv2 := [(0, vr t), (1, vi 0), (2, vi 1), (3, vi 0)]) (st2 := []) kX6_readSum_5 rfl ?_
    refine am_lp7 (I := fun (g : Int) (i : Int) (hh : AH) (L9 : GL) (e9 : Int) (v9 : Int) (c9 : Int → Int) => (0 ≤ i ∧ i ≤ 800) ∧ am_fr h hh t (t + 7) ∧ ((g = 1 ∧ (he < e9 ∧ e9 ≤ n ∧ (L9.length : Int) ≤ (L.length : Int) + (e9 - he)) ∧ rJ kd (rM kd st vl (some (rU kd st vl 3))) 43 45 2 3 (800 - i.toNat) L9 e9 = rU kd st vl 4 L he ∧ CL c9 L9 ∧ SU hh t u b j kd st vl e9 v9 px (L9.length : Int) hs er ea c9) ∨ (g = 0 ∧ ∃ e a, rU kd st vl 4 L he = .inl (e, a) ∧ SF hh t u b j kd st vl e a))) (μ := fun (g : Int) (i : Int) (hh : AH) (L9 : GL) (e9 : Int) (v9 : Int) (c9 : Int → Int) => (800 - i).toNat) (G := fun (g : Int) (i : Int) (hh : AH) (L9 : GL) (e9 : Int) (v9 : Int) (c9 : Int → Int) => AQ w m_X6_readSum 18 8 [(0, vr t), (1, vi 0), (2, vi g), (3, vi i)] [] hh (am_int (fun z h1 => ((z = 1 ∧ ∃ L' he', rU kd st vl 4 L he = .inr (L', he') ∧ (he < he' ∧ he' ≤ n ∧ (L'.length : Int) ≤ (L.length : Int) + (he' - he)) ∧ ∃ nu' cd', SU h1 t u b j kd st vl he' nu' px (L'.length : Int) hs er ea cd' ∧ CL cd' L') ∨ (z = 0 ∧ ∃ e a, rU kd st vl 4 L he = .inl (e, a) ∧ SF h1 t u b j kd st vl e a)) ∧ am_fr h h1 t (t + 7)))) ?_ 1 0 h3 Lh3 hh3e hh3n hh3c (⟨⟨by omega, by omega⟩, (am_fr.rf.tr Fh3), Or.inl ⟨rfl, ⟨by omega, by omega, by omega⟩, by rw [show (800 - (0 : Int).toNat : Nat) = 800 from rfl]; rw [rU_4]; rw [rB_r qh3], Ch3, ⟨_, g40, g41, g42, g43, g44, cj, g45, g4L⟩⟩⟩)
    intro g i hh L9 e9 v9 c9 hI6 ih5
    obtain ⟨⟨i0, i1⟩, hfr, hG⟩ := hI6
    have hg9 : g = 0 ∨ g = 1 := by rcases hG with q | q; exact Or.inr q.1; exact Or.inl q.1
    refine q_blk (lv2 := [(0, vr t), (1, vi 0), (2, vi g), (3, vi i)]) (st2 := [vi 800, vi i]) kX6_readSum_8 rfl ?_
    refine AQ.ic_ge (tgt := 81) eX6_readSum_12 (by decide) (by first | assumption | exact ⟨by omega, by omega⟩) ⟨by decide, by decide⟩ (fun br7 => ?_) (fun br7 => ?_)
    · skip
      refine q_blk (lv2 := [(0, vr t), (1, vi 0), (2, vi g), (3, vi i)]) (st2 := [vi g]) kX6_readSum_81 rfl ?_
      exact q_rz rfl eX6_readSum_82 (by omega) ⟨g, rfl, (by rcases hG with ⟨rfl, hb9, hJ9, hL9, hS9⟩ | hG; exact Or.inl ⟨rfl, L9, e9, hJ9.symm.trans (rJ_end (Or.inl (by omega))), hb9, _, _, hS9, hL9⟩; exact Or.inr hG), hfr⟩
    · skip
      refine q_blk (lv2 := [(0, vr t), (1, vi 0), (2, vi g), (3, vi i)]) (st2 := [vi g]) kX6_readSum_15 rfl ?_
      refine AQ.if_eq (tgt := 81) eX6_readSum_16 (by decide) (by first | assumption | exact ⟨by omega, by omega⟩) (fun br8 => ?_) (fun br8 => ?_)
      · skip
        refine q_blk (lv2 := [(0, vr t), (1, vi 0), (2, vi g), (3, vi i)]) (st2 := [vi g]) kX6_readSum_81 rfl ?_
        exact q_rz rfl eX6_readSum_82 (by omega) ⟨g, rfl, (by rcases hG with ⟨rfl, hb9, hJ9, hL9, hS9⟩ | hG; exact Or.inl ⟨rfl, L9, e9, hJ9.symm.trans (rJ_end (Or.inl (by omega))), hb9, _, _, hS9, hL9⟩; exact Or.inr hG), hfr⟩
      · skip
        obtain ⟨-, ⟨b9a, b9b, b9c⟩, hJ9, hL9, hS9⟩ := hG.resolve_right (fun q => absurd q.1 (by omega))
        obtain ⟨wt, w0, w1, w2, w3, w4, wj, w5, wL⟩ := id hS9
        have kr9 := kr e9 (by omega) (by omega)
        have hen9 : kd e9 ≠ 0 → e9 ≠ n := fun q e => by rw [e] at q; omega
        refine q_blk (lv2 := [(0, vr t), (1, vi 0), (2, vi g), (3, vi i)]) (st2 := [vr t]) kX6_readSum_19 rfl ?_
        refine q_Vi (av := []) (st := []) (c_X6_kindHere ⟨_, w0, w1, w2, w3, w4, cj, w5, wL⟩ (by omega) (by omega)) lk_RX6_70 (by decide) rfl rfl ⟨_, _, _, w0⟩ ⟨_, rfl, rfl⟩ (Nat.le_of_ble_eq_true rfl) eX6_readSum_20 (fun z9 e10 => ?_)
        subst e10
        refine q_blk (lv2 := [(0, vr t), (1, vi 0), (2, vi g), (3, vi i), (4, vi (kd e9))]) (st2 := [vi 43, vi (kd e9)]) kX6_readSum_23 rfl ?_
        refine AQ.ic_eq (tgt := 41) eX6_readSum_29 (by decide) (by first | assumption | exact ⟨by omega, by omega⟩) ⟨by decide, by decide⟩ (fun br11 => ?_) (fun br11 => ?_)
        · skip
          refine q_blk (lv2 := [(0, vr t), (1, vi 0), (2, vi g), (3, vi i), (4, vi (kd e9))]) (st2 := [vr t, vr t]) kX6_readSum_41 rfl ?_
          refine q_gi eX6_readSum_43 fl_RX6_28 (Or.inl rfl) w0 (z := e9) rfl ?_
          refine q_blk (lv2 := [(0, vr t), (1, vi 0), (2, vi g), (3, vi i), (4, vi (kd e9))]) (st2 := [vi (e9 + 1), vr t]) kX6_readSum_46 rfl ?_
          refine q_pi eX6_readSum_48 fl_RX6_28 (fun q hq => by cases hq; exact Or.inl rfl) (Or.inl rfl) w0 (Nat.le_of_ble_eq_true rfl) (l2 := [0, 0, 0, 0, 0, 0, 0, wt, (e9 + 1), v9, px, (L9.length : Int), hs, er, ea]) rfl (fun h12 e13 => ?_)
          have k14 := am_at e13
          have k15 := (am_ne e13 (t + 3) (by omega)).trans w1
          have k16 := (am_ne e13 (t + 4) (by omega)).trans w2
          have k17 := (am_ne e13 (t + 5) (by omega)).trans w3
          have k18 := (am_ne e13 (t + 6) (by omega)).trans w4
          have k19 := (am_ne e13 j (by omega)).trans w5
          have k20 := wL.kept (lo := t) (hi := t + 1) (am_fr.st e13 (by omega) (by omega)) (by omega)
          refine q_blk (lv2 := [(0, vr t), (1, vi 0), (2, vi g), (3, vi i), (4, vi (kd e9))]) (st2 := [vi 0, vr t]) kX6_readSum_51 rfl ?_
          refine AQ.callVi (av := [vi 0]) (st := []) (c_X6_readTerm0 (L := L9) ⟨_, k14, k15, k16, k17, k18, cj, k19, k20⟩ n0 kn (by omega) (by omega) kr vq hL9 (by omega)) lk_RX6_227 (by decide) rfl rfl ⟨_, _, _, k14⟩ ⟨_, rfl, rfl⟩ (Nat.le_of_ble_eq_true rfl) eX6_readSum_53 (fun z21 h23 e22 => ?_)
          rcases e22 with ⟨⟨rfl, Lh23, hh23e, qh23, ⟨bh23a, bh23b, bh23c⟩, hh23n, hh23c, Xh23, Ch23⟩ | ⟨rfl, eh23, ah23, qh23, Xh23⟩, Fh23⟩
          · skip
            obtain ⟨g24t, g240, g241, g242, g243, g244, g24j, g245, g24L⟩ := id Xh23
            refine q_blk (lv2 := [(0, vr t), (1, vi 0), (2, vi 1), (3, vi i), (4, vi (kd e9))]) (st2 := [vi 43, vi (kd e9), vr t]) kX6_readSum_56 rfl ?_
            refine AQ.ic_ne (tgt := 70) eX6_readSum_62 (by decide) (by first | assumption | exact ⟨by omega, by omega⟩) ⟨by decide, by decide⟩ (fun br25 => ?_) (fun br25 => ?_)
            · skip
              refine q_blk (lv2 := [(0, vr t), (1, vi 0), (2, vi 1), (3, vi i), (4, vi (kd e9))]) (st2 := [vi (-7), vr t]) kX6_readSum_70 rfl ?_
              refine AQ.callVv (av := [vi (-7)]) (st := []) (c_X6_addCode (v := (-7)) ⟨_, g240, g241, g242, g243, g244, cj, g245, g24L⟩ (by omega) (by omega)) lk_RX6_230 (by decide) rfl rfl ⟨_, _, _, g240⟩ ⟨_, rfl, rfl⟩ (Nat.le_of_ble_eq_true rfl) eX6_readSum_72 (fun h28 e27 => ?_)
              obtain ⟨Xh28, Fh28⟩ := e27
              obtain ⟨g29t, g290, g291, g292, g293, g294, g29j, g295, g29L⟩ := id Xh28
              refine q_blk (lv2 := [(0, vr t), (1, vi 0), (2, vi 1), (3, vi (i + 1)), (4, vi (kd e9))]) (st2 := []) kX6_readSum_75 rfl ?_
              refine q_goto (tgt := 8) eX6_readSum_78 (by decide) ?_
              refine q_sub (lv2 := [(0, vr t), (1, vi 0), (2, vi 1), (3, vi (i + 1))]) [0, 1, 2, 3] rfl ?_
              exact ih5 1 (i + 1) h28 (Lh23 ++ [(3, 0)]) hh23e hh23n (am_uI hh23c (Lh23.length : Int) (-7)) (⟨⟨by omega, by omega⟩, hfr.tr (((am_fr.rf.tr (am_fr.st e13 (by omega) (by omega))).tr Fh23).tr Fh28), Or.inl ⟨rfl, ⟨by omega, by omega, by simp; omega⟩, by rw [show 800 - (i + 1).toNat = 800 - i.toNat - 1 by omega]; exact (rJ_go (o := 3) (by omega) (by omega) qh23).symm.trans hJ9, Ch23.add (by unfold gm_en; simp), SU.cast ⟨_, g290, g291, g292, g293, g294, cj, g295, g29L⟩ (by simp)⟩⟩) (by omega)
            · skip
              refine q_blk (lv2 := [(0, vr t), (1, vi 0), (2, vi 1), (3, vi i), (4, vi (kd e9))]) (st2 := [vi (-6), vr t]) kX6_readSum_65 rfl ?_
              refine q_goto (tgt := 72) eX6_readSum_67 (by decide) ?_
              refine AQ.callVv (av := [vi (-6)]) (st := []) (c_X6_addCode (v := (-6)) ⟨_, g240, g241, g242, g243, g244, cj, g245, g24L⟩ (by omega) (by omega)) lk_RX6_230 (by decide) rfl rfl ⟨_, _, _, g240⟩ ⟨_, rfl, rfl⟩ (Nat.le_of_ble_eq_true rfl) eX6_readSum_72 (fun h32 e31 => ?_)
              obtain ⟨Xh32, Fh32⟩ := e31
              obtain ⟨g33t, g330, g331, g332, g333, g334, g33j, g335, g33L⟩ := id Xh32
              refine q_blk (lv2 := [(0, vr t), (1, vi 0), (2, vi 1), (3, vi (i + 1)), (4, vi (kd e9))]) (st2 := []) kX6_readSum_75 rfl ?_
              refine q_goto (tgt := 8) eX6_readSum_78 (by decide) ?_
              refine q_sub (lv2 := [(0, vr t), (1, vi 0), (2, vi 1), (3, vi (i + 1))]) [0, 1, 2, 3] rfl ?_
              exact ih5 1 (i + 1) h32 (Lh23 ++ [(2, 0)]) hh23e hh23n (am_uI hh23c (Lh23.length : Int) (-6)) (⟨⟨by omega, by omega⟩, hfr.tr (((am_fr.rf.tr (am_fr.st e13 (by omega) (by omega))).tr Fh23).tr Fh32), Or.inl ⟨rfl, ⟨by omega, by omega, by simp; omega⟩, by rw [show 800 - (i + 1).toNat = 800 - i.toNat - 1 by omega]; exact (rJ_go (o := 2) (by omega) (by omega) qh23).symm.trans hJ9, Ch23.add (by unfold gm_en; simp), SU.cast ⟨_, g330, g331, g332, g333, g334, cj, g335, g33L⟩ (by simp)⟩⟩) (by omega)
          · skip
            refine q_blk (lv2 := [(0, vr t), (1, vi 0), (2, vi 0), (3, vi i), (4, vi (kd e9))]) (st2 := [vi 43, vi (kd e9), vr t]) kX6_readSum_56 rfl ?_
            refine AQ.ic_ne (tgt := 70) eX6_readSum_62 (by decide) (by first | assumption | exact ⟨by omega, by omega⟩) ⟨by decide, by decide⟩ (fun br34 => ?_) (fun br34 => ?_)
            · skip
              refine q_blk (lv2 := [(0, vr t), (1, vi 0), (2, vi 0), (3, vi i), (4, vi (kd e9))]) (st2 := [vi (-7), vr t]) kX6_readSum_70 rfl ?_
              refine AQ.callVv (av := [vi (-7)]) (st := []) (c_X6_addCodeF Xh23 (v := (-7))) lk_RX6_230 (by decide) rfl rfl (SF.ob Xh23) ⟨_, rfl, rfl⟩ (Nat.le_of_ble_eq_true rfl) eX6_readSum_72 (fun h37 e36 => ?_)
              obtain ⟨Xh37, Fh37⟩ := e36
              refine q_blk (lv2 := [(0, vr t), (1, vi 0), (2, vi 0), (3, vi (i + 1)), (4, vi (kd e9))]) (st2 := []) kX6_readSum_75 rfl ?_
              refine q_goto (tgt := 8) eX6_readSum_78 (by decide) ?_
              refine q_sub (lv2 := [(0, vr t), (1, vi 0), (2, vi 0), (3, vi (i + 1))]) [0, 1, 2, 3] rfl ?_
              exact ih5 0 (i + 1) h37 L 0 0 cd (⟨⟨by omega, by omega⟩, hfr.tr (((am_fr.rf.tr (am_fr.st e13 (by omega) (by omega))).tr Fh23).tr Fh37), Or.inr ⟨rfl, _, _, hJ9.symm.trans (rJ_no (by omega) (by omega) qh23), Xh37⟩⟩) (by omega)
            · skip
              refine q_blk (lv2 := [(0, vr t), (1, vi 0), (2, vi 0), (3, vi i), (4, vi (kd e9))]) (st2 := [vi (-6), vr t]) kX6_readSum_65 rfl ?_
              refine q_goto (tgt := 72) eX6_readSum_67 (by decide) ?_
              refine AQ.callVv (av := [vi (-6)]) (st := []) (c_X6_addCodeF Xh23 (v := (-6))) lk_RX6_230 (by decide) rfl rfl (SF.ob Xh23) ⟨_, rfl, rfl⟩ (Nat.le_of_ble_eq_true rfl) eX6_readSum_72 (fun h40 e39 => ?_)
              obtain ⟨Xh40, Fh40⟩ := e39
              refine q_blk (lv2 := [(0, vr t), (1, vi 0), (2, vi 0), (3, vi (i + 1)), (4, vi (kd e9))]) (st2 := []) kX6_readSum_75 rfl ?_
              refine q_goto (tgt := 8) eX6_readSum_78 (by decide) ?_
              refine q_sub (lv2 := [(0, vr t), (1, vi 0), (2, vi 0), (3, vi (i + 1))]) [0, 1, 2, 3] rfl ?_
              exact ih5 0 (i + 1) h40 L 0 0 cd (⟨⟨by omega, by omega⟩, hfr.tr (((am_fr.rf.tr (am_fr.st e13 (by omega) (by omega))).tr Fh23).tr Fh40), Or.inr ⟨rfl, _, _, hJ9.symm.trans (rJ_no (by omega) (by omega) qh23), Xh40⟩⟩) (by omega)
        · skip
          refine q_blk (lv2 := [(0, vr t), (1, vi 0), (2, vi g), (3, vi i), (4, vi (kd e9))]) (st2 := [vi 45, vi (kd e9)]) kX6_readSum_32 rfl ?_
          refine AQ.ic_eq (tgt := 41) eX6_readSum_36 (by decide) (by first | assumption | exact ⟨by omega, by omega⟩) ⟨by decide, by decide⟩ (fun br41 => ?_) (fun br41 => ?_)
          · skip
            refine q_blk (lv2 := [(0, vr t), (1, vi 0), (2, vi g), (3, vi i), (4, vi (kd e9))]) (st2 := [vr t, vr t]) kX6_readSum_41 rfl ?_
            refine q_gi eX6_readSum_43 fl_RX6_28 (Or.inl rfl) w0 (z := e9) rfl ?_
            refine q_blk (lv2 := [(0, vr t), (1, vi 0), (2, vi g), (3, vi i), (4, vi (kd e9))]) (st2 := [vi (e9 + 1), vr t]) kX6_readSum_46 rfl ?_
            refine q_pi eX6_readSum_48 fl_RX6_28 (fun q hq => by cases hq; exact Or.inl rfl) (Or.inl rfl) w0 (Nat.le_of_ble_eq_true rfl) (l2 := [0, 0, 0, 0, 0, 0, 0, wt, (e9 + 1), v9, px, (L9.length : Int), hs, er, ea]) rfl (fun h42 e43 => ?_)
            have k44 := am_at e43
            have k45 := (am_ne e43 (t + 3) (by omega)).trans w1
            have k46 := (am_ne e43 (t + 4) (by omega)).trans w2
            have k47 := (am_ne e43 (t + 5) (by omega)).trans w3
            have k48 := (am_ne e43 (t + 6) (by omega)).trans w4
            have k49 := (am_ne e43 j (by omega)).trans w5
            have k50 := wL.kept (lo := t) (hi := t + 1) (am_fr.st e43 (by omega) (by omega)) (by omega)
            refine q_blk (lv2 := [(0, vr t), (1, vi 0), (2, vi g), (3, vi i), (4, vi (kd e9))]) (st2 := [vi 0, vr t]) kX6_readSum_51 rfl ?_
            refine AQ.callVi (av := [vi 0]) (st := []) (c_X6_readTerm0 (L := L9) ⟨_, k44, k45, k46, k47, k48, cj, k49, k50⟩ n0 kn (by omega) (by omega) kr vq hL9 (by omega)) lk_RX6_227 (by decide) rfl rfl ⟨_, _, _, k44⟩ ⟨_, rfl, rfl⟩ (Nat.le_of_ble_eq_true rfl) eX6_readSum_53 (fun z51 h53 e52 => ?_)
            rcases e52 with ⟨⟨rfl, Lh53, hh53e, qh53, ⟨bh53a, bh53b, bh53c⟩, hh53n, hh53c, Xh53, Ch53⟩ | ⟨rfl, eh53, ah53, qh53, Xh53⟩, Fh53⟩
            · skip
              obtain ⟨g54t, g540, g541, g542, g543, g544, g54j, g545, g54L⟩ := id Xh53
              refine q_blk (lv2 := [(0, vr t), (1, vi 0), (2, vi 1), (3, vi i), (4, vi (kd e9))]) (st2 := [vi 43, vi (kd e9), vr t]) kX6_readSum_56 rfl ?_
              refine AQ.ic_ne (tgt := 70) eX6_readSum_62 (by decide) (by first | assumption | exact ⟨by omega, by omega⟩) ⟨by decide, by decide⟩ (fun br55 => ?_) (fun br55 => ?_)
              · skip
                refine q_blk (lv2 := [(0, vr t), (1, vi 0), (2, vi 1), (3, vi i), (4, vi (kd e9))]) (st2 := [vi (-7), vr t]) kX6_readSum_70 rfl ?_
                refine AQ.callVv (av := [vi (-7)]) (st := []) (c_X6_addCode (v := (-7)) ⟨_, g540, g541, g542, g543, g544, cj, g545, g54L⟩ (by omega) (by omega)) lk_RX6_230 (by decide) rfl rfl ⟨_, _, _, g540⟩ ⟨_, rfl, rfl⟩ (Nat.le_of_ble_eq_true rfl) eX6_readSum_72 (fun h58 e57 => ?_)
                obtain ⟨Xh58, Fh58⟩ := e57
                obtain ⟨g59t, g590, g591, g592, g593, g594, g59j, g595, g59L⟩ := id Xh58
                refine q_blk (lv2 := [(0, vr t), (1, vi 0), (2, vi 1), (3, vi (i + 1)), (4, vi (kd e9))]) (st2 := []) kX6_readSum_75 rfl ?_
                refine q_goto (tgt := 8) eX6_readSum_78 (by decide) ?_
                refine q_sub (lv2 := [(0, vr t), (1, vi 0), (2, vi 1), (3, vi (i + 1))]) [0, 1, 2, 3] rfl ?_
                exact ih5 1 (i + 1) h58 (Lh53 ++ [(3, 0)]) hh53e hh53n (am_uI hh53c (Lh53.length : Int) (-7)) (⟨⟨by omega, by omega⟩, hfr.tr (((am_fr.rf.tr (am_fr.st e43 (by omega) (by omega))).tr Fh53).tr Fh58), Or.inl ⟨rfl, ⟨by omega, by omega, by simp; omega⟩, by rw [show 800 - (i + 1).toNat = 800 - i.toNat - 1 by omega]; exact (rJ_go (o := 3) (by omega) (by omega) qh53).symm.trans hJ9, Ch53.add (by unfold gm_en; simp), SU.cast ⟨_, g590, g591, g592, g593, g594, cj, g595, g59L⟩ (by simp)⟩⟩) (by omega)
              · skip
                refine q_blk (lv2 := [(0, vr t), (1, vi 0), (2, vi 1), (3, vi i), (4, vi (kd e9))]) (st2 := [vi (-6), vr t]) kX6_readSum_65 rfl ?_
                refine q_goto (tgt := 72) eX6_readSum_67 (by decide) ?_
                refine AQ.callVv (av := [vi (-6)]) (st := []) (c_X6_addCode (v := (-6)) ⟨_, g540, g541, g542, g543, g544, cj, g545, g54L⟩ (by omega) (by omega)) lk_RX6_230 (by decide) rfl rfl ⟨_, _, _, g540⟩ ⟨_, rfl, rfl⟩ (Nat.le_of_ble_eq_true rfl) eX6_readSum_72 (fun h62 e61 => ?_)
                obtain ⟨Xh62, Fh62⟩ := e61
                obtain ⟨g63t, g630, g631, g632, g633, g634, g63j, g635, g63L⟩ := id Xh62
                refine q_blk (lv2 := [(0, vr t), (1, vi 0), (2, vi 1), (3, vi (i + 1)), (4, vi (kd e9))]) (st2 := []) kX6_readSum_75 rfl ?_
                refine q_goto (tgt := 8) eX6_readSum_78 (by decide) ?_
                refine q_sub (lv2 := [(0, vr t), (1, vi 0), (2, vi 1), (3, vi (i + 1))]) [0, 1, 2, 3] rfl ?_
                exact ih5 1 (i + 1) h62 (Lh53 ++ [(2, 0)]) hh53e hh53n (am_uI hh53c (Lh53.length : Int) (-6)) (⟨⟨by omega, by omega⟩, hfr.tr (((am_fr.rf.tr (am_fr.st e43 (by omega) (by omega))).tr Fh53).tr Fh62), Or.inl ⟨rfl, ⟨by omega, by omega, by simp; omega⟩, by rw [show 800 - (i + 1).toNat = 800 - i.toNat - 1 by omega]; exact (rJ_go (o := 2) (by omega) (by omega) qh53).symm.trans hJ9, Ch53.add (by unfold gm_en; simp), SU.cast ⟨_, g630, g631, g632, g633, g634, cj, g635, g63L⟩ (by simp)⟩⟩) (by omega)
            · skip
              refine q_blk (lv2 := [(0, vr t), (1, vi 0), (2, vi 0), (3, vi i), (4, vi (kd e9))]) (st2 := [vi 43, vi (kd e9), vr t]) kX6_readSum_56 rfl ?_
              refine AQ.ic_ne (tgt := 70) eX6_readSum_62 (by decide) (by first | assumption | exact ⟨by omega, by omega⟩) ⟨by decide, by decide⟩ (fun br64 => ?_) (fun br64 => ?_)
              · skip
                refine q_blk (lv2 := [(0, vr t), (1, vi 0), (2, vi 0), (3, vi i), (4, vi (kd e9))]) (st2 := [vi (-7), vr t]) kX6_readSum_70 rfl ?_
                refine AQ.callVv (av := [vi (-7)]) (st := []) (c_X6_addCodeF Xh53 (v := (-7))) lk_RX6_230 (by decide) rfl rfl (SF.ob Xh53) ⟨_, rfl, rfl⟩ (Nat.le_of_ble_eq_true rfl) eX6_readSum_72 (fun h67 e66 => ?_)
                obtain ⟨Xh67, Fh67⟩ := e66
                refine q_blk (lv2 := [(0, vr t), (1, vi 0), (2, vi 0), (3, vi (i + 1)), (4, vi (kd e9))]) (st2 := []) kX6_readSum_75 rfl ?_
                refine q_goto (tgt := 8) eX6_readSum_78 (by decide) ?_
                refine q_sub (lv2 := [(0, vr t), (1, vi 0), (2, vi 0), (3, vi (i + 1))]) [0, 1, 2, 3] rfl ?_
                exact ih5 0 (i + 1) h67 L 0 0 cd (⟨⟨by omega, by omega⟩, hfr.tr (((am_fr.rf.tr (am_fr.st e43 (by omega) (by omega))).tr Fh53).tr Fh67), Or.inr ⟨rfl, _, _, hJ9.symm.trans (rJ_no (by omega) (by omega) qh53), Xh67⟩⟩) (by omega)
              · skip
                refine q_blk (lv2 := [(0, vr t), (1, vi 0), (2, vi 0), (3, vi i), (4, vi (kd e9))]) (st2 := [vi (-6), vr t]) kX6_readSum_65 rfl ?_
                refine q_goto (tgt := 72) eX6_readSum_67 (by decide) ?_
                refine AQ.callVv (av := [vi (-6)]) (st := []) (c_X6_addCodeF Xh53 (v := (-6))) lk_RX6_230 (by decide) rfl rfl (SF.ob Xh53) ⟨_, rfl, rfl⟩ (Nat.le_of_ble_eq_true rfl) eX6_readSum_72 (fun h70 e69 => ?_)
                obtain ⟨Xh70, Fh70⟩ := e69
                refine q_blk (lv2 := [(0, vr t), (1, vi 0), (2, vi 0), (3, vi (i + 1)), (4, vi (kd e9))]) (st2 := []) kX6_readSum_75 rfl ?_
                refine q_goto (tgt := 8) eX6_readSum_78 (by decide) ?_
                refine q_sub (lv2 := [(0, vr t), (1, vi 0), (2, vi 0), (3, vi (i + 1))]) [0, 1, 2, 3] rfl ?_
                exact ih5 0 (i + 1) h70 L 0 0 cd (⟨⟨by omega, by omega⟩, hfr.tr (((am_fr.rf.tr (am_fr.st e43 (by omega) (by omega))).tr Fh53).tr Fh70), Or.inr ⟨rfl, _, _, hJ9.symm.trans (rJ_no (by omega) (by omega) qh53), Xh70⟩⟩) (by omega)
          · skip
            refine q_blk (lv2 := [(0, vr t), (1, vi 0), (2, vi g), (3, vi i), (4, vi (kd e9))]) (st2 := [vi 1]) kX6_readSum_39 rfl ?_
            exact q_rz rfl eX6_readSum_40 (by decide) ⟨1, rfl, Or.inl ⟨rfl, L9, e9, hJ9.symm.trans (rJ_end (Or.inr ⟨by omega, by omega⟩)), ⟨by omega, by omega, by omega⟩, _, _, ⟨_, w0, w1, w2, w3, w4, cj, w5, wL⟩, hL9⟩, hfr.tr am_fr.rf⟩
  · skip
    refine q_blk (lv2 := [(0, vr t), (1, vi 0), (2, vi 0), (3, vi 0)]) (st2 := []) kX6_readSum_5 rfl ?_
    refine am_lp7 (I := fun (g : Int) (i : Int) (hh : AH) (L9 : GL) (e9 : Int) (v9 : Int) (c9 : Int → Int) => (0 ≤ i ∧ i ≤ 800) ∧ am_fr h hh t (t + 7) ∧ ((g = 1 ∧ (he < e9 ∧ e9 ≤ n ∧ (L9.length : Int) ≤ (L.length : Int) + (e9 - he)) ∧ rJ kd (rM kd st vl (some (rU kd st vl 3))) 43 45 2 3 (800 - i.toNat) L9 e9 = rU kd st vl 4 L he ∧ CL c9 L9 ∧ SU hh t u b j kd st vl e9 v9 px (L9.length : Int) hs er ea c9) ∨ (g = 0 ∧ ∃ e a, rU kd st vl 4 L he = .inl (e, a) ∧ SF hh t u b j kd st vl e a))) (μ := fun (g : Int) (i : Int) (hh : AH) (L9 : GL) (e9 : Int) (v9 : Int) (c9 : Int → Int) => (800 - i).toNat) (G := fun (g : Int) (i : Int) (hh : AH) (L9 : GL) (e9 : Int) (v9 : Int) (c9 : Int → Int) => AQ w m_X6_readSum 18 8 [(0, vr t), (1, vi 0), (2, vi g), (3, vi i)] [] hh (am_int (fun z h1 => ((z = 1 ∧ ∃ L' he', rU kd st vl 4 L he = .inr (L', he') ∧ (he < he' ∧ he' ≤ n ∧ (L'.length : Int) ≤ (L.length : Int) + (he' - he)) ∧ ∃ nu' cd', SU h1 t u b j kd st vl he' nu' px (L'.length : Int) hs er ea cd' ∧ CL cd' L') ∨ (z = 0 ∧ ∃ e a, rU kd st vl 4 L he = .inl (e, a) ∧ SF h1 t u b j kd st vl e a)) ∧ am_fr h h1 t (t + 7)))) ?_ 0 0 h3 L 0 0 cd (⟨⟨by omega, by omega⟩, (am_fr.rf.tr Fh3), Or.inr ⟨rfl, _, _, by rw [rU_4]; exact rB_l qh3 _, Xh3⟩⟩)
    intro g i hh L9 e9 v9 c9 hI72 ih71
    obtain ⟨⟨i0, i1⟩, hfr, hG⟩ := hI72
    have hg9 : g = 0 ∨ g = 1 := by rcases hG with q | q; exact Or.inr q.1; exact Or.inl q.1
    refine q_blk (lv2 := [(0, vr t), (1, vi 0), (2, vi g), (3, vi i)]) (st2 := [vi 800, vi i]) kX6_readSum_8 rfl ?_
    refine AQ.ic_ge (tgt := 81) eX6_readSum_12 (by decide) (by first | assumption | exact ⟨by omega, by omega⟩) ⟨by decide, by decide⟩ (fun br73 => ?_) (fun br73 => ?_)
    · skip
      refine q_blk (lv2 := [(0, vr t), (1, vi 0), (2, vi g), (3, vi i)]) (st2 := [vi g]) kX6_readSum_81 rfl ?_
      exact q_rz rfl eX6_readSum_82 (by omega) ⟨g, rfl, (by rcases hG with ⟨rfl, hb9, hJ9, hL9, hS9⟩ | hG; exact Or.inl ⟨rfl, L9, e9, hJ9.symm.trans (rJ_end (Or.inl (by omega))), hb9, _, _, hS9, hL9⟩; exact Or.inr hG), hfr⟩
    · skip
      refine q_blk (lv2 := [(0, vr t), (1, vi 0), (2, vi g), (3, vi i)]) (st2 := [vi g]) kX6_readSum_15 rfl ?_
      refine AQ.if_eq (tgt := 81) eX6_readSum_16 (by decide) (by first | assumption | exact ⟨by omega, by omega⟩) (fun br74 => ?_) (fun br74 => ?_)
      · skip
        refine q_blk (lv2 := [(0, vr t), (1, vi 0), (2, vi g), (3, vi i)]) (st2 := [vi g]) kX6_readSum_81 rfl ?_
        exact q_rz rfl eX6_readSum_82 (by omega) ⟨g, rfl, (by rcases hG with ⟨rfl, hb9, hJ9, hL9, hS9⟩ | hG; exact Or.inl ⟨rfl, L9, e9, hJ9.symm.trans (rJ_end (Or.inl (by omega))), hb9, _, _, hS9, hL9⟩; exact Or.inr hG), hfr⟩
      · skip
        obtain ⟨-, ⟨b9a, b9b, b9c⟩, hJ9, hL9, hS9⟩ := hG.resolve_right (fun q => absurd q.1 (by omega))
        obtain ⟨wt, w0, w1, w2, w3, w4, wj, w5, wL⟩ := id hS9
        have kr9 := kr e9 (by omega) (by omega)
        have hen9 : kd e9 ≠ 0 → e9 ≠ n := fun q e => by rw [e] at q; omega
        refine q_blk (lv2 := [(0, vr t), (1, vi 0), (2, vi g), (3, vi i)]) (st2 := [vr t]) kX6_readSum_19 rfl ?_
        refine q_Vi (av := []) (st := []) (c_X6_kindHere ⟨_, w0, w1, w2, w3, w4, cj, w5, wL⟩ (by omega) (by omega)) lk_RX6_70 (by decide) rfl rfl ⟨_, _, _, w0⟩ ⟨_, rfl, rfl⟩ (Nat.le_of_ble_eq_true rfl) eX6_readSum_20 (fun z75 e76 => ?_)
        subst e76
        refine q_blk (lv2 := [(0, vr t), (1, vi 0), (2, vi g), (3, vi i), (4, vi (kd e9))]) (st2 := [vi 43, vi (kd e9)]) kX6_readSum_23 rfl ?_
        refine AQ.ic_eq (tgt := 41) eX6_readSum_29 (by decide) (by first | assumption | exact ⟨by omega, by omega⟩) ⟨by decide, by decide⟩ (fun br77 => ?_) (fun br77 => ?_)
        · skip
          refine q_blk (lv2 := [(0, vr t), (1, vi 0), (2, vi g), (3, vi i), (4, vi (kd e9))]) (st2 := [vr t, vr t]) kX6_readSum_41 rfl ?_
          refine q_gi eX6_readSum_43 fl_RX6_28 (Or.inl rfl) w0 (z := e9) rfl ?_
          refine q_blk (lv2 := [(0, vr t), (1, vi 0), (2, vi g), (3, vi i), (4, vi (kd e9))]) (st2 := [vi (e9 + 1), vr t]) kX6_readSum_46 rfl ?_
          refine q_pi eX6_readSum_48 fl_RX6_28 (fun q hq => by cases hq; exact Or.inl rfl) (Or.inl rfl) w0 (Nat.le_of_ble_eq_true rfl) (l2 := [0, 0, 0, 0, 0, 0, 0, wt, (e9 + 1), v9, px, (L9.length : Int), hs, er, ea]) rfl (fun h78 e79 => ?_)
          have k80 := am_at e79
          have k81 := (am_ne e79 (t + 3) (by omega)).trans w1
          have k82 := (am_ne e79 (t + 4) (by omega)).trans w2
          have k83 := (am_ne e79 (t + 5) (by omega)).trans w3
          have k84 := (am_ne e79 (t + 6) (by omega)).trans w4
          have k85 := (am_ne e79 j (by omega)).trans w5
          have k86 := wL.kept (lo := t) (hi := t + 1) (am_fr.st e79 (by omega) (by omega)) (by omega)
          refine q_blk (lv2 := [(0, vr t), (1, vi 0), (2, vi g), (3, vi i), (4, vi (kd e9))]) (st2 := [vi 0, vr t]) kX6_readSum_51 rfl ?_
          refine AQ.callVi (av := [vi 0]) (st := []) (c_X6_readTerm0 (L := L9) ⟨_, k80, k81, k82, k83, k84, cj, k85, k86⟩ n0 kn (by omega) (by omega) kr vq hL9 (by omega)) lk_RX6_227 (by decide) rfl rfl ⟨_, _, _, k80⟩ ⟨_, rfl, rfl⟩ (Nat.le_of_ble_eq_true rfl) eX6_readSum_53 (fun z87 h89 e88 => ?_)
          rcases e88 with ⟨⟨rfl, Lh89, hh89e, qh89, ⟨bh89a, bh89b, bh89c⟩, hh89n, hh89c, Xh89, Ch89⟩ | ⟨rfl, eh89, ah89, qh89, Xh89⟩, Fh89⟩
          · skip
            obtain ⟨g90t, g900, g901, g902, g903, g904, g90j, g905, g90L⟩ := id Xh89
            refine q_blk (lv2 := [(0, vr t), (1, vi 0), (2, vi 1), (3, vi i), (4, vi (kd e9))]) (st2 := [vi 43, vi (kd e9), vr t]) kX6_readSum_56 rfl ?_
            refine AQ.ic_ne (tgt := 70) eX6_readSum_62 (by decide) (by first | assumption | exact ⟨by omega, by omega⟩) ⟨by decide, by decide⟩ (fun br91 => ?_) (fun br91 => ?_)
            · skip
              refine q_blk (lv2 := [(0, vr t), (1, vi 0), (2, vi 1), (3, vi i), (4, vi (kd e9))]) (st2 := [vi (-7), vr t]) kX6_readSum_70 rfl ?_
              refine AQ.callVv (av := [vi (-7)]) (st := []) (c_X6_addCode (v := (-7)) ⟨_, g900, g901, g902, g903, g904, cj, g905, g90L⟩ (by omega) (by omega)) lk_RX6_230 (by decide) rfl rfl ⟨_, _, _, g900⟩ ⟨_, rfl, rfl⟩ (Nat.le_of_ble_eq_true rfl) eX6_readSum_72 (fun h94 e93 => ?_)
              obtain ⟨Xh94, Fh94⟩ := e93
              obtain ⟨g95t, g950, g951, g952, g953, g954, g95j, g955, g95L⟩ := id Xh94
              refine q_blk (lv2 := [(0, vr t), (1, vi 0), (2, vi 1), (3, vi (i + 1)), (4, vi (kd e9))]) (st2 := []) kX6_readSum_75 rfl ?_
              refine q_goto (tgt := 8) eX6_readSum_78 (by decide) ?_
              refine q_sub (lv2 := [(0, vr t), (1, vi 0), (2, vi 1), (3, vi (i + 1))]) [0, 1, 2, 3] rfl ?_
              exact ih71 1 (i + 1) h94 (Lh89 ++ [(3, 0)]) hh89e hh89n (am_uI hh89c (Lh89.length : Int) (-7)) (⟨⟨by omega, by omega⟩, hfr.tr (((am_fr.rf.tr (am_fr.st e79 (by omega) (by omega))).tr Fh89).tr Fh94), Or.inl ⟨rfl, ⟨by omega, by omega, by simp; omega⟩, by rw [show 800 - (i + 1).toNat = 800 - i.toNat - 1 by omega]; exact (rJ_go (o := 3) (by omega) (by omega) qh89).symm.trans hJ9, Ch89.add (by unfold gm_en; simp), SU.cast ⟨_, g950, g951, g952, g953, g954, cj, g955, g95L⟩ (by simp)⟩⟩) (by omega)
            · skip
              refine q_blk (lv2 := [(0, vr t), (1, vi 0), (2, vi 1), (3, vi i), (4, vi (kd e9))]) (st2 := [vi (-6), vr t]) kX6_readSum_65 rfl ?_
              refine q_goto (tgt := 72) eX6_readSum_67 (by decide) ?_
              refine AQ.callVv (av := [vi (-6)]) (st := []) (c_X6_addCode (v := (-6)) ⟨_, g900, g901, g902, g903, g904, cj, g905, g90L⟩ (by omega) (by omega)) lk_RX6_230 (by decide) rfl rfl ⟨_, _, _, g900⟩ ⟨_, rfl, rfl⟩ (Nat.le_of_ble_eq_true rfl) eX6_readSum_72 (fun h98 e97 => ?_)
              obtain ⟨Xh98, Fh98⟩ := e97
              obtain ⟨g99t, g990, g991, g992, g993, g994, g99j, g995, g99L⟩ := id Xh98
              refine q_blk (lv2 := [(0, vr t), (1, vi 0), (2, vi 1), (3, vi (i + 1)), (4, vi (kd e9))]) (st2 := []) kX6_readSum_75 rfl ?_
              refine q_goto (tgt := 8) eX6_readSum_78 (by decide) ?_
              refine q_sub (lv2 := [(0, vr t), (1, vi 0), (2, vi 1), (3, vi (i + 1))]) [0, 1, 2, 3] rfl ?_
              exact ih71 1 (i + 1) h98 (Lh89 ++ [(2, 0)]) hh89e hh89n (am_uI hh89c (Lh89.length : Int) (-6)) (⟨⟨by omega, by omega⟩, hfr.tr (((am_fr.rf.tr (am_fr.st e79 (by omega) (by omega))).tr Fh89).tr Fh98), Or.inl ⟨rfl, ⟨by omega, by omega, by simp; omega⟩, by rw [show 800 - (i + 1).toNat = 800 - i.toNat - 1 by omega]; exact (rJ_go (o := 2) (by omega) (by omega) qh89).symm.trans hJ9, Ch89.add (by unfold gm_en; simp), SU.cast ⟨_, g990, g991, g992, g993, g994, cj, g995, g99L⟩ (by simp)⟩⟩) (by omega)
          · skip
            refine q_blk (lv2 := [(0, vr t), (1, vi 0), (2, vi 0), (3, vi i), (4, vi (kd e9))]) (st2 := [vi 43, vi (kd e9), vr t]) kX6_readSum_56 rfl ?_
            refine AQ.ic_ne (tgt := 70) eX6_readSum_62 (by decide) (by first | assumption | exact ⟨by omega, by omega⟩) ⟨by decide, by decide⟩ (fun br100 => ?_) (fun br100 => ?_)
            · skip
              refine q_blk (lv2 := [(0, vr t), (1, vi 0), (2, vi 0), (3, vi i), (4, vi (kd e9))]) (st2 := [vi (-7), vr t]) kX6_readSum_70 rfl ?_
              refine AQ.callVv (av := [vi (-7)]) (st := []) (c_X6_addCodeF Xh89 (v := (-7))) lk_RX6_230 (by decide) rfl rfl (SF.ob Xh89) ⟨_, rfl, rfl⟩ (Nat.le_of_ble_eq_true rfl) eX6_readSum_72 (fun h103 e102 => ?_)
              obtain ⟨Xh103, Fh103⟩ := e102
              refine q_blk (lv2 := [(0, vr t), (1, vi 0), (2, vi 0), (3, vi (i + 1)), (4, vi (kd e9))]) (st2 := []) kX6_readSum_75 rfl ?_
              refine q_goto (tgt := 8) eX6_readSum_78 (by decide) ?_
              refine q_sub (lv2 := [(0, vr t), (1, vi 0), (2, vi 0), (3, vi (i + 1))]) [0, 1, 2, 3] rfl ?_
              exact ih71 0 (i + 1) h103 L 0 0 cd (⟨⟨by omega, by omega⟩, hfr.tr (((am_fr.rf.tr (am_fr.st e79 (by omega) (by omega))).tr Fh89).tr Fh103), Or.inr ⟨rfl, _, _, hJ9.symm.trans (rJ_no (by omega) (by omega) qh89), Xh103⟩⟩) (by omega)
            · skip
              refine q_blk (lv2 := [(0, vr t), (1, vi 0), (2, vi 0), (3, vi i), (4, vi (kd e9))]) (st2 := [vi (-6), vr t]) kX6_readSum_65 rfl ?_
              refine q_goto (tgt := 72) eX6_readSum_67 (by decide) ?_
              refine AQ.callVv (av := [vi (-6)]) (st := []) (c_X6_addCodeF Xh89 (v := (-6))) lk_RX6_230 (by decide) rfl rfl (SF.ob Xh89) ⟨_, rfl, rfl⟩ (Nat.le_of_ble_eq_true rfl) eX6_readSum_72 (fun h106 e105 => ?_)
              obtain ⟨Xh106, Fh106⟩ := e105
              refine q_blk (lv2 := [(0, vr t), (1, vi 0), (2, vi 0), (3, vi (i + 1)), (4, vi (kd e9))]) (st2 := []) kX6_readSum_75 rfl ?_
              refine q_goto (tgt := 8) eX6_readSum_78 (by decide) ?_
              refine q_sub (lv2 := [(0, vr t), (1, vi 0), (2, vi 0), (3, vi (i + 1))]) [0, 1, 2, 3] rfl ?_
              exact ih71 0 (i + 1) h106 L 0 0 cd (⟨⟨by omega, by omega⟩, hfr.tr (((am_fr.rf.tr (am_fr.st e79 (by omega) (by omega))).tr Fh89).tr Fh106), Or.inr ⟨rfl, _, _, hJ9.symm.trans (rJ_no (by omega) (by omega) qh89), Xh106⟩⟩) (by omega)
        · skip
          refine q_blk (lv2 := [(0, vr t), (1, vi 0), (2, vi g), (3, vi i), (4, vi (kd e9))]) (st2 := [vi 45, vi (kd e9)]) kX6_readSum_32 rfl ?_
          refine AQ.ic_eq (tgt := 41) eX6_readSum_36 (by decide) (by first | assumption | exact ⟨by omega, by omega⟩) ⟨by decide, by decide⟩ (fun br107 => ?_) (fun br107 => ?_)
          · skip
            refine q_blk (lv2 := [(0, vr t), (1, vi 0), (2, vi g), (3, vi i), (4, vi (kd e9))]) (st2 := [vr t, vr t]) kX6_readSum_41 rfl ?_
            refine q_gi eX6_readSum_43 fl_RX6_28 (Or.inl rfl) w0 (z := e9) rfl ?_
            refine q_blk (lv2 := [(0, vr t), (1, vi 0), (2, vi g), (3, vi i), (4, vi (kd e9))]) (st2 := [vi (e9 + 1), vr t]) kX6_readSum_46 rfl ?_
            refine q_pi eX6_readSum_48 fl_RX6_28 (fun q hq => by cases hq; exact Or.inl rfl) (Or.inl rfl) w0 (Nat.le_of_ble_eq_true rfl) (l2 := [0, 0, 0, 0, 0, 0, 0, wt, (e9 + 1), v9, px, (L9.length : Int), hs, er, ea]) rfl (fun h108 e109 => ?_)
            have k110 := am_at e109
            have k111 := (am_ne e109 (t + 3) (by omega)).trans w1
            have k112 := (am_ne e109 (t + 4) (by omega)).trans w2
            have k113 := (am_ne e109 (t + 5) (by omega)).trans w3
            have k114 := (am_ne e109 (t + 6) (by omega)).trans w4
            have k115 := (am_ne e109 j (by omega)).trans w5
            have k116 := wL.kept (lo := t) (hi := t + 1) (am_fr.st e109 (by omega) (by omega)) (by omega)
            refine q_blk (lv2 := [(0, vr t), (1, vi 0), (2, vi g), (3, vi i), (4, vi (kd e9))]) (st2 := [vi 0, vr t]) kX6_readSum_51 rfl ?_
            refine AQ.callVi (av := [vi 0]) (st := []) (c_X6_readTerm0 (L := L9) ⟨_, k110, k111, k112, k113, k114, cj, k115, k116⟩ n0 kn (by omega) (by omega) kr vq hL9 (by omega)) lk_RX6_227 (by decide) rfl rfl ⟨_, _, _, k110⟩ ⟨_, rfl, rfl⟩ (Nat.le_of_ble_eq_true rfl) eX6_readSum_53 (fun z117 h119 e118 => ?_)
            rcases e118 with ⟨⟨rfl, Lh119, hh119e, qh119, ⟨bh119a, bh119b, bh119c⟩, hh119n, hh119c, Xh119, Ch119⟩ | ⟨rfl, eh119, ah119, qh119, Xh119⟩, Fh119⟩
            · skip
              obtain ⟨g120t, g1200, g1201, g1202, g1203, g1204, g120j, g1205, g120L⟩ := id Xh119
              refine q_blk (lv2 := [(0, vr t), (1, vi 0), (2, vi 1), (3, vi i), (4, vi (kd e9))]) (st2 := [vi 43, vi (kd e9), vr t]) kX6_readSum_56 rfl ?_
              refine AQ.ic_ne (tgt := 70) eX6_readSum_62 (by decide) (by first | assumption | exact ⟨by omega, by omega⟩) ⟨by decide, by decide⟩ (fun br121 => ?_) (fun br121 => ?_)
              · skip
                refine q_blk (lv2 := [(0, vr t), (1, vi 0), (2, vi 1), (3, vi i), (4, vi (kd e9))]) (st2 := [vi (-7), vr t]) kX6_readSum_70 rfl ?_
                refine AQ.callVv (av := [vi (-7)]) (st := []) (c_X6_addCode (v := (-7)) ⟨_, g1200, g1201, g1202, g1203, g1204, cj, g1205, g120L⟩ (by omega) (by omega)) lk_RX6_230 (by decide) rfl rfl ⟨_, _, _, g1200⟩ ⟨_, rfl, rfl⟩ (Nat.le_of_ble_eq_true rfl) eX6_readSum_72 (fun h124 e123 => ?_)
                obtain ⟨Xh124, Fh124⟩ := e123
                obtain ⟨g125t, g1250, g1251, g1252, g1253, g1254, g125j, g1255, g125L⟩ := id Xh124
                refine q_blk (lv2 := [(0, vr t), (1, vi 0), (2, vi 1), (3, vi (i + 1)), (4, vi (kd e9))]) (st2 := []) kX6_readSum_75 rfl ?_
                refine q_goto (tgt := 8) eX6_readSum_78 (by decide) ?_
                refine q_sub (lv2 := [(0, vr t), (1, vi 0), (2, vi 1), (3, vi (i + 1))]) [0, 1, 2, 3] rfl ?_
                exact ih71 1 (i + 1) h124 (Lh119 ++ [(3, 0)]) hh119e hh119n (am_uI hh119c (Lh119.length : Int) (-7)) (⟨⟨by omega, by omega⟩, hfr.tr (((am_fr.rf.tr (am_fr.st e109 (by omega) (by omega))).tr Fh119).tr Fh124), Or.inl ⟨rfl, ⟨by omega, by omega, by simp; omega⟩, by rw [show 800 - (i + 1).toNat = 800 - i.toNat - 1 by omega]; exact (rJ_go (o := 3) (by omega) (by omega) qh119).symm.trans hJ9, Ch119.add (by unfold gm_en; simp), SU.cast ⟨_, g1250, g1251, g1252, g1253, g1254, cj, g1255, g125L⟩ (by simp)⟩⟩) (by omega)
              · skip
                refine q_blk (lv2 := [(0, vr t), (1, vi 0), (2, vi 1), (3, vi i), (4, vi (kd e9))]) (st2 := [vi (-6), vr t]) kX6_readSum_65 rfl ?_
                refine q_goto (tgt := 72) eX6_readSum_67 (by decide) ?_
                refine AQ.callVv (av := [vi (-6)]) (st := []) (c_X6_addCode (v := (-6)) ⟨_, g1200, g1201, g1202, g1203, g1204, cj, g1205, g120L⟩ (by omega) (by omega)) lk_RX6_230 (by decide) rfl rfl ⟨_, _, _, g1200⟩ ⟨_, rfl, rfl⟩ (Nat.le_of_ble_eq_true rfl) eX6_readSum_72 (fun h128 e127 => ?_)
                obtain ⟨Xh128, Fh128⟩ := e127
                obtain ⟨g129t, g1290, g1291, g1292, g1293, g1294, g129j, g1295, g129L⟩ := id Xh128
                refine q_blk (lv2 := [(0, vr t), (1, vi 0), (2, vi 1), (3, vi (i + 1)), (4, vi (kd e9))]) (st2 := []) kX6_readSum_75 rfl ?_
                refine q_goto (tgt := 8) eX6_readSum_78 (by decide) ?_
                refine q_sub (lv2 := [(0, vr t), (1, vi 0), (2, vi 1), (3, vi (i + 1))]) [0, 1, 2, 3] rfl ?_
                exact ih71 1 (i + 1) h128 (Lh119 ++ [(2, 0)]) hh119e hh119n (am_uI hh119c (Lh119.length : Int) (-6)) (⟨⟨by omega, by omega⟩, hfr.tr (((am_fr.rf.tr (am_fr.st e109 (by omega) (by omega))).tr Fh119).tr Fh128), Or.inl ⟨rfl, ⟨by omega, by omega, by simp; omega⟩, by rw [show 800 - (i + 1).toNat = 800 - i.toNat - 1 by omega]; exact (rJ_go (o := 2) (by omega) (by omega) qh119).symm.trans hJ9, Ch119.add (by unfold gm_en; simp), SU.cast ⟨_, g1290, g1291, g1292, g1293, g1294, cj, g1295, g129L⟩ (by simp)⟩⟩) (by omega)
            · skip
              refine q_blk (lv2 := [(0, vr t), (1, vi 0), (2, vi 0), (3, vi i), (4, vi (kd e9))]) (st2 := [vi 43, vi (kd e9), vr t]) kX6_readSum_56 rfl ?_
              refine AQ.ic_ne (tgt := 70) eX6_readSum_62 (by decide) (by first | assumption | exact ⟨by omega, by omega⟩) ⟨by decide, by decide⟩ (fun br130 => ?_) (fun br130 => ?_)
              · skip
                refine q_blk (lv2 := [(0, vr t), (1, vi 0), (2, vi 0), (3, vi i), (4, vi (kd e9))]) (st2 := [vi (-7), vr t]) kX6_readSum_70 rfl ?_
                refine AQ.callVv (av := [vi (-7)]) (st := []) (c_X6_addCodeF Xh119 (v := (-7))) lk_RX6_230 (by decide) rfl rfl (SF.ob Xh119) ⟨_, rfl, rfl⟩ (Nat.le_of_ble_eq_true rfl) eX6_readSum_72 (fun h133 e132 => ?_)
                obtain ⟨Xh133, Fh133⟩ := e132
                refine q_blk (lv2 := [(0, vr t), (1, vi 0), (2, vi 0), (3, vi (i + 1)), (4, vi (kd e9))]) (st2 := []) kX6_readSum_75 rfl ?_
                refine q_goto (tgt := 8) eX6_readSum_78 (by decide) ?_
                refine q_sub (lv2 := [(0, vr t), (1, vi 0), (2, vi 0), (3, vi (i + 1))]) [0, 1, 2, 3] rfl ?_
                exact ih71 0 (i + 1) h133 L 0 0 cd (⟨⟨by omega, by omega⟩, hfr.tr (((am_fr.rf.tr (am_fr.st e109 (by omega) (by omega))).tr Fh119).tr Fh133), Or.inr ⟨rfl, _, _, hJ9.symm.trans (rJ_no (by omega) (by omega) qh119), Xh133⟩⟩) (by omega)
              · skip
                refine q_blk (lv2 := [(0, vr t), (1, vi 0), (2, vi 0), (3, vi i), (4, vi (kd e9))]) (st2 := [vi (-6), vr t]) kX6_readSum_65 rfl ?_
                refine q_goto (tgt := 72) eX6_readSum_67 (by decide) ?_
                refine AQ.callVv (av := [vi (-6)]) (st := []) (c_X6_addCodeF Xh119 (v := (-6))) lk_RX6_230 (by decide) rfl rfl (SF.ob Xh119) ⟨_, rfl, rfl⟩ (Nat.le_of_ble_eq_true rfl) eX6_readSum_72 (fun h136 e135 => ?_)
                obtain ⟨Xh136, Fh136⟩ := e135
                refine q_blk (lv2 := [(0, vr t), (1, vi 0), (2, vi 0), (3, vi (i + 1)), (4, vi (kd e9))]) (st2 := []) kX6_readSum_75 rfl ?_
                refine q_goto (tgt := 8) eX6_readSum_78 (by decide) ?_
                refine q_sub (lv2 := [(0, vr t), (1, vi 0), (2, vi 0), (3, vi (i + 1))]) [0, 1, 2, 3] rfl ?_
                exact ih71 0 (i + 1) h136 L 0 0 cd (⟨⟨by omega, by omega⟩, hfr.tr (((am_fr.rf.tr (am_fr.st e109 (by omega) (by omega))).tr Fh119).tr Fh136), Or.inr ⟨rfl, _, _, hJ9.symm.trans (rJ_no (by omega) (by omega) qh119), Xh136⟩⟩) (by omega)
          · skip
            refine q_blk (lv2 := [(0, vr t), (1, vi 0), (2, vi g), (3, vi i), (4, vi (kd e9))]) (st2 := [vi 1]) kX6_readSum_39 rfl ?_
            exact q_rz rfl eX6_readSum_40 (by decide) ⟨1, rfl, Or.inl ⟨rfl, L9, e9, hJ9.symm.trans (rJ_end (Or.inr ⟨by omega, by omega⟩)), ⟨by omega, by omega, by omega⟩, _, _, ⟨_, w0, w1, w2, w3, w4, cj, w5, wL⟩, hL9⟩, hfr.tr am_fr.rf⟩
