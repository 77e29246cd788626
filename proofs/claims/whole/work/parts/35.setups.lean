/-! CornerClaims$Setup: the score. -/
abbrev GL : Type := List (Int × Int)
abbrev GRL : Type := (Int × Int) ⊕ (GL × Int)
/-- a factor, where a sum within brackets is read by s, or may not be -/
def rA (kd st vl : Int → Int) (s : Option (GL → Int → GRL)) (L : GL) (he : Int) : GRL := if kd he = 40 then (match s with | none => .inl (-6, st he) | some s => rB (s L (he + 1)) fun r => rB (rT kd st 41 r.2) fun _ => .inr (r.1, r.2 + 1)) else if kd he < 0 then .inr (L ++ [(1, -1 - kd he)], he + 1) else if kd he = 2 then (if vl he ≤ 9999 then .inr (L ++ [(0, vl he)], he + 1) else .inl (-3, st he)) else .inl (-2, st he)
/-- more of them, joined by signs -/
def rJ (kd : Int → Int) (f : GL → Int → GRL) (a b oa ob : Int) : Nat → GL → Int → GRL
  | 0, L, he => .inr (L, he)
  | n + 1, L, he => if kd he = a then rB (f L (he + 1)) (fun r => rJ kd f a b oa ob n (r.1 ++ [(oa, 0)]) r.2) else if kd he = b then rB (f L (he + 1)) (fun r => rJ kd f a b oa ob n (r.1 ++ [(ob, 0)]) r.2) else .inr (L, he)
def rM (kd st vl : Int → Int) (s : Option (GL → Int → GRL)) (L : GL) (he : Int) : GRL := rB (rA kd st vl s L he) fun r => rJ kd (rA kd st vl s) 42 47 4 5 800 r.1 r.2
/-- a sum, with so many brackets within one another -/
def rU (kd st vl : Int → Int) : Nat → GL → Int → GRL
  | 0, L, he => rB (rM kd st vl none L he) fun r => rJ kd (rM kd st vl none) 43 45 2 3 800 r.1 r.2
  | m + 1, L, he => rB (rM kd st vl (some (rU kd st vl m)) L he) fun r => rJ kd (rM kd st vl (some (rU kd st vl m))) 43 45 2 3 800 r.1 r.2
theorem rU_0 {kd st vl : Int → Int} {L : GL} {he : Int} : rU kd st vl 0 L he = rB (rM kd st vl none L he) fun r => rJ kd (rM kd st vl none) 43 45 2 3 800 r.1 r.2 := rfl
theorem rU_1 {kd st vl : Int → Int} {L : GL} {he : Int} : rU kd st vl 1 L he = rB (rM kd st vl (some (rU kd st vl 0)) L he) fun r => rJ kd (rM kd st vl (some (rU kd st vl 0))) 43 45 2 3 800 r.1 r.2 := rfl
theorem rU_2 {kd st vl : Int → Int} {L : GL} {he : Int} : rU kd st vl 2 L he = rB (rM kd st vl (some (rU kd st vl 1)) L he) fun r => rJ kd (rM kd st vl (some (rU kd st vl 1))) 43 45 2 3 800 r.1 r.2 := rfl
theorem rU_3 {kd st vl : Int → Int} {L : GL} {he : Int} : rU kd st vl 3 L he = rB (rM kd st vl (some (rU kd st vl 2)) L he) fun r => rJ kd (rM kd st vl (some (rU kd st vl 2))) 43 45 2 3 800 r.1 r.2 := rfl
theorem rU_4 {kd st vl : Int → Int} {L : GL} {he : Int} : rU kd st vl 4 L he = rB (rM kd st vl (some (rU kd st vl 3)) L he) fun r => rJ kd (rM kd st vl (some (rU kd st vl 3))) 43 45 2 3 800 r.1 r.2 := rfl
theorem SU.cast {h : AH} {t u b j : Nat} {kd st vl : Int → Int} {he nu px cl cl' hs er ea : Int} {cd : Int → Int} (hS : SU h t u b j kd st vl he nu px cl hs er ea cd) (e : cl = cl') : SU h t u b j kd st vl he nu px cl' hs er ea cd := e ▸ hS
/-- the code so far -/
def CL (cd : Int → Int) (L : GL) : Prop := ∀ (k : Nat) (o : Int × Int), L[k]? = some o → cd k = gm_en o
theorem CL.add {cd : Int → Int} {L : GL} {o : Int × Int} {v : Int} (h : CL cd L) (e : v = gm_en o) : CL (am_uI cd (L.length : Int) v) (L ++ [o]) := by
  intro k q hq
  by_cases c : k = L.length
  · subst c
    rw [List.getElem?_append_right (Nat.le_refl _), Nat.sub_self] at hq
    have : o = q := by simpa using hq
    subst this
    rw [am_uI_at, e]
  · have hk : k < L.length := by
      have := (List.getElem?_eq_some_iff.mp hq).1
      simp at this
      omega
    rw [List.getElem?_append_left hk] at hq
    rw [am_uI_ne _ _ (by omega)]
    exact h k q hq
theorem rJ_end {kd : Int → Int} {f : GL → Int → GRL} {a b oa ob : Int} {m : Nat} {L : GL} {he : Int} (h : m = 0 ∨ (kd he ≠ a ∧ kd he ≠ b)) : rJ kd f a b oa ob m L he = .inr (L, he) := by
  cases m with
  | zero => rfl
  | succ m => exact (if_neg (by omega)).trans (if_neg (by omega))
theorem rJ_go {kd : Int → Int} {f : GL → Int → GRL} {a b oa ob o : Int} {m : Nat} {L L2 : GL} {he he2 : Int} (hm : 0 < m) (h : (kd he = a ∧ o = oa) ∨ (kd he ≠ a ∧ kd he = b ∧ o = ob)) (hf : f L (he + 1) = .inr (L2, he2)) : rJ kd f a b oa ob m L he = rJ kd f a b oa ob (m - 1) (L2 ++ [(o, 0)]) he2 := by
  cases m with
  | zero => omega
  | succ m =>
    rcases h with ⟨h, rfl⟩ | ⟨h, h2, rfl⟩
    · exact (if_pos h).trans (rB_r hf _)
    · exact (if_neg h).trans ((if_pos h2).trans (rB_r hf _))
theorem rJ_no {kd : Int → Int} {f : GL → Int → GRL} {a b oa ob : Int} {m : Nat} {L : GL} {he : Int} {e : Int × Int} (hm : 0 < m) (h : kd he = a ∨ kd he = b) (hf : f L (he + 1) = .inl e) : rJ kd f a b oa ob m L he = .inl e := by
  cases m with
  | zero => omega
  | succ m =>
    by_cases c : kd he = a
    · exact (if_pos c).trans (rB_l hf _)
    · exact (if_neg c).trans ((if_pos (by omega)).trans (rB_l hf _))

set_option maxHeartbeats 1000000 in
theorem c_X6_addCode {w : am_w} {h : AH} {t u b j : Nat} {kd st vl : Int → Int} {he nu px cl hs er ea : Int} {cd : Int → Int} (hS : SU h t u b j kd st vl he nu px cl hs er ea cd) (cl0 : 0 ≤ cl) (cl1 : cl < 800) {v : Int} : AE w m_X6_addCode 1 [vr t, vi v] h (am_unit (fun h1 => SU h1 t u b j kd st vl he nu px (cl + 1) hs er ea (am_uI cd cl v) ∧ am_fr h h1 t (t + 5))) := by
  refine AE.of wf_X6_addCode (Nat.le_of_ble_eq_true rfl) (am_ok_v) ?_
  obtain ⟨tc, c0, c1, c2, c3, c4⟩ := id hS
  refine q_blk (lv2 := [(0, vr t), (1, vi v)]) (st2 := [vr t]) kX6_addCode_0 rfl ?_
  refine q_gi eX6_addCode_1 fl_RX6_37 (Or.inl rfl) c0 (z := cl) rfl ?_
  refine AQ.of (AS.if_lt_f eX6_addCode_4 (by first | assumption | exact ⟨by omega, by omega⟩) (by omega) (by decide)) ?_
  refine q_blk (lv2 := [(0, vr t), (1, vi v)]) (st2 := [vr t]) kX6_addCode_7 rfl ?_
  refine q_gi eX6_addCode_8 fl_RX6_37 (Or.inl rfl) c0 (z := cl) rfl ?_
  refine q_blk (lv2 := [(0, vr t), (1, vi v)]) (st2 := [vr t, vi cl]) kX6_addCode_11 rfl ?_
  refine q_gr eX6_addCode_12 fl_RX6_21 (Or.inr ⟨_, rfl⟩) c0 rfl ?_
  refine q_al eX6_addCode_15 c4 (by decide) ?_
  refine AQ.of (AS.ic_ge_f eX6_addCode_16 (by first | assumption | exact ⟨by omega, by omega⟩) ⟨by decide, by decide⟩ (by omega) (by decide)) ?_
  refine q_blk (lv2 := [(0, vr t), (1, vi v)]) (st2 := [vr t]) kX6_addCode_19 rfl ?_
  refine q_gr eX6_addCode_20 fl_RX6_21 (Or.inr ⟨_, rfl⟩) c0 rfl ?_
  refine q_blk (lv2 := [(0, vr t), (1, vi v)]) (st2 := [vr t, vr (t + 4)]) kX6_addCode_23 rfl ?_
  refine q_gi eX6_addCode_24 fl_RX6_37 (Or.inl rfl) c0 (z := cl) rfl ?_
  refine q_blk (lv2 := [(0, vr t), (1, vi v)]) (st2 := [vi v, vi cl, vr (t + 4)]) kX6_addCode_27 rfl ?_
  refine q_is eX6_addCode_28 c4 (by omega) (by omega) (fun h1 e2 => ?_)
  have k3 := (am_ne e2 t (by omega)).trans c0
  have k4 := (am_ne e2 (t + 1) (by omega)).trans c1
  have k5 := (am_ne e2 (t + 2) (by omega)).trans c2
  have k6 := (am_ne e2 (t + 3) (by omega)).trans c3
  have k7 := am_at e2
  refine q_blk (lv2 := [(0, vr t), (1, vi v)]) (st2 := [vr t, vr t]) kX6_addCode_29 rfl ?_
  refine q_gi eX6_addCode_31 fl_RX6_37 (Or.inl rfl) k3 (z := cl) rfl ?_
  refine q_blk (lv2 := [(0, vr t), (1, vi v)]) (st2 := [vi (cl + 1), vr t]) kX6_addCode_34 rfl ?_
  refine q_pi eX6_addCode_36 fl_RX6_37 (fun q hq => by cases hq; exact Or.inl rfl) (Or.inl rfl) k3 (Nat.le_of_ble_eq_true rfl) (l2 := [0, 0, 0, 0, 0, 0, 0, tc, he, nu, px, (cl + 1), hs, er, ea]) rfl (fun h8 e9 => ?_)
  have k10 := am_at e9
  have k11 := (am_ne e9 (t + 1) (by omega)).trans k4
  have k12 := (am_ne e9 (t + 2) (by omega)).trans k5
  have k13 := (am_ne e9 (t + 3) (by omega)).trans k6
  have k14 := (am_ne e9 (t + 4) (by omega)).trans k7
  exact q_rv rfl eX6_addCode_39 ⟨rfl, ⟨_, k10, k11, k12, k13, k14⟩, (am_fr.rf.tr ((am_fr.st e2 (by omega) (by omega)).tr (am_fr.st e9 (by omega) (by omega))))⟩

set_option maxHeartbeats 1000000 in
theorem c_X6_addCodeF {w : am_w} {h : AH} {t u b j : Nat} {kd st vl : Int → Int} {e a : Int} (hF : SF h t u b j kd st vl e a) {v : Int} : AE w m_X6_addCode 1 [vr t, vi v] h (am_unit (fun h1 => SF h1 t u b j kd st vl e a ∧ am_fr h h1 t (t + 5))) := by
  refine AE.of wf_X6_addCode (Nat.le_of_ble_eq_true rfl) (am_ok_v) ?_
  obtain ⟨he, nu, px, cl, hs, cd, hS, cl0, cl1⟩ := id hF
  obtain ⟨tc, c0, c1, c2, c3, c4⟩ := id hS
  refine q_blk (lv2 := [(0, vr t), (1, vi v)]) (st2 := [vr t]) kX6_addCode_0 rfl ?_
  refine q_gi eX6_addCode_1 fl_RX6_37 (Or.inl rfl) c0 (z := cl) rfl ?_
  refine AQ.if_lt (tgt := 39) eX6_addCode_4 (by decide) (by first | assumption | exact ⟨by omega, by omega⟩) (fun br1 => ?_) (fun br1 => ?_)
  · skip
    exact q_rv rfl eX6_addCode_39 ⟨rfl, ⟨_, _, _, _, _, _, ⟨_, c0, c1, c2, c3, c4⟩, by omega, by omega⟩, am_fr.rf⟩
  · skip
    refine q_blk (lv2 := [(0, vr t), (1, vi v)]) (st2 := [vr t]) kX6_addCode_7 rfl ?_
    refine q_gi eX6_addCode_8 fl_RX6_37 (Or.inl rfl) c0 (z := cl) rfl ?_
    refine q_blk (lv2 := [(0, vr t), (1, vi v)]) (st2 := [vr t, vi cl]) kX6_addCode_11 rfl ?_
    refine q_gr eX6_addCode_12 fl_RX6_21 (Or.inr ⟨_, rfl⟩) c0 rfl ?_
    refine q_al eX6_addCode_15 c4 (by decide) ?_
    refine AQ.ic_ge (tgt := 39) eX6_addCode_16 (by decide) (by first | assumption | exact ⟨by omega, by omega⟩) ⟨by decide, by decide⟩ (fun br2 => ?_) (fun br2 => ?_)
    · skip
      exact q_rv rfl eX6_addCode_39 ⟨rfl, ⟨_, _, _, _, _, _, ⟨_, c0, c1, c2, c3, c4⟩, by omega, by omega⟩, am_fr.rf⟩
    · skip
      refine q_blk (lv2 := [(0, vr t), (1, vi v)]) (st2 := [vr t]) kX6_addCode_19 rfl ?_
      refine q_gr eX6_addCode_20 fl_RX6_21 (Or.inr ⟨_, rfl⟩) c0 rfl ?_
      refine q_blk (lv2 := [(0, vr t), (1, vi v)]) (st2 := [vr t, vr (t + 4)]) kX6_addCode_23 rfl ?_
      refine q_gi eX6_addCode_24 fl_RX6_37 (Or.inl rfl) c0 (z := cl) rfl ?_
      refine q_blk (lv2 := [(0, vr t), (1, vi v)]) (st2 := [vi v, vi cl, vr (t + 4)]) kX6_addCode_27 rfl ?_
      refine q_is eX6_addCode_28 c4 (by omega) (by omega) (fun h3 e4 => ?_)
      have k5 := (am_ne e4 t (by omega)).trans c0
      have k6 := (am_ne e4 (t + 1) (by omega)).trans c1
      have k7 := (am_ne e4 (t + 2) (by omega)).trans c2
      have k8 := (am_ne e4 (t + 3) (by omega)).trans c3
      have k9 := am_at e4
      refine q_blk (lv2 := [(0, vr t), (1, vi v)]) (st2 := [vr t, vr t]) kX6_addCode_29 rfl ?_
      refine q_gi eX6_addCode_31 fl_RX6_37 (Or.inl rfl) k5 (z := cl) rfl ?_
      refine q_blk (lv2 := [(0, vr t), (1, vi v)]) (st2 := [vi (cl + 1), vr t]) kX6_addCode_34 rfl ?_
      refine q_pi eX6_addCode_36 fl_RX6_37 (fun q hq => by cases hq; exact Or.inl rfl) (Or.inl rfl) k5 (Nat.le_of_ble_eq_true rfl) (l2 := [0, 0, 0, 0, 0, 0, 0, tc, he, nu, px, (cl + 1), hs, e, a]) rfl (fun h10 e11 => ?_)
      have k12 := am_at e11
      have k13 := (am_ne e11 (t + 1) (by omega)).trans k6
      have k14 := (am_ne e11 (t + 2) (by omega)).trans k7
      have k15 := (am_ne e11 (t + 3) (by omega)).trans k8
      have k16 := (am_ne e11 (t + 4) (by omega)).trans k9
      exact q_rv rfl eX6_addCode_39 ⟨rfl, ⟨_, _, _, _, _, _, ⟨_, k12, k13, k14, k15, k16⟩, by omega, by omega⟩, (am_fr.rf.tr ((am_fr.st e4 (by omega) (by omega)).tr (am_fr.st e11 (by omega) (by omega))))⟩

theorem SF.ob {h : AH} {t u b j : Nat} {kd st vl : Int → Int} {e a : Int} (hF : SF h t u b j kd st vl e a) : am_ob h t 5 := by
  obtain ⟨he, nu, px, cl, hs, cd, hS, -⟩ := hF
  exact hS.ob

theorem am_lp7 {A B C E F J K : Type} {I : A → B → C → E → F → J → K → Prop} {G : A → B → C → E → F → J → K → Prop} (μ : A → B → C → E → F → J → K → Nat) (hs : ∀ a b c e f j k, I a b c e f j k → (∀ a' b' c' e' f' j' k', I a' b' c' e' f' j' k' → μ a' b' c' e' f' j' k' < μ a b c e f j k → G a' b' c' e' f' j' k') → G a b c e f j k) (a : A) (b : B) (c : C) (e : E) (f : F) (j : J) (k : K) (h : I a b c e f j k) : G a b c e f j k :=
  am_lp1 (I := fun q : A × B × C × E × F × J × K => I q.1 q.2.1 q.2.2.1 q.2.2.2.1 q.2.2.2.2.1 q.2.2.2.2.2.1 q.2.2.2.2.2.2) (G := fun q : A × B × C × E × F × J × K => G q.1 q.2.1 q.2.2.1 q.2.2.2.1 q.2.2.2.2.1 q.2.2.2.2.2.1 q.2.2.2.2.2.2) (fun q => μ q.1 q.2.1 q.2.2.1 q.2.2.2.1 q.2.2.2.2.1 q.2.2.2.2.2.1 q.2.2.2.2.2.2) (fun q hI kk => hs q.1 q.2.1 q.2.2.1 q.2.2.2.1 q.2.2.2.2.1 q.2.2.2.2.2.1 q.2.2.2.2.2.2 hI fun a' b' c' e' f' j' k' => kk (a', b', c', e', f', j', k')) (a, b, c, e, f, j, k) h

set_option maxHeartbeats 1000000 in
theorem c_X6_readFactor4 {w : am_w} {h : AH} {L : GL} {t u b j : Nat} {kd st vl : Int → Int} {he nu px hs er ea : Int} {cd : Int → Int} (hS : SU h t u b j kd st vl he nu px (L.length : Int) hs er ea cd) {n : Int} (n0 : n ≤ 800) (kn : kd n = 0) (he0 : 0 ≤ he) (he1 : he ≤ n) (kr : ∀ i, 0 ≤ i → i < 801 → -5 ≤ kd i ∧ kd i ≤ 100) (vq : ∀ i, 0 ≤ i → i < 801 → 0 ≤ vl i ∧ vl i ≤ 10000) (hL : CL cd L) (hl : (L.length : Int) ≤ he)  : AE w m_X6_readFactor 4 [vr t, vi 4] h (am_int (fun z h1 => ((z = 1 ∧ ∃ L' he', rA kd st vl none L he = .inr (L', he') ∧ (he < he' ∧ he' ≤ n ∧ (L'.length : Int) ≤ (L.length : Int) + (he' - he)) ∧ ∃ nu' cd', SU h1 t u b j kd st vl he' nu' px (L'.length : Int) hs er ea cd' ∧ CL cd' L') ∨ (z = 0 ∧ ∃ e a, rA kd st vl none L he = .inl (e, a) ∧ SF h1 t u b j kd st vl e a)) ∧ am_fr h h1 t (t + 5))) := by
  refine AE.of wf_X6_readFactor (Nat.le_of_ble_eq_true rfl) (am_ok_z (fun z h1 q => by rcases q.1 with q | q; exact Or.inr q.1; exact Or.inl q.1)) ?_
  obtain ⟨tc, c0, c1, c2, c3, c4⟩ := id hS
  have kr1 := kr he he0 (by omega)
  have vr1 := vq he he0 (by omega)
  have hen : kd he ≠ 0 → he ≠ n := fun q e9 => by rw [e9] at q; omega
  refine q_blk (lv2 := [(0, vr t), (1, vi 4)]) (st2 := [vr t]) kX6_readFactor_0 rfl ?_
  refine q_Vi (av := []) (st := []) (c_X6_kindHere ⟨_, c0, c1, c2, c3, c4⟩ (by omega) (by omega)) lk_RX6_70 (by decide) rfl rfl ⟨_, _, _, c0⟩ ⟨_, rfl, rfl⟩ (Nat.le_of_ble_eq_true rfl) eX6_readFactor_1 (fun z1 e2 => ?_)
  subst e2
  refine q_blk (lv2 := [(0, vr t), (1, vi 4), (2, vi (kd he))]) (st2 := [vi 40, vi (kd he)]) kX6_readFactor_4 rfl ?_
  refine AQ.ic_ne (tgt := 58) eX6_readFactor_8 (by decide) (by first | assumption | exact ⟨by omega, by omega⟩) ⟨by decide, by decide⟩ (fun br3 => ?_) (fun br3 => ?_)
  · skip
    refine q_blk (lv2 := [(0, vr t), (1, vi 4), (2, vi (kd he))]) (st2 := [vi (kd he)]) kX6_readFactor_58 rfl ?_
    refine AQ.if_ge (tgt := 79) eX6_readFactor_59 (by decide) (by first | assumption | exact ⟨by omega, by omega⟩) (fun br4 => ?_) (fun br4 => ?_)
    · skip
      refine q_blk (lv2 := [(0, vr t), (1, vi 4), (2, vi (kd he))]) (st2 := [vi 2, vi (kd he)]) kX6_readFactor_79 rfl ?_
      refine AQ.ic_eq (tgt := 91) eX6_readFactor_81 (by decide) (by first | assumption | exact ⟨by omega, by omega⟩) ⟨by decide, by decide⟩ (fun br5 => ?_) (fun br5 => ?_)
      · skip
        refine q_blk (lv2 := [(0, vr t), (1, vi 4), (2, vi (kd he))]) (st2 := [vr t, vr t]) kX6_readFactor_91 rfl ?_
        refine q_Vi (av := []) (st := [vr t]) (c_X6_valueHere ⟨_, c0, c1, c2, c3, c4⟩ (by omega) (by omega)) lk_RX6_148 (by decide) rfl rfl ⟨_, _, _, c0⟩ ⟨_, rfl, rfl⟩ (Nat.le_of_ble_eq_true rfl) eX6_readFactor_93 (fun z6 e7 => ?_)
        subst e7
        refine q_pi eX6_readFactor_96 fl_RX6_31 (fun q hq => by cases hq; exact Or.inl rfl) (Or.inl rfl) c0 (Nat.le_of_ble_eq_true rfl) (l2 := [0, 0, 0, 0, 0, 0, 0, tc, he, (vl he), px, (L.length : Int), hs, er, ea]) rfl (fun h8 e9 => ?_)
        have k10 := am_at e9
        have k11 := (am_ne e9 (t + 1) (by omega)).trans c1
        have k12 := (am_ne e9 (t + 2) (by omega)).trans c2
        have k13 := (am_ne e9 (t + 3) (by omega)).trans c3
        have k14 := (am_ne e9 (t + 4) (by omega)).trans c4
        refine q_blk (lv2 := [(0, vr t), (1, vi 4), (2, vi (kd he))]) (st2 := [vr t]) kX6_readFactor_99 rfl ?_
        refine q_gi eX6_readFactor_100 fl_RX6_31 (Or.inl rfl) k10 (z := (vl he)) rfl ?_
        refine q_blk (lv2 := [(0, vr t), (1, vi 4), (2, vi (kd he))]) (st2 := [vi 9999, vi (vl he)]) kX6_readFactor_103 rfl ?_
        refine AQ.ic_le (tgt := 116) eX6_readFactor_106 (by decide) (by first | assumption | exact ⟨by omega, by omega⟩) ⟨by decide, by decide⟩ (fun br15 => ?_) (fun br15 => ?_)
        · skip
          refine q_blk (lv2 := [(0, vr t), (1, vi 4), (2, vi (kd he))]) (st2 := [vr t, vr t]) kX6_readFactor_116 rfl ?_
          refine q_gi eX6_readFactor_118 fl_RX6_28 (Or.inl rfl) k10 (z := he) rfl ?_
          refine q_blk (lv2 := [(0, vr t), (1, vi 4), (2, vi (kd he))]) (st2 := [vi (he + 1), vr t]) kX6_readFactor_121 rfl ?_
          refine q_pi eX6_readFactor_123 fl_RX6_28 (fun q hq => by cases hq; exact Or.inl rfl) (Or.inl rfl) k10 (Nat.le_of_ble_eq_true rfl) (l2 := [0, 0, 0, 0, 0, 0, 0, tc, (he + 1), (vl he), px, (L.length : Int), hs, er, ea]) rfl (fun h16 e17 => ?_)
          have k18 := am_at e17
          have k19 := (am_ne e17 (t + 1) (by omega)).trans k11
          have k20 := (am_ne e17 (t + 2) (by omega)).trans k12
          have k21 := (am_ne e17 (t + 3) (by omega)).trans k13
          have k22 := (am_ne e17 (t + 4) (by omega)).trans k14
          refine q_blk (lv2 := [(0, vr t), (1, vi 4), (2, vi (kd he))]) (st2 := [vr t, vr t]) kX6_readFactor_126 rfl ?_
          refine q_gi eX6_readFactor_128 fl_RX6_31 (Or.inl rfl) k18 (z := (vl he)) rfl ?_
          refine AQ.callVv (av := [vi (vl he)]) (st := []) (c_X6_addCode (v := (vl he)) ⟨_, k18, k19, k20, k21, k22⟩ (by omega) (by omega)) lk_RX6_230 (by decide) rfl rfl ⟨_, _, _, k18⟩ ⟨_, rfl, rfl⟩ (Nat.le_of_ble_eq_true rfl) eX6_readFactor_131 (fun h25 e24 => ?_)
          obtain ⟨Xh25, Fh25⟩ := e24
          obtain ⟨g26t, g260, g261, g262, g263, g264⟩ := id Xh25
          refine q_blk (lv2 := [(0, vr t), (1, vi 4), (2, vi (kd he))]) (st2 := [vi 1]) kX6_readFactor_134 rfl ?_
          exact q_rz rfl eX6_readFactor_135 (by decide) ⟨1, rfl, Or.inl ⟨rfl, L ++ [(0, vl he)], he + 1, by unfold rA; rw [if_neg (by omega), if_neg (by omega), if_pos (by omega), if_pos (by omega)], ⟨by omega, by omega, by simp; omega⟩, (vl he), (am_uI cd (L.length : Int) (vl he)), SU.cast ⟨_, g260, g261, g262, g263, g264⟩ (by simp), hL.add (by unfold gm_en; (try simp); (try omega))⟩, ((am_fr.rf.tr ((am_fr.st e9 (by omega) (by omega)).tr (am_fr.st e17 (by omega) (by omega)))).tr Fh25)⟩
        · skip
          refine q_blk (lv2 := [(0, vr t), (1, vi 4), (2, vi (kd he))]) (st2 := [vi (-3), vr t]) kX6_readFactor_109 rfl ?_
          refine AQ.callVi (av := [vi (-3)]) (st := []) (c_X6_fail (e := (-3)) ⟨_, k10, k11, k12, k13, k14⟩ (by omega) (by omega)) lk_RX6_83 (by decide) rfl rfl ⟨_, _, _, k10⟩ ⟨_, rfl, rfl⟩ (Nat.le_of_ble_eq_true rfl) eX6_readFactor_112 (fun z27 h29 e28 => ?_)
          obtain ⟨z270, Xh29, Fh29⟩ := e28
          subst z270
          obtain ⟨g30t, g300, g301, g302, g303, g304⟩ := id Xh29
          exact q_rz rfl eX6_readFactor_115 (by decide) ⟨0, rfl, Or.inr ⟨rfl, _, _, by unfold rA; rw [if_neg (by omega), if_neg (by omega), if_pos (by omega), if_neg (by omega)], ⟨_, _, _, _, _, _, ⟨_, g300, g301, g302, g303, g304⟩, by omega, by omega⟩⟩, ((am_fr.rf.tr (am_fr.st e9 (by omega) (by omega))).tr Fh29)⟩
      · skip
        refine q_blk (lv2 := [(0, vr t), (1, vi 4), (2, vi (kd he))]) (st2 := [vi (-2), vr t]) kX6_readFactor_84 rfl ?_
        refine AQ.callVi (av := [vi (-2)]) (st := []) (c_X6_fail (e := (-2)) ⟨_, c0, c1, c2, c3, c4⟩ (by omega) (by omega)) lk_RX6_83 (by decide) rfl rfl ⟨_, _, _, c0⟩ ⟨_, rfl, rfl⟩ (Nat.le_of_ble_eq_true rfl) eX6_readFactor_87 (fun z31 h33 e32 => ?_)
        obtain ⟨z310, Xh33, Fh33⟩ := e32
        subst z310
        obtain ⟨g34t, g340, g341, g342, g343, g344⟩ := id Xh33
        exact q_rz rfl eX6_readFactor_90 (by decide) ⟨0, rfl, Or.inr ⟨rfl, _, _, by unfold rA; rw [if_neg (by omega), if_neg (by omega), if_neg (by omega)], ⟨_, _, _, _, _, _, ⟨_, g340, g341, g342, g343, g344⟩, by omega, by omega⟩⟩, (am_fr.rf.tr Fh33)⟩
    · skip
      refine q_blk (lv2 := [(0, vr t), (1, vi 4), (2, vi (kd he))]) (st2 := [vr t, vr t]) kX6_readFactor_62 rfl ?_
      refine q_gi eX6_readFactor_64 fl_RX6_28 (Or.inl rfl) c0 (z := he) rfl ?_
      refine q_blk (lv2 := [(0, vr t), (1, vi 4), (2, vi (kd he))]) (st2 := [vi (he + 1), vr t]) kX6_readFactor_67 rfl ?_
      refine q_pi eX6_readFactor_69 fl_RX6_28 (fun q hq => by cases hq; exact Or.inl rfl) (Or.inl rfl) c0 (Nat.le_of_ble_eq_true rfl) (l2 := [0, 0, 0, 0, 0, 0, 0, tc, (he + 1), nu, px, (L.length : Int), hs, er, ea]) rfl (fun h35 e36 => ?_)
      have k37 := am_at e36
      have k38 := (am_ne e36 (t + 1) (by omega)).trans c1
      have k39 := (am_ne e36 (t + 2) (by omega)).trans c2
      have k40 := (am_ne e36 (t + 3) (by omega)).trans c3
      have k41 := (am_ne e36 (t + 4) (by omega)).trans c4
      refine q_blk (lv2 := [(0, vr t), (1, vi 4), (2, vi (kd he))]) (st2 := [vi (kd he), vr t]) kX6_readFactor_72 rfl ?_
      refine AQ.callVv (av := [vi (kd he)]) (st := []) (c_X6_addCode (v := (kd he)) ⟨_, k37, k38, k39, k40, k41⟩ (by omega) (by omega)) lk_RX6_230 (by decide) rfl rfl ⟨_, _, _, k37⟩ ⟨_, rfl, rfl⟩ (Nat.le_of_ble_eq_true rfl) eX6_readFactor_74 (fun h44 e43 => ?_)
      obtain ⟨Xh44, Fh44⟩ := e43
      obtain ⟨g45t, g450, g451, g452, g453, g454⟩ := id Xh44
      refine q_blk (lv2 := [(0, vr t), (1, vi 4), (2, vi (kd he))]) (st2 := [vi 1]) kX6_readFactor_77 rfl ?_
      exact q_rz rfl eX6_readFactor_78 (by decide) ⟨1, rfl, Or.inl ⟨rfl, L ++ [(1, -1 - kd he)], he + 1, by unfold rA; rw [if_neg (by omega), if_pos (by omega)], ⟨by omega, by omega, by simp; omega⟩, nu, (am_uI cd (L.length : Int) (kd he)), SU.cast ⟨_, g450, g451, g452, g453, g454⟩ (by simp), hL.add (by unfold gm_en; (try simp); (try omega))⟩, ((am_fr.rf.tr (am_fr.st e36 (by omega) (by omega))).tr Fh44)⟩
  · skip
    refine q_blk (lv2 := [(0, vr t), (1, vi 4), (2, vi (kd he))]) (st2 := [vi 4, vi 4]) kX6_readFactor_11 rfl ?_
    refine AQ.of (AS.ic_lt_f eX6_readFactor_13 ⟨by decide, by decide⟩ ⟨by decide, by decide⟩ (by decide) (by decide)) ?_
    refine q_blk (lv2 := [(0, vr t), (1, vi 4), (2, vi (kd he))]) (st2 := [vi (-6), vr t]) kX6_readFactor_16 rfl ?_
    refine AQ.callVi (av := [vi (-6)]) (st := []) (c_X6_fail (e := (-6)) ⟨_, c0, c1, c2, c3, c4⟩ (by omega) (by omega)) lk_RX6_83 (by decide) rfl rfl ⟨_, _, _, c0⟩ ⟨_, rfl, rfl⟩ (Nat.le_of_ble_eq_true rfl) eX6_readFactor_19 (fun z46 h48 e47 => ?_)
    obtain ⟨z460, Xh48, Fh48⟩ := e47
    subst z460
    obtain ⟨g49t, g490, g491, g492, g493, g494⟩ := id Xh48
    exact q_rz rfl eX6_readFactor_22 (by decide) ⟨0, rfl, Or.inr ⟨rfl, _, _, by unfold rA; rw [if_pos (by omega)], ⟨_, _, _, _, _, _, ⟨_, g490, g491, g492, g493, g494⟩, by omega, by omega⟩⟩, (am_fr.rf.tr Fh48)⟩

set_option maxHeartbeats 1000000 in
theorem c_X6_readTerm4 {w : am_w} {h : AH} {L : GL} {t u b j : Nat} {kd st vl : Int → Int} {he nu px hs er ea : Int} {cd : Int → Int} (hS : SU h t u b j kd st vl he nu px (L.length : Int) hs er ea cd) {n : Int} (n0 : n ≤ 800) (kn : kd n = 0) (he0 : 0 ≤ he) (he1 : he ≤ n) (kr : ∀ i, 0 ≤ i → i < 801 → -5 ≤ kd i ∧ kd i ≤ 100) (vq : ∀ i, 0 ≤ i → i < 801 → 0 ≤ vl i ∧ vl i ≤ 10000) (hL : CL cd L) (hl : (L.length : Int) ≤ he)  : AE w m_X6_readTerm 5 [vr t, vi 4] h (am_int (fun z h1 => ((z = 1 ∧ ∃ L' he', rM kd st vl none L he = .inr (L', he') ∧ (he < he' ∧ he' ≤ n ∧ (L'.length : Int) ≤ (L.length : Int) + (he' - he)) ∧ ∃ nu' cd', SU h1 t u b j kd st vl he' nu' px (L'.length : Int) hs er ea cd' ∧ CL cd' L') ∨ (z = 0 ∧ ∃ e a, rM kd st vl none L he = .inl (e, a) ∧ SF h1 t u b j kd st vl e a)) ∧ am_fr h h1 t (t + 5))) := by
  refine AE.of wf_X6_readTerm (Nat.le_of_ble_eq_true rfl) (am_ok_z (fun z h1 q => by rcases q.1 with q | q; exact Or.inr q.1; exact Or.inl q.1)) ?_
  obtain ⟨tc, c0, c1, c2, c3, c4⟩ := id hS
  have kr1 := kr he he0 (by omega)
  have vr1 := vq he he0 (by omega)
  have hen : kd he ≠ 0 → he ≠ n := fun q e9 => by rw [e9] at q; omega
  refine q_blk (lv2 := [(0, vr t), (1, vi 4)]) (st2 := [vi 4, vr t]) kX6_readTerm_0 rfl ?_
  refine AQ.callVi (av := [vi 4]) (st := []) (c_X6_readFactor4 (L := L) ⟨_, c0, c1, c2, c3, c4⟩ n0 kn (by omega) (by omega) kr vq hL (by omega)) lk_RX6_233 (by decide) rfl rfl ⟨_, _, _, c0⟩ ⟨_, rfl, rfl⟩ (Nat.le_of_ble_eq_true rfl) eX6_readTerm_2 (fun z1 h3 e2 => ?_)
  rcases e2 with ⟨⟨rfl, Lh3, hh3e, qh3, ⟨bh3a, bh3b, bh3c⟩, hh3n, hh3c, Xh3, Ch3⟩ | ⟨rfl, eh3, ah3, qh3, Xh3⟩, Fh3⟩
  · skip
    obtain ⟨g4t, g40, g41, g42, g43, g44⟩ := id Xh3
    refine q_blk (lv2 := [(0, vr t), (1, vi 4), (2, vi 1), (3, vi 0)]) (st2 := []) kX6_readTerm_5 rfl ?_
    refine am_lp7 (I := fun (g : Int) (i : Int) (hh : AH) (L9 : GL) (e9 : Int) (v9 : Int) (c9 : Int → Int) => (0 ≤ i ∧ i ≤ 800) ∧ am_fr h hh t (t + 5) ∧ ((g = 1 ∧ (he < e9 ∧ e9 ≤ n ∧ (L9.length : Int) ≤ (L.length : Int) + (e9 - he)) ∧ rJ kd (rA kd st vl none) 42 47 4 5 (800 - i.toNat) L9 e9 = rM kd st vl none L he ∧ CL c9 L9 ∧ SU hh t u b j kd st vl e9 v9 px (L9.length : Int) hs er ea c9) ∨ (g = 0 ∧ ∃ e a, rM kd st vl none L he = .inl (e, a) ∧ SF hh t u b j kd st vl e a))) (μ := fun (g : Int) (i : Int) (hh : AH) (L9 : GL) (e9 : Int) (v9 : Int) (c9 : Int → Int) => (800 - i).toNat) (G := fun (g : Int) (i : Int) (hh : AH) (L9 : GL) (e9 : Int) (v9 : Int) (c9 : Int → Int) => AQ w m_X6_readTerm 5 8 [(0, vr t), (1, vi 4), (2, vi g), (3, vi i)] [] hh (am_int (fun z h1 => ((z = 1 ∧ ∃ L' he', rM kd st vl none L he = .inr (L', he') ∧ (he < he' ∧ he' ≤ n ∧ (L'.length : Int) ≤ (L.length : Int) + (he' - he)) ∧ ∃ nu' cd', SU h1 t u b j kd st vl he' nu' px (L'.length : Int) hs er ea cd' ∧ CL cd' L') ∨ (z = 0 ∧ ∃ e a, rM kd st vl none L he = .inl (e, a) ∧ SF h1 t u b j kd st vl e a)) ∧ am_fr h h1 t (t + 5)))) ?_ 1 0 h3 Lh3 hh3e hh3n hh3c (⟨⟨by omega, by omega⟩, (am_fr.rf.tr Fh3), Or.inl ⟨rfl, ⟨by omega, by omega, by omega⟩, by rw [show (800 - (0 : Int).toNat : Nat) = 800 from rfl]; unfold rM; rw [rB_r qh3], Ch3, ⟨_, g40, g41, g42, g43, g44⟩⟩⟩)
    intro g i hh L9 e9 v9 c9 hI6 ih5
    obtain ⟨⟨i0, i1⟩, hfr, hG⟩ := hI6
    have hg9 : g = 0 ∨ g = 1 := by rcases hG with q | q; exact Or.inr q.1; exact Or.inl q.1
    refine q_blk (lv2 := [(0, vr t), (1, vi 4), (2, vi g), (3, vi i)]) (st2 := [vi 800, vi i]) kX6_readTerm_8 rfl ?_
    refine AQ.ic_ge (tgt := 81) eX6_readTerm_12 (by decide) (by first | assumption | exact ⟨by omega, by omega⟩) ⟨by decide, by decide⟩ (fun br7 => ?_) (fun br7 => ?_)
    · skip
      refine q_blk (lv2 := [(0, vr t), (1, vi 4), (2, vi g), (3, vi i)]) (st2 := [vi g]) kX6_readTerm_81 rfl ?_
      exact q_rz rfl eX6_readTerm_82 (by omega) ⟨g, rfl, (by rcases hG with ⟨rfl, hb9, hJ9, hL9, hS9⟩ | hG; exact Or.inl ⟨rfl, L9, e9, hJ9.symm.trans (rJ_end (Or.inl (by omega))), hb9, _, _, hS9, hL9⟩; exact Or.inr hG), hfr⟩
    · skip
      refine q_blk (lv2 := [(0, vr t), (1, vi 4), (2, vi g), (3, vi i)]) (st2 := [vi g]) kX6_readTerm_15 rfl ?_
      refine AQ.if_eq (tgt := 81) eX6_readTerm_16 (by decide) (by first | assumption | exact ⟨by omega, by omega⟩) (fun br8 => ?_) (fun br8 => ?_)
      · skip
        refine q_blk (lv2 := [(0, vr t), (1, vi 4), (2, vi g), (3, vi i)]) (st2 := [vi g]) kX6_readTerm_81 rfl ?_
        exact q_rz rfl eX6_readTerm_82 (by omega) ⟨g, rfl, (by rcases hG with ⟨rfl, hb9, hJ9, hL9, hS9⟩ | hG; exact Or.inl ⟨rfl, L9, e9, hJ9.symm.trans (rJ_end (Or.inl (by omega))), hb9, _, _, hS9, hL9⟩; exact Or.inr hG), hfr⟩
      · skip
        obtain ⟨-, ⟨b9a, b9b, b9c⟩, hJ9, hL9, hS9⟩ := hG.resolve_right (fun q => absurd q.1 (by omega))
        obtain ⟨wt, w0, w1, w2, w3, w4⟩ := id hS9
        have kr9 := kr e9 (by omega) (by omega)
        have hen9 : kd e9 ≠ 0 → e9 ≠ n := fun q e => by rw [e] at q; omega
        refine q_blk (lv2 := [(0, vr t), (1, vi 4), (2, vi g), (3, vi i)]) (st2 := [vr t]) kX6_readTerm_19 rfl ?_
        refine q_Vi (av := []) (st := []) (c_X6_kindHere ⟨_, w0, w1, w2, w3, w4⟩ (by omega) (by omega)) lk_RX6_70 (by decide) rfl rfl ⟨_, _, _, w0⟩ ⟨_, rfl, rfl⟩ (Nat.le_of_ble_eq_true rfl) eX6_readTerm_20 (fun z9 e10 => ?_)
        subst e10
        refine q_blk (lv2 := [(0, vr t), (1, vi 4), (2, vi g), (3, vi i), (4, vi (kd e9))]) (st2 := [vi 42, vi (kd e9)]) kX6_readTerm_23 rfl ?_
        refine AQ.ic_eq (tgt := 41) eX6_readTerm_29 (by decide) (by first | assumption | exact ⟨by omega, by omega⟩) ⟨by decide, by decide⟩ (fun br11 => ?_) (fun br11 => ?_)
        · skip
          refine q_blk (lv2 := [(0, vr t), (1, vi 4), (2, vi g), (3, vi i), (4, vi (kd e9))]) (st2 := [vr t, vr t]) kX6_readTerm_41 rfl ?_
          refine q_gi eX6_readTerm_43 fl_RX6_28 (Or.inl rfl) w0 (z := e9) rfl ?_
          refine q_blk (lv2 := [(0, vr t), (1, vi 4), (2, vi g), (3, vi i), (4, vi (kd e9))]) (st2 := [vi (e9 + 1), vr t]) kX6_readTerm_46 rfl ?_
          refine q_pi eX6_readTerm_48 fl_RX6_28 (fun q hq => by cases hq; exact Or.inl rfl) (Or.inl rfl) w0 (Nat.le_of_ble_eq_true rfl) (l2 := [0, 0, 0, 0, 0, 0, 0, wt, (e9 + 1), v9, px, (L9.length : Int), hs, er, ea]) rfl (fun h12 e13 => ?_)
          have k14 := am_at e13
          have k15 := (am_ne e13 (t + 1) (by omega)).trans w1
          have k16 := (am_ne e13 (t + 2) (by omega)).trans w2
          have k17 := (am_ne e13 (t + 3) (by omega)).trans w3
          have k18 := (am_ne e13 (t + 4) (by omega)).trans w4
          refine q_blk (lv2 := [(0, vr t), (1, vi 4), (2, vi g), (3, vi i), (4, vi (kd e9))]) (st2 := [vi 4, vr t]) kX6_readTerm_51 rfl ?_
          refine AQ.callVi (av := [vi 4]) (st := []) (c_X6_readFactor4 (L := L9) ⟨_, k14, k15, k16, k17, k18⟩ n0 kn (by omega) (by omega) kr vq hL9 (by omega)) lk_RX6_233 (by decide) rfl rfl ⟨_, _, _, k14⟩ ⟨_, rfl, rfl⟩ (Nat.le_of_ble_eq_true rfl) eX6_readTerm_53 (fun z19 h21 e20 => ?_)
          rcases e20 with ⟨⟨rfl, Lh21, hh21e, qh21, ⟨bh21a, bh21b, bh21c⟩, hh21n, hh21c, Xh21, Ch21⟩ | ⟨rfl, eh21, ah21, qh21, Xh21⟩, Fh21⟩
          · skip
            obtain ⟨g22t, g220, g221, g222, g223, g224⟩ := id Xh21
            refine q_blk (lv2 := [(0, vr t), (1, vi 4), (2, vi 1), (3, vi i), (4, vi (kd e9))]) (st2 := [vi 42, vi (kd e9), vr t]) kX6_readTerm_56 rfl ?_
            refine AQ.ic_ne (tgt := 70) eX6_readTerm_62 (by decide) (by first | assumption | exact ⟨by omega, by omega⟩) ⟨by decide, by decide⟩ (fun br23 => ?_) (fun br23 => ?_)
            · skip
              refine q_blk (lv2 := [(0, vr t), (1, vi 4), (2, vi 1), (3, vi i), (4, vi (kd e9))]) (st2 := [vi (-9), vr t]) kX6_readTerm_70 rfl ?_
              refine AQ.callVv (av := [vi (-9)]) (st := []) (c_X6_addCode (v := (-9)) ⟨_, g220, g221, g222, g223, g224⟩ (by omega) (by omega)) lk_RX6_230 (by decide) rfl rfl ⟨_, _, _, g220⟩ ⟨_, rfl, rfl⟩ (Nat.le_of_ble_eq_true rfl) eX6_readTerm_72 (fun h26 e25 => ?_)
              obtain ⟨Xh26, Fh26⟩ := e25
              obtain ⟨g27t, g270, g271, g272, g273, g274⟩ := id Xh26
              refine q_blk (lv2 := [(0, vr t), (1, vi 4), (2, vi 1), (3, vi (i + 1)), (4, vi (kd e9))]) (st2 := []) kX6_readTerm_75 rfl ?_
              refine q_goto (tgt := 8) eX6_readTerm_78 (by decide) ?_
              refine q_sub (lv2 := [(0, vr t), (1, vi 4), (2, vi 1), (3, vi (i + 1))]) [0, 1, 2, 3] rfl ?_
              exact ih5 1 (i + 1) h26 (Lh21 ++ [(5, 0)]) hh21e hh21n (am_uI hh21c (Lh21.length : Int) (-9)) (⟨⟨by omega, by omega⟩, hfr.tr (((am_fr.rf.tr (am_fr.st e13 (by omega) (by omega))).tr Fh21).tr Fh26), Or.inl ⟨rfl, ⟨by omega, by omega, by simp; omega⟩, by rw [show 800 - (i + 1).toNat = 800 - i.toNat - 1 by omega]; exact (rJ_go (o := 5) (by omega) (by omega) qh21).symm.trans hJ9, Ch21.add (by unfold gm_en; simp), SU.cast ⟨_, g270, g271, g272, g273, g274⟩ (by simp)⟩⟩) (by omega)
            · skip
              refine q_blk (lv2 := [(0, vr t), (1, vi 4), (2, vi 1), (3, vi i), (4, vi (kd e9))]) (st2 := [vi (-8), vr t]) kX6_readTerm_65 rfl ?_
              refine q_goto (tgt := 72) eX6_readTerm_67 (by decide) ?_
              refine AQ.callVv (av := [vi (-8)]) (st := []) (c_X6_addCode (v := (-8)) ⟨_, g220, g221, g222, g223, g224⟩ (by omega) (by omega)) lk_RX6_230 (by decide) rfl rfl ⟨_, _, _, g220⟩ ⟨_, rfl, rfl⟩ (Nat.le_of_ble_eq_true rfl) eX6_readTerm_72 (fun h30 e29 => ?_)
              obtain ⟨Xh30, Fh30⟩ := e29
              obtain ⟨g31t, g310, g311, g312, g313, g314⟩ := id Xh30
              refine q_blk (lv2 := [(0, vr t), (1, vi 4), (2, vi 1), (3, vi (i + 1)), (4, vi (kd e9))]) (st2 := []) kX6_readTerm_75 rfl ?_
              refine q_goto (tgt := 8) eX6_readTerm_78 (by decide) ?_
              refine q_sub (lv2 := [(0, vr t), (1, vi 4), (2, vi 1), (3, vi (i + 1))]) [0, 1, 2, 3] rfl ?_
              exact ih5 1 (i + 1) h30 (Lh21 ++ [(4, 0)]) hh21e hh21n (am_uI hh21c (Lh21.length : Int) (-8)) (⟨⟨by omega, by omega⟩, hfr.tr (((am_fr.rf.tr (am_fr.st e13 (by omega) (by omega))).tr Fh21).tr Fh30), Or.inl ⟨rfl, ⟨by omega, by omega, by simp; omega⟩, by rw [show 800 - (i + 1).toNat = 800 - i.toNat - 1 by omega]; exact (rJ_go (o := 4) (by omega) (by omega) qh21).symm.trans hJ9, Ch21.add (by unfold gm_en; simp), SU.cast ⟨_, g310, g311, g312, g313, g314⟩ (by simp)⟩⟩) (by omega)
          · skip
            refine q_blk (lv2 := [(0, vr t), (1, vi 4), (2, vi 0), (3, vi i), (4, vi (kd e9))]) (st2 := [vi 42, vi (kd e9), vr t]) kX6_readTerm_56 rfl ?_
            refine AQ.ic_ne (tgt := 70) eX6_readTerm_62 (by decide) (by first | assumption | exact ⟨by omega, by omega⟩) ⟨by decide, by decide⟩ (fun br32 => ?_) (fun br32 => ?_)
            · skip
              refine q_blk (lv2 := [(0, vr t), (1, vi 4), (2, vi 0), (3, vi i), (4, vi (kd e9))]) (st2 := [vi (-9), vr t]) kX6_readTerm_70 rfl ?_
              refine AQ.callVv (av := [vi (-9)]) (st := []) (c_X6_addCodeF Xh21 (v := (-9))) lk_RX6_230 (by decide) rfl rfl (SF.ob Xh21) ⟨_, rfl, rfl⟩ (Nat.le_of_ble_eq_true rfl) eX6_readTerm_72 (fun h35 e34 => ?_)
              obtain ⟨Xh35, Fh35⟩ := e34
              refine q_blk (lv2 := [(0, vr t), (1, vi 4), (2, vi 0), (3, vi (i + 1)), (4, vi (kd e9))]) (st2 := []) kX6_readTerm_75 rfl ?_
              refine q_goto (tgt := 8) eX6_readTerm_78 (by decide) ?_
              refine q_sub (lv2 := [(0, vr t), (1, vi 4), (2, vi 0), (3, vi (i + 1))]) [0, 1, 2, 3] rfl ?_
              exact ih5 0 (i + 1) h35 L 0 0 cd (⟨⟨by omega, by omega⟩, hfr.tr (((am_fr.rf.tr (am_fr.st e13 (by omega) (by omega))).tr Fh21).tr Fh35), Or.inr ⟨rfl, _, _, hJ9.symm.trans (rJ_no (by omega) (by omega) qh21), Xh35⟩⟩) (by omega)
            · skip
              refine q_blk (lv2 := [(0, vr t), (1, vi 4), (2, vi 0), (3, vi i), (4, vi (kd e9))]) (st2 := [vi (-8), vr t]) kX6_readTerm_65 rfl ?_
              refine q_goto (tgt := 72) eX6_readTerm_67 (by decide) ?_
              refine AQ.callVv (av := [vi (-8)]) (st := []) (c_X6_addCodeF Xh21 (v := (-8))) lk_RX6_230 (by decide) rfl rfl (SF.ob Xh21) ⟨_, rfl, rfl⟩ (Nat.le_of_ble_eq_true rfl) eX6_readTerm_72 (fun h38 e37 => ?_)
              obtain ⟨Xh38, Fh38⟩ := e37
              refine q_blk (lv2 := [(0, vr t), (1, vi 4), (2, vi 0), (3, vi (i + 1)), (4, vi (kd e9))]) (st2 := []) kX6_readTerm_75 rfl ?_
              refine q_goto (tgt := 8) eX6_readTerm_78 (by decide) ?_
              refine q_sub (lv2 := [(0, vr t), (1, vi 4), (2, vi 0), (3, vi (i + 1))]) [0, 1, 2, 3] rfl ?_
              exact ih5 0 (i + 1) h38 L 0 0 cd (⟨⟨by omega, by omega⟩, hfr.tr (((am_fr.rf.tr (am_fr.st e13 (by omega) (by omega))).tr Fh21).tr Fh38), Or.inr ⟨rfl, _, _, hJ9.symm.trans (rJ_no (by omega) (by omega) qh21), Xh38⟩⟩) (by omega)
        · skip
          refine q_blk (lv2 := [(0, vr t), (1, vi 4), (2, vi g), (3, vi i), (4, vi (kd e9))]) (st2 := [vi 47, vi (kd e9)]) kX6_readTerm_32 rfl ?_
          refine AQ.ic_eq (tgt := 41) eX6_readTerm_36 (by decide) (by first | assumption | exact ⟨by omega, by omega⟩) ⟨by decide, by decide⟩ (fun br39 => ?_) (fun br39 => ?_)
          · skip
            refine q_blk (lv2 := [(0, vr t), (1, vi 4), (2, vi g), (3, vi i), (4, vi (kd e9))]) (st2 := [vr t, vr t]) kX6_readTerm_41 rfl ?_
            refine q_gi eX6_readTerm_43 fl_RX6_28 (Or.inl rfl) w0 (z := e9) rfl ?_
            refine q_blk (lv2 := [(0, vr t), (1, vi 4), (2, vi g), (3, vi i), (4, vi (kd e9))]) (st2 := [vi (e9 + 1), vr t]) kX6_readTerm_46 rfl ?_
            refine q_pi eX6_readTerm_48 fl_RX6_28 (fun q hq => by cases hq; exact Or.inl rfl) (Or.inl rfl) w0 (Nat.le_of_ble_eq_true rfl) (l2 := [0, 0, 0, 0, 0, 0, 0, wt, (e9 + 1), v9, px, (L9.length : Int), hs, er, ea]) rfl (fun h40 e41 => ?_)
            have k42 := am_at e41
            have k43 := (am_ne e41 (t + 1) (by omega)).trans w1
            have k44 := (am_ne e41 (t + 2) (by omega)).trans w2
            have k45 := (am_ne e41 (t + 3) (by omega)).trans w3
            have k46 := (am_ne e41 (t + 4) (by omega)).trans w4
            refine q_blk (lv2 := [(0, vr t), (1, vi 4), (2, vi g), (3, vi i), (4, vi (kd e9))]) (st2 := [vi 4, vr t]) kX6_readTerm_51 rfl ?_
            refine AQ.callVi (av := [vi 4]) (st := []) (c_X6_readFactor4 (L := L9) ⟨_, k42, k43, k44, k45, k46⟩ n0 kn (by omega) (by omega) kr vq hL9 (by omega)) lk_RX6_233 (by decide) rfl rfl ⟨_, _, _, k42⟩ ⟨_, rfl, rfl⟩ (Nat.le_of_ble_eq_true rfl) eX6_readTerm_53 (fun z47 h49 e48 => ?_)
            rcases e48 with ⟨⟨rfl, Lh49, hh49e, qh49, ⟨bh49a, bh49b, bh49c⟩, hh49n, hh49c, Xh49, Ch49⟩ | ⟨rfl, eh49, ah49, qh49, Xh49⟩, Fh49⟩
            · skip
              obtain ⟨g50t, g500, g501, g502, g503, g504⟩ := id Xh49
              refine q_blk (lv2 := [(0, vr t), (1, vi 4), (2, vi 1), (3, vi i), (4, vi (kd e9))]) (st2 := [vi 42, vi (kd e9), vr t]) kX6_readTerm_56 rfl ?_
              refine AQ.ic_ne (tgt := 70) eX6_readTerm_62 (by decide) (by first | assumption | exact ⟨by omega, by omega⟩) ⟨by decide, by decide⟩ (fun br51 => ?_) (fun br51 => ?_)
              · skip
                refine q_blk (lv2 := [(0, vr t), (1, vi 4), (2, vi 1), (3, vi i), (4, vi (kd e9))]) (st2 := [vi (-9), vr t]) kX6_readTerm_70 rfl ?_
                refine AQ.callVv (av := [vi (-9)]) (st := []) (c_X6_addCode (v := (-9)) ⟨_, g500, g501, g502, g503, g504⟩ (by omega) (by omega)) lk_RX6_230 (by decide) rfl rfl ⟨_, _, _, g500⟩ ⟨_, rfl, rfl⟩ (Nat.le_of_ble_eq_true rfl) eX6_readTerm_72 (fun h54 e53 => ?_)
                obtain ⟨Xh54, Fh54⟩ := e53
                obtain ⟨g55t, g550, g551, g552, g553, g554⟩ := id Xh54
                refine q_blk (lv2 := [(0, vr t), (1, vi 4), (2, vi 1), (3, vi (i + 1)), (4, vi (kd e9))]) (st2 := []) kX6_readTerm_75 rfl ?_
                refine q_goto (tgt := 8) eX6_readTerm_78 (by decide) ?_
                refine q_sub (lv2 := [(0, vr t), (1, vi 4), (2, vi 1), (3, vi (i + 1))]) [0, 1, 2, 3] rfl ?_
                exact ih5 1 (i + 1) h54 (Lh49 ++ [(5, 0)]) hh49e hh49n (am_uI hh49c (Lh49.length : Int) (-9)) (⟨⟨by omega, by omega⟩, hfr.tr (((am_fr.rf.tr (am_fr.st e41 (by omega) (by omega))).tr Fh49).tr Fh54), Or.inl ⟨rfl, ⟨by omega, by omega, by simp; omega⟩, by rw [show 800 - (i + 1).toNat = 800 - i.toNat - 1 by omega]; exact (rJ_go (o := 5) (by omega) (by omega) qh49).symm.trans hJ9, Ch49.add (by unfold gm_en; simp), SU.cast ⟨_, g550, g551, g552, g553, g554⟩ (by simp)⟩⟩) (by omega)
              · skip
                refine q_blk (lv2 := [(0, vr t), (1, vi 4), (2, vi 1), (3, vi i), (4, vi (kd e9))]) (st2 := [vi (-8), vr t]) kX6_readTerm_65 rfl ?_
                refine q_goto (tgt := 72) eX6_readTerm_67 (by decide) ?_
                refine AQ.callVv (av := [vi (-8)]) (st := []) (c_X6_addCode (v := (-8)) ⟨_, g500, g501, g502, g503, g504⟩ (by omega) (by omega)) lk_RX6_230 (by decide) rfl rfl ⟨_, _, _, g500⟩ ⟨_, rfl, rfl⟩ (Nat.le_of_ble_eq_true rfl) eX6_readTerm_72 (fun h58 e57 => ?_)
                obtain ⟨Xh58, Fh58⟩ := e57
                obtain ⟨g59t, g590, g591, g592, g593, g594⟩ := id Xh58
                refine q_blk (lv2 := [(0, vr t), (1, vi 4), (2, vi 1), (3, vi (i + 1)), (4, vi (kd e9))]) (st2 := []) kX6_readTerm_75 rfl ?_
                refine q_goto (tgt := 8) eX6_readTerm_78 (by decide) ?_
                refine q_sub (lv2 := [(0, vr t), (1, vi 4), (2, vi 1), (3, vi (i + 1))]) [0, 1, 2, 3] rfl ?_
                exact ih5 1 (i + 1) h58 (Lh49 ++ [(4, 0)]) hh49e hh49n (am_uI hh49c (Lh49.length : Int) (-8)) (⟨⟨by omega, by omega⟩, hfr.tr (((am_fr.rf.tr (am_fr.st e41 (by omega) (by omega))).tr Fh49).tr Fh58), Or.inl ⟨rfl, ⟨by omega, by omega, by simp; omega⟩, by rw [show 800 - (i + 1).toNat = 800 - i.toNat - 1 by omega]; exact (rJ_go (o := 4) (by omega) (by omega) qh49).symm.trans hJ9, Ch49.add (by unfold gm_en; simp), SU.cast ⟨_, g590, g591, g592, g593, g594⟩ (by simp)⟩⟩) (by omega)
            · skip
              refine q_blk (lv2 := [(0, vr t), (1, vi 4), (2, vi 0), (3, vi i), (4, vi (kd e9))]) (st2 := [vi 42, vi (kd e9), vr t]) kX6_readTerm_56 rfl ?_
              refine AQ.ic_ne (tgt := 70) eX6_readTerm_62 (by decide) (by first | assumption | exact ⟨by omega, by omega⟩) ⟨by decide, by decide⟩ (fun br60 => ?_) (fun br60 => ?_)
              · skip
                refine q_blk (lv2 := [(0, vr t), (1, vi 4), (2, vi 0), (3, vi i), (4, vi (kd e9))]) (st2 := [vi (-9), vr t]) kX6_readTerm_70 rfl ?_
                refine AQ.callVv (av := [vi (-9)]) (st := []) (c_X6_addCodeF Xh49 (v := (-9))) lk_RX6_230 (by decide) rfl rfl (SF.ob Xh49) ⟨_, rfl, rfl⟩ (Nat.le_of_ble_eq_true rfl) eX6_readTerm_72 (fun h63 e62 => ?_)
                obtain ⟨Xh63, Fh63⟩ := e62
                refine q_blk (lv2 := [(0, vr t), (1, vi 4), (2, vi 0), (3, vi (i + 1)), (4, vi (kd e9))]) (st2 := []) kX6_readTerm_75 rfl ?_
                refine q_goto (tgt := 8) eX6_readTerm_78 (by decide) ?_
                refine q_sub (lv2 := [(0, vr t), (1, vi 4), (2, vi 0), (3, vi (i + 1))]) [0, 1, 2, 3] rfl ?_
                exact ih5 0 (i + 1) h63 L 0 0 cd (⟨⟨by omega, by omega⟩, hfr.tr (((am_fr.rf.tr (am_fr.st e41 (by omega) (by omega))).tr Fh49).tr Fh63), Or.inr ⟨rfl, _, _, hJ9.symm.trans (rJ_no (by omega) (by omega) qh49), Xh63⟩⟩) (by omega)
              · skip
                refine q_blk (lv2 := [(0, vr t), (1, vi 4), (2, vi 0), (3, vi i), (4, vi (kd e9))]) (st2 := [vi (-8), vr t]) kX6_readTerm_65 rfl ?_
                refine q_goto (tgt := 72) eX6_readTerm_67 (by decide) ?_
                refine AQ.callVv (av := [vi (-8)]) (st := []) (c_X6_addCodeF Xh49 (v := (-8))) lk_RX6_230 (by decide) rfl rfl (SF.ob Xh49) ⟨_, rfl, rfl⟩ (Nat.le_of_ble_eq_true rfl) eX6_readTerm_72 (fun h66 e65 => ?_)
                obtain ⟨Xh66, Fh66⟩ := e65
                refine q_blk (lv2 := [(0, vr t), (1, vi 4), (2, vi 0), (3, vi (i + 1)), (4, vi (kd e9))]) (st2 := []) kX6_readTerm_75 rfl ?_
                refine q_goto (tgt := 8) eX6_readTerm_78 (by decide) ?_
                refine q_sub (lv2 := [(0, vr t), (1, vi 4), (2, vi 0), (3, vi (i + 1))]) [0, 1, 2, 3] rfl ?_
                exact ih5 0 (i + 1) h66 L 0 0 cd (⟨⟨by omega, by omega⟩, hfr.tr (((am_fr.rf.tr (am_fr.st e41 (by omega) (by omega))).tr Fh49).tr Fh66), Or.inr ⟨rfl, _, _, hJ9.symm.trans (rJ_no (by omega) (by omega) qh49), Xh66⟩⟩) (by omega)
          · skip
            refine q_blk (lv2 := [(0, vr t), (1, vi 4), (2, vi g), (3, vi i), (4, vi (kd e9))]) (st2 := [vi 1]) kX6_readTerm_39 rfl ?_
            exact q_rz rfl eX6_readTerm_40 (by decide) ⟨1, rfl, Or.inl ⟨rfl, L9, e9, hJ9.symm.trans (rJ_end (Or.inr ⟨by omega, by omega⟩)), ⟨by omega, by omega, by omega⟩, _, _, ⟨_, w0, w1, w2, w3, w4⟩, hL9⟩, hfr.tr am_fr.rf⟩
  · skip
    refine q_blk (lv2 := [(0, vr t), (1, vi 4), (2, vi 0), (3, vi 0)]) (st2 := []) kX6_readTerm_5 rfl ?_
    refine am_lp7 (I := fun (g : Int) (i : Int) (hh : AH) (L9 : GL) (e9 : Int) (v9 : Int) (c9 : Int → Int) => (0 ≤ i ∧ i ≤ 800) ∧ am_fr h hh t (t + 5) ∧ ((g = 1 ∧ (he < e9 ∧ e9 ≤ n ∧ (L9.length : Int) ≤ (L.length : Int) + (e9 - he)) ∧ rJ kd (rA kd st vl none) 42 47 4 5 (800 - i.toNat) L9 e9 = rM kd st vl none L he ∧ CL c9 L9 ∧ SU hh t u b j kd st vl e9 v9 px (L9.length : Int) hs er ea c9) ∨ (g = 0 ∧ ∃ e a, rM kd st vl none L he = .inl (e, a) ∧ SF hh t u b j kd st vl e a))) (μ := fun (g : Int) (i : Int) (hh : AH) (L9 : GL) (e9 : Int) (v9 : Int) (c9 : Int → Int) => (800 - i).toNat) (G := fun (g : Int) (i : Int) (hh : AH) (L9 : GL) (e9 : Int) (v9 : Int) (c9 : Int → Int) => AQ w m_X6_readTerm 5 8 [(0, vr t), (1, vi 4), (2, vi g), (3, vi i)] [] hh (am_int (fun z h1 => ((z = 1 ∧ ∃ L' he', rM kd st vl none L he = .inr (L', he') ∧ (he < he' ∧ he' ≤ n ∧ (L'.length : Int) ≤ (L.length : Int) + (he' - he)) ∧ ∃ nu' cd', SU h1 t u b j kd st vl he' nu' px (L'.length : Int) hs er ea cd' ∧ CL cd' L') ∨ (z = 0 ∧ ∃ e a, rM kd st vl none L he = .inl (e, a) ∧ SF h1 t u b j kd st vl e a)) ∧ am_fr h h1 t (t + 5)))) ?_ 0 0 h3 L 0 0 cd (⟨⟨by omega, by omega⟩, (am_fr.rf.tr Fh3), Or.inr ⟨rfl, _, _, by unfold rM; exact rB_l qh3 _, Xh3⟩⟩)
    intro g i hh L9 e9 v9 c9 hI68 ih67
    obtain ⟨⟨i0, i1⟩, hfr, hG⟩ := hI68
    have hg9 : g = 0 ∨ g = 1 := by rcases hG with q | q; exact Or.inr q.1; exact Or.inl q.1
    refine q_blk (lv2 := [(0, vr t), (1, vi 4), (2, vi g), (3, vi i)]) (st2 := [vi 800, vi i]) kX6_readTerm_8 rfl ?_
    refine AQ.ic_ge (tgt := 81) eX6_readTerm_12 (by decide) (by first | assumption | exact ⟨by omega, by omega⟩) ⟨by decide, by decide⟩ (fun br69 => ?_) (fun br69 => ?_)
    · skip
      refine q_blk (lv2 := [(0, vr t), (1, vi 4), (2, vi g), (3, vi i)]) (st2 := [vi g]) kX6_readTerm_81 rfl ?_
      exact q_rz rfl eX6_readTerm_82 (by omega) ⟨g, rfl, (by rcases hG with ⟨rfl, hb9, hJ9, hL9, hS9⟩ | hG; exact Or.inl ⟨rfl, L9, e9, hJ9.symm.trans (rJ_end (Or.inl (by omega))), hb9, _, _, hS9, hL9⟩; exact Or.inr hG), hfr⟩
    · skip
      refine q_blk (lv2 := [(0, vr t), (1, vi 4), (2, vi g), (3, vi i)]) (st2 := [vi g]) kX6_readTerm_15 rfl ?_
      refine AQ.if_eq (tgt := 81) eX6_readTerm_16 (by decide) (by first | assumption | exact ⟨by omega, by omega⟩) (fun br70 => ?_) (fun br70 => ?_)
      · skip
        refine q_blk (lv2 := [(0, vr t), (1, vi 4), (2, vi g), (3, vi i)]) (st2 := [vi g]) kX6_readTerm_81 rfl ?_
        exact q_rz rfl eX6_readTerm_82 (by omega) ⟨g, rfl, (by rcases hG with ⟨rfl, hb9, hJ9, hL9, hS9⟩ | hG; exact Or.inl ⟨rfl, L9, e9, hJ9.symm.trans (rJ_end (Or.inl (by omega))), hb9, _, _, hS9, hL9⟩; exact Or.inr hG), hfr⟩
      · skip
        obtain ⟨-, ⟨b9a, b9b, b9c⟩, hJ9, hL9, hS9⟩ := hG.resolve_right (fun q => absurd q.1 (by omega))
        obtain ⟨wt, w0, w1, w2, w3, w4⟩ := id hS9
        have kr9 := kr e9 (by omega) (by omega)
        have hen9 : kd e9 ≠ 0 → e9 ≠ n := fun q e => by rw [e] at q; omega
        refine q_blk (lv2 := [(0, vr t), (1, vi 4), (2, vi g), (3, vi i)]) (st2 := [vr t]) kX6_readTerm_19 rfl ?_
        refine q_Vi (av := []) (st := []) (c_X6_kindHere ⟨_, w0, w1, w2, w3, w4⟩ (by omega) (by omega)) lk_RX6_70 (by decide) rfl rfl ⟨_, _, _, w0⟩ ⟨_, rfl, rfl⟩ (Nat.le_of_ble_eq_true rfl) eX6_readTerm_20 (fun z71 e72 => ?_)
        subst e72
        refine q_blk (lv2 := [(0, vr t), (1, vi 4), (2, vi g), (3, vi i), (4, vi (kd e9))]) (st2 := [vi 42, vi (kd e9)]) kX6_readTerm_23 rfl ?_
        refine AQ.ic_eq (tgt := 41) eX6_readTerm_29 (by decide) (by first | assumption | exact ⟨by omega, by omega⟩) ⟨by decide, by decide⟩ (fun br73 => ?_) (fun br73 => ?_)
        · skip
          refine q_blk (lv2 := [(0, vr t), (1, vi 4), (2, vi g), (3, vi i), (4, vi (kd e9))]) (st2 := [vr t, vr t]) kX6_readTerm_41 rfl ?_
          refine q_gi eX6_readTerm_43 fl_RX6_28 (Or.inl rfl) w0 (z := e9) rfl ?_
          refine q_blk (lv2 := [(0, vr t), (1, vi 4), (2, vi g), (3, vi i), (4, vi (kd e9))]) (st2 := [vi (e9 + 1), vr t]) kX6_readTerm_46 rfl ?_
          refine q_pi eX6_readTerm_48 fl_RX6_28 (fun q hq => by cases hq; exact Or.inl rfl) (Or.inl rfl) w0 (Nat.le_of_ble_eq_true rfl) (l2 := [0, 0, 0, 0, 0, 0, 0, wt, (e9 + 1), v9, px, (L9.length : Int), hs, er, ea]) rfl (fun h74 e75 => ?_)
          have k76 := am_at e75
          have k77 := (am_ne e75 (t + 1) (by omega)).trans w1
          have k78 := (am_ne e75 (t + 2) (by omega)).trans w2
          have k79 := (am_ne e75 (t + 3) (by omega)).trans w3
          have k80 := (am_ne e75 (t + 4) (by omega)).trans w4
          refine q_blk (lv2 := [(0, vr t), (1, vi 4), (2, vi g), (3, vi i), (4, vi (kd e9))]) (st2 := [vi 4, vr t]) kX6_readTerm_51 rfl ?_
          refine AQ.callVi (av := [vi 4]) (st := []) (c_X6_readFactor4 (L := L9) ⟨_, k76, k77, k78, k79, k80⟩ n0 kn (by omega) (by omega) kr vq hL9 (by omega)) lk_RX6_233 (by decide) rfl rfl ⟨_, _, _, k76⟩ ⟨_, rfl, rfl⟩ (Nat.le_of_ble_eq_true rfl) eX6_readTerm_53 (fun z81 h83 e82 => ?_)
          rcases e82 with ⟨⟨rfl, Lh83, hh83e, qh83, ⟨bh83a, bh83b, bh83c⟩, hh83n, hh83c, Xh83, Ch83⟩ | ⟨rfl, eh83, ah83, qh83, Xh83⟩, Fh83⟩
          · skip
            obtain ⟨g84t, g840, g841, g842, g843, g844⟩ := id Xh83
            refine q_blk (lv2 := [(0, vr t), (1, vi 4), (2, vi 1), (3, vi i), (4, vi (kd e9))]) (st2 := [vi 42, vi (kd e9), vr t]) kX6_readTerm_56 rfl ?_
            refine AQ.ic_ne (tgt := 70) eX6_readTerm_62 (by decide) (by first | assumption | exact ⟨by omega, by omega⟩) ⟨by decide, by decide⟩ (fun br85 => ?_) (fun br85 => ?_)
            · skip
              refine q_blk (lv2 := [(0, vr t), (1, vi 4), (2, vi 1), (3, vi i), (4, vi (kd e9))]) (st2 := [vi (-9), vr t]) kX6_readTerm_70 rfl ?_
              refine AQ.callVv (av := [vi (-9)]) (st := []) (c_X6_addCode (v := (-9)) ⟨_, g840, g841, g842, g843, g844⟩ (by omega) (by omega)) lk_RX6_230 (by decide) rfl rfl ⟨_, _, _, g840⟩ ⟨_, rfl, rfl⟩ (Nat.le_of_ble_eq_true rfl) eX6_readTerm_72 (fun h88 e87 => ?_)
              obtain ⟨Xh88, Fh88⟩ := e87
              obtain ⟨g89t, g890, g891, g892, g893, g894⟩ := id Xh88
              refine q_blk (lv2 := [(0, vr t), (1, vi 4), (2, vi 1), (3, vi (i + 1)), (4, vi (kd e9))]) (st2 := []) kX6_readTerm_75 rfl ?_
              refine q_goto (tgt := 8) eX6_readTerm_78 (by decide) ?_
              refine q_sub (lv2 := [(0, vr t), (1, vi 4), (2, vi 1), (3, vi (i + 1))]) [0, 1, 2, 3] rfl ?_
              exact ih67 1 (i + 1) h88 (Lh83 ++ [(5, 0)]) hh83e hh83n (am_uI hh83c (Lh83.length : Int) (-9)) (⟨⟨by omega, by omega⟩, hfr.tr (((am_fr.rf.tr (am_fr.st e75 (by omega) (by omega))).tr Fh83).tr Fh88), Or.inl ⟨rfl, ⟨by omega, by omega, by simp; omega⟩, by rw [show 800 - (i + 1).toNat = 800 - i.toNat - 1 by omega]; exact (rJ_go (o := 5) (by omega) (by omega) qh83).symm.trans hJ9, Ch83.add (by unfold gm_en; simp), SU.cast ⟨_, g890, g891, g892, g893, g894⟩ (by simp)⟩⟩) (by omega)
            · skip
              refine q_blk (lv2 := [(0, vr t), (1, vi 4), (2, vi 1), (3, vi i), (4, vi (kd e9))]) (st2 := [vi (-8), vr t]) kX6_readTerm_65 rfl ?_
              refine q_goto (tgt := 72) eX6_readTerm_67 (by decide) ?_
              refine AQ.callVv (av := [vi (-8)]) (st := []) (c_X6_addCode (v := (-8)) ⟨_, g840, g841, g842, g843, g844⟩ (by omega) (by omega)) lk_RX6_230 (by decide) rfl rfl ⟨_, _, _, g840⟩ ⟨_, rfl, rfl⟩ (Nat.le_of_ble_eq_true rfl) eX6_readTerm_72 (fun h92 e91 => ?_)
              obtain ⟨Xh92, Fh92⟩ := e91
              obtain ⟨g93t, g930, g931, g932, g933, g934⟩ := id Xh92
              refine q_blk (lv2 := [(0, vr t), (1, vi 4), (2, vi 1), (3, vi (i + 1)), (4, vi (kd e9))]) (st2 := []) kX6_readTerm_75 rfl ?_
              refine q_goto (tgt := 8) eX6_readTerm_78 (by decide) ?_
              refine q_sub (lv2 := [(0, vr t), (1, vi 4), (2, vi 1), (3, vi (i + 1))]) [0, 1, 2, 3] rfl ?_
              exact ih67 1 (i + 1) h92 (Lh83 ++ [(4, 0)]) hh83e hh83n (am_uI hh83c (Lh83.length : Int) (-8)) (⟨⟨by omega, by omega⟩, hfr.tr (((am_fr.rf.tr (am_fr.st e75 (by omega) (by omega))).tr Fh83).tr Fh92), Or.inl ⟨rfl, ⟨by omega, by omega, by simp; omega⟩, by rw [show 800 - (i + 1).toNat = 800 - i.toNat - 1 by omega]; exact (rJ_go (o := 4) (by omega) (by omega) qh83).symm.trans hJ9, Ch83.add (by unfold gm_en; simp), SU.cast ⟨_, g930, g931, g932, g933, g934⟩ (by simp)⟩⟩) (by omega)
          · skip
            refine q_blk (lv2 := [(0, vr t), (1, vi 4), (2, vi 0), (3, vi i), (4, vi (kd e9))]) (st2 := [vi 42, vi (kd e9), vr t]) kX6_readTerm_56 rfl ?_
            refine AQ.ic_ne (tgt := 70) eX6_readTerm_62 (by decide) (by first | assumption | exact ⟨by omega, by omega⟩) ⟨by decide, by decide⟩ (fun br94 => ?_) (fun br94 => ?_)
            · skip
              refine q_blk (lv2 := [(0, vr t), (1, vi 4), (2, vi 0), (3, vi i), (4, vi (kd e9))]) (st2 := [vi (-9), vr t]) kX6_readTerm_70 rfl ?_
              refine AQ.callVv (av := [vi (-9)]) (st := []) (c_X6_addCodeF Xh83 (v := (-9))) lk_RX6_230 (by decide) rfl rfl (SF.ob Xh83) ⟨_, rfl, rfl⟩ (Nat.le_of_ble_eq_true rfl) eX6_readTerm_72 (fun h97 e96 => ?_)
              obtain ⟨Xh97, Fh97⟩ := e96
              refine q_blk (lv2 := [(0, vr t), (1, vi 4), (2, vi 0), (3, vi (i + 1)), (4, vi (kd e9))]) (st2 := []) kX6_readTerm_75 rfl ?_
              refine q_goto (tgt := 8) eX6_readTerm_78 (by decide) ?_
              refine q_sub (lv2 := [(0, vr t), (1, vi 4), (2, vi 0), (3, vi (i + 1))]) [0, 1, 2, 3] rfl ?_
              exact ih67 0 (i + 1) h97 L 0 0 cd (⟨⟨by omega, by omega⟩, hfr.tr (((am_fr.rf.tr (am_fr.st e75 (by omega) (by omega))).tr Fh83).tr Fh97), Or.inr ⟨rfl, _, _, hJ9.symm.trans (rJ_no (by omega) (by omega) qh83), Xh97⟩⟩) (by omega)
            · skip
              refine q_blk (lv2 := [(0, vr t), (1, vi 4), (2, vi 0), (3, vi i), (4, vi (kd e9))]) (st2 := [vi (-8), vr t]) kX6_readTerm_65 rfl ?_
              refine q_goto (tgt := 72) eX6_readTerm_67 (by decide) ?_
              refine AQ.callVv (av := [vi (-8)]) (st := []) (c_X6_addCodeF Xh83 (v := (-8))) lk_RX6_230 (by decide) rfl rfl (SF.ob Xh83) ⟨_, rfl, rfl⟩ (Nat.le_of_ble_eq_true rfl) eX6_readTerm_72 (fun h100 e99 => ?_)
              obtain ⟨Xh100, Fh100⟩ := e99
              refine q_blk (lv2 := [(0, vr t), (1, vi 4), (2, vi 0), (3, vi (i + 1)), (4, vi (kd e9))]) (st2 := []) kX6_readTerm_75 rfl ?_
              refine q_goto (tgt := 8) eX6_readTerm_78 (by decide) ?_
              refine q_sub (lv2 := [(0, vr t), (1, vi 4), (2, vi 0), (3, vi (i + 1))]) [0, 1, 2, 3] rfl ?_
              exact ih67 0 (i + 1) h100 L 0 0 cd (⟨⟨by omega, by omega⟩, hfr.tr (((am_fr.rf.tr (am_fr.st e75 (by omega) (by omega))).tr Fh83).tr Fh100), Or.inr ⟨rfl, _, _, hJ9.symm.trans (rJ_no (by omega) (by omega) qh83), Xh100⟩⟩) (by omega)
        · skip
          refine q_blk (lv2 := [(0, vr t), (1, vi 4), (2, vi g), (3, vi i), (4, vi (kd e9))]) (st2 := [vi 47, vi (kd e9)]) kX6_readTerm_32 rfl ?_
          refine AQ.ic_eq (tgt := 41) eX6_readTerm_36 (by decide) (by first | assumption | exact ⟨by omega, by omega⟩) ⟨by decide, by decide⟩ (fun br101 => ?_) (fun br101 => ?_)
          · skip
            refine q_blk (lv2 := [(0, vr t), (1, vi 4), (2, vi g), (3, vi i), (4, vi (kd e9))]) (st2 := [vr t, vr t]) kX6_readTerm_41 rfl ?_
            refine q_gi eX6_readTerm_43 fl_RX6_28 (Or.inl rfl) w0 (z := e9) rfl ?_
            refine q_blk (lv2 := [(0, vr t), (1, vi 4), (2, vi g), (3, vi i), (4, vi (kd e9))]) (st2 := [vi (e9 + 1), vr t]) kX6_readTerm_46 rfl ?_
            refine q_pi eX6_readTerm_48 fl_RX6_28 (fun q hq => by cases hq; exact Or.inl rfl) (Or.inl rfl) w0 (Nat.le_of_ble_eq_true rfl) (l2 := [0, 0, 0, 0, 0, 0, 0, wt, (e9 + 1), v9, px, (L9.length : Int), hs, er, ea]) rfl (fun h102 e103 => ?_)
            have k104 := am_at e103
            have k105 := (am_ne e103 (t + 1) (by omega)).trans w1
            have k106 := (am_ne e103 (t + 2) (by omega)).trans w2
            have k107 := (am_ne e103 (t + 3) (by omega)).trans w3
            have k108 := (am_ne e103 (t + 4) (by omega)).trans w4
            refine q_blk (lv2 := [(0, vr t), (1, vi 4), (2, vi g), (3, vi i), (4, vi (kd e9))]) (st2 := [vi 4, vr t]) kX6_readTerm_51 rfl ?_
            refine AQ.callVi (av := [vi 4]) (st := []) (c_X6_readFactor4 (L := L9) ⟨_, k104, k105, k106, k107, k108⟩ n0 kn (by omega) (by omega) kr vq hL9 (by omega)) lk_RX6_233 (by decide) rfl rfl ⟨_, _, _, k104⟩ ⟨_, rfl, rfl⟩ (Nat.le_of_ble_eq_true rfl) eX6_readTerm_53 (fun z109 h111 e110 => ?_)
            rcases e110 with ⟨⟨rfl, Lh111, hh111e, qh111, ⟨bh111a, bh111b, bh111c⟩, hh111n, hh111c, Xh111, Ch111⟩ | ⟨rfl, eh111, ah111, qh111, Xh111⟩, Fh111⟩
            · skip
              obtain ⟨g112t, g1120, g1121, g1122, g1123, g1124⟩ := id Xh111
              refine q_blk (lv2 := [(0, vr t), (1, vi 4), (2, vi 1), (3, vi i), (4, vi (kd e9))]) (st2 := [vi 42, vi (kd e9), vr t]) kX6_readTerm_56 rfl ?_
              refine AQ.ic_ne (tgt := 70) eX6_readTerm_62 (by decide) (by first | assumption | exact ⟨by omega, by omega⟩) ⟨by decide, by decide⟩ (fun br113 => ?_) (fun br113 => ?_)
              · skip
                refine q_blk (lv2 := [(0, vr t), (1, vi 4), (2, vi 1), (3, vi i), (4, vi (kd e9))]) (st2 := [vi (-9), vr t]) kX6_readTerm_70 rfl ?_
                refine AQ.callVv (av := [vi (-9)]) (st := []) (c_X6_addCode (v := (-9)) ⟨_, g1120, g1121, g1122, g1123, g1124⟩ (by omega) (by omega)) lk_RX6_230 (by decide) rfl rfl ⟨_, _, _, g1120⟩ ⟨_, rfl, rfl⟩ (Nat.le_of_ble_eq_true rfl) eX6_readTerm_72 (fun h116 e115 => ?_)
                obtain ⟨Xh116, Fh116⟩ := e115
                obtain ⟨g117t, g1170, g1171, g1172, g1173, g1174⟩ := id Xh116
                refine q_blk (lv2 := [(0, vr t), (1, vi 4), (2, vi 1), (3, vi (i + 1)), (4, vi (kd e9))]) (st2 := []) kX6_readTerm_75 rfl ?_
                refine q_goto (tgt := 8) eX6_readTerm_78 (by decide) ?_
                refine q_sub (lv2 := [(0, vr t), (1, vi 4), (2, vi 1), (3, vi (i + 1))]) [0, 1, 2, 3] rfl ?_
                exact ih67 1 (i + 1) h116 (Lh111 ++ [(5, 0)]) hh111e hh111n (am_uI hh111c (Lh111.length : Int) (-9)) (⟨⟨by omega, by omega⟩, hfr.tr (((am_fr.rf.tr (am_fr.st e103 (by omega) (by omega))).tr Fh111).tr Fh116), Or.inl ⟨rfl, ⟨by omega, by omega, by simp; omega⟩, by rw [show 800 - (i + 1).toNat = 800 - i.toNat - 1 by omega]; exact (rJ_go (o := 5) (by omega) (by omega) qh111).symm.trans hJ9, Ch111.add (by unfold gm_en; simp), SU.cast ⟨_, g1170, g1171, g1172, g1173, g1174⟩ (by simp)⟩⟩) (by omega)
              · skip
                refine q_blk (lv2 := [(0, vr t), (1, vi 4), (2, vi 1), (3, vi i), (4, vi (kd e9))]) (st2 := [vi (-8), vr t]) kX6_readTerm_65 rfl ?_
                refine q_goto (tgt := 72) eX6_readTerm_67 (by decide) ?_
                refine AQ.callVv (av := [vi (-8)]) (st := []) (c_X6_addCode (v := (-8)) ⟨_, g1120, g1121, g1122, g1123, g1124⟩ (by omega) (by omega)) lk_RX6_230 (by decide) rfl rfl ⟨_, _, _, g1120⟩ ⟨_, rfl, rfl⟩ (Nat.le_of_ble_eq_true rfl) eX6_readTerm_72 (fun h120 e119 => ?_)
                obtain ⟨Xh120, Fh120⟩ := e119
                obtain ⟨g121t, g1210, g1211, g1212, g1213, g1214⟩ := id Xh120
                refine q_blk (lv2 := [(0, vr t), (1, vi 4), (2, vi 1), (3, vi (i + 1)), (4, vi (kd e9))]) (st2 := []) kX6_readTerm_75 rfl ?_
                refine q_goto (tgt := 8) eX6_readTerm_78 (by decide) ?_
                refine q_sub (lv2 := [(0, vr t), (1, vi 4), (2, vi 1), (3, vi (i + 1))]) [0, 1, 2, 3] rfl ?_
                exact ih67 1 (i + 1) h120 (Lh111 ++ [(4, 0)]) hh111e hh111n (am_uI hh111c (Lh111.length : Int) (-8)) (⟨⟨by omega, by omega⟩, hfr.tr (((am_fr.rf.tr (am_fr.st e103 (by omega) (by omega))).tr Fh111).tr Fh120), Or.inl ⟨rfl, ⟨by omega, by omega, by simp; omega⟩, by rw [show 800 - (i + 1).toNat = 800 - i.toNat - 1 by omega]; exact (rJ_go (o := 4) (by omega) (by omega) qh111).symm.trans hJ9, Ch111.add (by unfold gm_en; simp), SU.cast ⟨_, g1210, g1211, g1212, g1213, g1214⟩ (by simp)⟩⟩) (by omega)
            · skip
              refine q_blk (lv2 := [(0, vr t), (1, vi 4), (2, vi 0), (3, vi i), (4, vi (kd e9))]) (st2 := [vi 42, vi (kd e9), vr t]) kX6_readTerm_56 rfl ?_
              refine AQ.ic_ne (tgt := 70) eX6_readTerm_62 (by decide) (by first | assumption | exact ⟨by omega, by omega⟩) ⟨by decide, by decide⟩ (fun br122 => ?_) (fun br122 => ?_)
              · skip
                refine q_blk (lv2 := [(0, vr t), (1, vi 4), (2, vi 0), (3, vi i), (4, vi (kd e9))]) (st2 := [vi (-9), vr t]) kX6_readTerm_70 rfl ?_
                refine AQ.callVv (av := [vi (-9)]) (st := []) (c_X6_addCodeF Xh111 (v := (-9))) lk_RX6_230 (by decide) rfl rfl (SF.ob Xh111) ⟨_, rfl, rfl⟩ (Nat.le_of_ble_eq_true rfl) eX6_readTerm_72 (fun h125 e124 => ?_)
                obtain ⟨Xh125, Fh125⟩ := e124
                refine q_blk (lv2 := [(0, vr t), (1, vi 4), (2, vi 0), (3, vi (i + 1)), (4, vi (kd e9))]) (st2 := []) kX6_readTerm_75 rfl ?_
                refine q_goto (tgt := 8) eX6_readTerm_78 (by decide) ?_
                refine q_sub (lv2 := [(0, vr t), (1, vi 4), (2, vi 0), (3, vi (i + 1))]) [0, 1, 2, 3] rfl ?_
                exact ih67 0 (i + 1) h125 L 0 0 cd (⟨⟨by omega, by omega⟩, hfr.tr (((am_fr.rf.tr (am_fr.st e103 (by omega) (by omega))).tr Fh111).tr Fh125), Or.inr ⟨rfl, _, _, hJ9.symm.trans (rJ_no (by omega) (by omega) qh111), Xh125⟩⟩) (by omega)
              · skip
                refine q_blk (lv2 := [(0, vr t), (1, vi 4), (2, vi 0), (3, vi i), (4, vi (kd e9))]) (st2 := [vi (-8), vr t]) kX6_readTerm_65 rfl ?_
                refine q_goto (tgt := 72) eX6_readTerm_67 (by decide) ?_
                refine AQ.callVv (av := [vi (-8)]) (st := []) (c_X6_addCodeF Xh111 (v := (-8))) lk_RX6_230 (by decide) rfl rfl (SF.ob Xh111) ⟨_, rfl, rfl⟩ (Nat.le_of_ble_eq_true rfl) eX6_readTerm_72 (fun h128 e127 => ?_)
                obtain ⟨Xh128, Fh128⟩ := e127
                refine q_blk (lv2 := [(0, vr t), (1, vi 4), (2, vi 0), (3, vi (i + 1)), (4, vi (kd e9))]) (st2 := []) kX6_readTerm_75 rfl ?_
                refine q_goto (tgt := 8) eX6_readTerm_78 (by decide) ?_
                refine q_sub (lv2 := [(0, vr t), (1, vi 4), (2, vi 0), (3, vi (i + 1))]) [0, 1, 2, 3] rfl ?_
                exact ih67 0 (i + 1) h128 L 0 0 cd (⟨⟨by omega, by omega⟩, hfr.tr (((am_fr.rf.tr (am_fr.st e103 (by omega) (by omega))).tr Fh111).tr Fh128), Or.inr ⟨rfl, _, _, hJ9.symm.trans (rJ_no (by omega) (by omega) qh111), Xh128⟩⟩) (by omega)
          · skip
            refine q_blk (lv2 := [(0, vr t), (1, vi 4), (2, vi g), (3, vi i), (4, vi (kd e9))]) (st2 := [vi 1]) kX6_readTerm_39 rfl ?_
            exact q_rz rfl eX6_readTerm_40 (by decide) ⟨1, rfl, Or.inl ⟨rfl, L9, e9, hJ9.symm.trans (rJ_end (Or.inr ⟨by omega, by omega⟩)), ⟨by omega, by omega, by omega⟩, _, _, ⟨_, w0, w1, w2, w3, w4⟩, hL9⟩, hfr.tr am_fr.rf⟩

set_option maxHeartbeats 1000000 in
theorem c_X6_readSum4 {w : am_w} {h : AH} {L : GL} {t u b j : Nat} {kd st vl : Int → Int} {he nu px hs er ea : Int} {cd : Int → Int} (hS : SU h t u b j kd st vl he nu px (L.length : Int) hs er ea cd) {n : Int} (n0 : n ≤ 800) (kn : kd n = 0) (he0 : 0 ≤ he) (he1 : he ≤ n) (kr : ∀ i, 0 ≤ i → i < 801 → -5 ≤ kd i ∧ kd i ≤ 100) (vq : ∀ i, 0 ≤ i → i < 801 → 0 ≤ vl i ∧ vl i ≤ 10000) (hL : CL cd L) (hl : (L.length : Int) ≤ he)  : AE w m_X6_readSum 6 [vr t, vi 4] h (am_int (fun z h1 => ((z = 1 ∧ ∃ L' he', rU kd st vl 0 L he = .inr (L', he') ∧ (he < he' ∧ he' ≤ n ∧ (L'.length : Int) ≤ (L.length : Int) + (he' - he)) ∧ ∃ nu' cd', SU h1 t u b j kd st vl he' nu' px (L'.length : Int) hs er ea cd' ∧ CL cd' L') ∨ (z = 0 ∧ ∃ e a, rU kd st vl 0 L he = .inl (e, a) ∧ SF h1 t u b j kd st vl e a)) ∧ am_fr h h1 t (t + 5))) := by
  refine AE.of wf_X6_readSum (Nat.le_of_ble_eq_true rfl) (am_ok_z (fun z h1 q => by rcases q.1 with q | q; exact Or.inr q.1; exact Or.inl q.1)) ?_
  obtain ⟨tc, c0, c1, c2, c3, c4⟩ := id hS
  have kr1 := kr he he0 (by omega)
  have vr1 := vq he he0 (by omega)
  have hen : kd he ≠ 0 → he ≠ n := fun q e9 => by rw [e9] at q; omega
  refine q_blk (lv2 := [(0, vr t), (1, vi 4)]) (st2 := [vi 4, vr t]) kX6_readSum_0 rfl ?_
  refine AQ.callVi (av := [vi 4]) (st := []) (c_X6_readTerm4 (L := L) ⟨_, c0, c1, c2, c3, c4⟩ n0 kn (by omega) (by omega) kr vq hL (by omega)) lk_RX6_227 (by decide) rfl rfl ⟨_, _, _, c0⟩ ⟨_, rfl, rfl⟩ (Nat.le_of_ble_eq_true rfl) eX6_readSum_2 (fun z1 h3 e2 => ?_)
  rcases e2 with ⟨⟨rfl, Lh3, hh3e, qh3, ⟨bh3a, bh3b, bh3c⟩, hh3n, hh3c, Xh3, Ch3⟩ | ⟨rfl, eh3, ah3, qh3, Xh3⟩, Fh3⟩
  · skip
    obtain ⟨g4t, g40, g41, g42, g43, g44⟩ := id Xh3
    refine q_blk (lv2 := [(0, vr t), (1, vi 4), (2, vi 1), (3, vi 0)]) (st2 := []) kX6_readSum_5 rfl ?_
    refine am_lp7 (I := fun (g : Int) (i : Int) (hh : AH) (L9 : GL) (e9 : Int) (v9 : Int) (c9 : Int → Int) => (0 ≤ i ∧ i ≤ 800) ∧ am_fr h hh t (t + 5) ∧ ((g = 1 ∧ (he < e9 ∧ e9 ≤ n ∧ (L9.length : Int) ≤ (L.length : Int) + (e9 - he)) ∧ rJ kd (rM kd st vl none) 43 45 2 3 (800 - i.toNat) L9 e9 = rU kd st vl 0 L he ∧ CL c9 L9 ∧ SU hh t u b j kd st vl e9 v9 px (L9.length : Int) hs er ea c9) ∨ (g = 0 ∧ ∃ e a, rU kd st vl 0 L he = .inl (e, a) ∧ SF hh t u b j kd st vl e a))) (μ := fun (g : Int) (i : Int) (hh : AH) (L9 : GL) (e9 : Int) (v9 : Int) (c9 : Int → Int) => (800 - i).toNat) (G := fun (g : Int) (i : Int) (hh : AH) (L9 : GL) (e9 : Int) (v9 : Int) (c9 : Int → Int) => AQ w m_X6_readSum 6 8 [(0, vr t), (1, vi 4), (2, vi g), (3, vi i)] [] hh (am_int (fun z h1 => ((z = 1 ∧ ∃ L' he', rU kd st vl 0 L he = .inr (L', he') ∧ (he < he' ∧ he' ≤ n ∧ (L'.length : Int) ≤ (L.length : Int) + (he' - he)) ∧ ∃ nu' cd', SU h1 t u b j kd st vl he' nu' px (L'.length : Int) hs er ea cd' ∧ CL cd' L') ∨ (z = 0 ∧ ∃ e a, rU kd st vl 0 L he = .inl (e, a) ∧ SF h1 t u b j kd st vl e a)) ∧ am_fr h h1 t (t + 5)))) ?_ 1 0 h3 Lh3 hh3e hh3n hh3c (⟨⟨by omega, by omega⟩, (am_fr.rf.tr Fh3), Or.inl ⟨rfl, ⟨by omega, by omega, by omega⟩, by rw [show (800 - (0 : Int).toNat : Nat) = 800 from rfl]; rw [rU_0]; rw [rB_r qh3], Ch3, ⟨_, g40, g41, g42, g43, g44⟩⟩⟩)
    intro g i hh L9 e9 v9 c9 hI6 ih5
    obtain ⟨⟨i0, i1⟩, hfr, hG⟩ := hI6
    have hg9 : g = 0 ∨ g = 1 := by rcases hG with q | q; exact Or.inr q.1; exact Or.inl q.1
    refine q_blk (lv2 := [(0, vr t), (1, vi 4), (2, vi g), (3, vi i)]) (st2 := [vi 800, vi i]) kX6_readSum_8 rfl ?_
    refine AQ.ic_ge (tgt := 81) eX6_readSum_12 (by decide) (by first | assumption | exact ⟨by omega, by omega⟩) ⟨by decide, by decide⟩ (fun br7 => ?_) (fun br7 => ?_)
    · skip
      refine q_blk (lv2 := [(0, vr t), (1, vi 4), (2, vi g), (3, vi i)]) (st2 := [vi g]) kX6_readSum_81 rfl ?_
      exact q_rz rfl eX6_readSum_82 (by omega) ⟨g, rfl, (by rcases hG with ⟨rfl, hb9, hJ9, hL9, hS9⟩ | hG; exact Or.inl ⟨rfl, L9, e9, hJ9.symm.trans (rJ_end (Or.inl (by omega))), hb9, _, _, hS9, hL9⟩; exact Or.inr hG), hfr⟩
    · skip
      refine q_blk (lv2 := [(0, vr t), (1, vi 4), (2, vi g), (3, vi i)]) (st2 := [vi g]) kX6_readSum_15 rfl ?_
      refine AQ.if_eq (tgt := 81) eX6_readSum_16 (by decide) (by first | assumption | exact ⟨by omega, by omega⟩) (fun br8 => ?_) (fun br8 => ?_)
      · skip
        refine q_blk (lv2 := [(0, vr t), (1, vi 4), (2, vi g), (3, vi i)]) (st2 := [vi g]) kX6_readSum_81 rfl ?_
        exact q_rz rfl eX6_readSum_82 (by omega) ⟨g, rfl, (by rcases hG with ⟨rfl, hb9, hJ9, hL9, hS9⟩ | hG; exact Or.inl ⟨rfl, L9, e9, hJ9.symm.trans (rJ_end (Or.inl (by omega))), hb9, _, _, hS9, hL9⟩; exact Or.inr hG), hfr⟩
      · skip
        obtain ⟨-, ⟨b9a, b9b, b9c⟩, hJ9, hL9, hS9⟩ := hG.resolve_right (fun q => absurd q.1 (by omega))
        obtain ⟨wt, w0, w1, w2, w3, w4⟩ := id hS9
        have kr9 := kr e9 (by omega) (by omega)
        have hen9 : kd e9 ≠ 0 → e9 ≠ n := fun q e => by rw [e] at q; omega
        refine q_blk (lv2 := [(0, vr t), (1, vi 4), (2, vi g), (3, vi i)]) (st2 := [vr t]) kX6_readSum_19 rfl ?_
        refine q_Vi (av := []) (st := []) (c_X6_kindHere ⟨_, w0, w1, w2, w3, w4⟩ (by omega) (by omega)) lk_RX6_70 (by decide) rfl rfl ⟨_, _, _, w0⟩ ⟨_, rfl, rfl⟩ (Nat.le_of_ble_eq_true rfl) eX6_readSum_20 (fun z9 e10 => ?_)
        subst e10
        refine q_blk (lv2 := [(0, vr t), (1, vi 4), (2, vi g), (3, vi i), (4, vi (kd e9))]) (st2 := [vi 43, vi (kd e9)]) kX6_readSum_23 rfl ?_
        refine AQ.ic_eq (tgt := 41) eX6_readSum_29 (by decide) (by first | assumption | exact ⟨by omega, by omega⟩) ⟨by decide, by decide⟩ (fun br11 => ?_) (fun br11 => ?_)
        · skip
          refine q_blk (lv2 := [(0, vr t), (1, vi 4), (2, vi g), (3, vi i), (4, vi (kd e9))]) (st2 := [vr t, vr t]) kX6_readSum_41 rfl ?_
          refine q_gi eX6_readSum_43 fl_RX6_28 (Or.inl rfl) w0 (z := e9) rfl ?_
          refine q_blk (lv2 := [(0, vr t), (1, vi 4), (2, vi g), (3, vi i), (4, vi (kd e9))]) (st2 := [vi (e9 + 1), vr t]) kX6_readSum_46 rfl ?_
          refine q_pi eX6_readSum_48 fl_RX6_28 (fun q hq => by cases hq; exact Or.inl rfl) (Or.inl rfl) w0 (Nat.le_of_ble_eq_true rfl) (l2 := [0, 0, 0, 0, 0, 0, 0, wt, (e9 + 1), v9, px, (L9.length : Int), hs, er, ea]) rfl (fun h12 e13 => ?_)
          have k14 := am_at e13
          have k15 := (am_ne e13 (t + 1) (by omega)).trans w1
          have k16 := (am_ne e13 (t + 2) (by omega)).trans w2
          have k17 := (am_ne e13 (t + 3) (by omega)).trans w3
          have k18 := (am_ne e13 (t + 4) (by omega)).trans w4
          refine q_blk (lv2 := [(0, vr t), (1, vi 4), (2, vi g), (3, vi i), (4, vi (kd e9))]) (st2 := [vi 4, vr t]) kX6_readSum_51 rfl ?_
          refine AQ.callVi (av := [vi 4]) (st := []) (c_X6_readTerm4 (L := L9) ⟨_, k14, k15, k16, k17, k18⟩ n0 kn (by omega) (by omega) kr vq hL9 (by omega)) lk_RX6_227 (by decide) rfl rfl ⟨_, _, _, k14⟩ ⟨_, rfl, rfl⟩ (Nat.le_of_ble_eq_true rfl) eX6_readSum_53 (fun z19 h21 e20 => ?_)
          rcases e20 with ⟨⟨rfl, Lh21, hh21e, qh21, ⟨bh21a, bh21b, bh21c⟩, hh21n, hh21c, Xh21, Ch21⟩ | ⟨rfl, eh21, ah21, qh21, Xh21⟩, Fh21⟩
          · skip
            obtain ⟨g22t, g220, g221, g222, g223, g224⟩ := id Xh21
            refine q_blk (lv2 := [(0, vr t), (1, vi 4), (2, vi 1), (3, vi i), (4, vi (kd e9))]) (st2 := [vi 43, vi (kd e9), vr t]) kX6_readSum_56 rfl ?_
            refine AQ.ic_ne (tgt := 70) eX6_readSum_62 (by decide) (by first | assumption | exact ⟨by omega, by omega⟩) ⟨by decide, by decide⟩ (fun br23 => ?_) (fun br23 => ?_)
            · skip
              refine q_blk (lv2 := [(0, vr t), (1, vi 4), (2, vi 1), (3, vi i), (4, vi (kd e9))]) (st2 := [vi (-7), vr t]) kX6_readSum_70 rfl ?_
              refine AQ.callVv (av := [vi (-7)]) (st := []) (c_X6_addCode (v := (-7)) ⟨_, g220, g221, g222, g223, g224⟩ (by omega) (by omega)) lk_RX6_230 (by decide) rfl rfl ⟨_, _, _, g220⟩ ⟨_, rfl, rfl⟩ (Nat.le_of_ble_eq_true rfl) eX6_readSum_72 (fun h26 e25 => ?_)
              obtain ⟨Xh26, Fh26⟩ := e25
              obtain ⟨g27t, g270, g271, g272, g273, g274⟩ := id Xh26
              refine q_blk (lv2 := [(0, vr t), (1, vi 4), (2, vi 1), (3, vi (i + 1)), (4, vi (kd e9))]) (st2 := []) kX6_readSum_75 rfl ?_
              refine q_goto (tgt := 8) eX6_readSum_78 (by decide) ?_
              refine q_sub (lv2 := [(0, vr t), (1, vi 4), (2, vi 1), (3, vi (i + 1))]) [0, 1, 2, 3] rfl ?_
              exact ih5 1 (i + 1) h26 (Lh21 ++ [(3, 0)]) hh21e hh21n (am_uI hh21c (Lh21.length : Int) (-7)) (⟨⟨by omega, by omega⟩, hfr.tr (((am_fr.rf.tr (am_fr.st e13 (by omega) (by omega))).tr Fh21).tr Fh26), Or.inl ⟨rfl, ⟨by omega, by omega, by simp; omega⟩, by rw [show 800 - (i + 1).toNat = 800 - i.toNat - 1 by omega]; exact (rJ_go (o := 3) (by omega) (by omega) qh21).symm.trans hJ9, Ch21.add (by unfold gm_en; simp), SU.cast ⟨_, g270, g271, g272, g273, g274⟩ (by simp)⟩⟩) (by omega)
            · skip
              refine q_blk (lv2 := [(0, vr t), (1, vi 4), (2, vi 1), (3, vi i), (4, vi (kd e9))]) (st2 := [vi (-6), vr t]) kX6_readSum_65 rfl ?_
              refine q_goto (tgt := 72) eX6_readSum_67 (by decide) ?_
              refine AQ.callVv (av := [vi (-6)]) (st := []) (c_X6_addCode (v := (-6)) ⟨_, g220, g221, g222, g223, g224⟩ (by omega) (by omega)) lk_RX6_230 (by decide) rfl rfl ⟨_, _, _, g220⟩ ⟨_, rfl, rfl⟩ (Nat.le_of_ble_eq_true rfl) eX6_readSum_72 (fun h30 e29 => ?_)
              obtain ⟨Xh30, Fh30⟩ := e29
              obtain ⟨g31t, g310, g311, g312, g313, g314⟩ := id Xh30
              refine q_blk (lv2 := [(0, vr t), (1, vi 4), (2, vi 1), (3, vi (i + 1)), (4, vi (kd e9))]) (st2 := []) kX6_readSum_75 rfl ?_
              refine q_goto (tgt := 8) eX6_readSum_78 (by decide) ?_
              refine q_sub (lv2 := [(0, vr t), (1, vi 4), (2, vi 1), (3, vi (i + 1))]) [0, 1, 2, 3] rfl ?_
              exact ih5 1 (i + 1) h30 (Lh21 ++ [(2, 0)]) hh21e hh21n (am_uI hh21c (Lh21.length : Int) (-6)) (⟨⟨by omega, by omega⟩, hfr.tr (((am_fr.rf.tr (am_fr.st e13 (by omega) (by omega))).tr Fh21).tr Fh30), Or.inl ⟨rfl, ⟨by omega, by omega, by simp; omega⟩, by rw [show 800 - (i + 1).toNat = 800 - i.toNat - 1 by omega]; exact (rJ_go (o := 2) (by omega) (by omega) qh21).symm.trans hJ9, Ch21.add (by unfold gm_en; simp), SU.cast ⟨_, g310, g311, g312, g313, g314⟩ (by simp)⟩⟩) (by omega)
          · skip
            refine q_blk (lv2 := [(0, vr t), (1, vi 4), (2, vi 0), (3, vi i), (4, vi (kd e9))]) (st2 := [vi 43, vi (kd e9), vr t]) kX6_readSum_56 rfl ?_
            refine AQ.ic_ne (tgt := 70) eX6_readSum_62 (by decide) (by first | assumption | exact ⟨by omega, by omega⟩) ⟨by decide, by decide⟩ (fun br32 => ?_) (fun br32 => ?_)
            · skip
              refine q_blk (lv2 := [(0, vr t), (1, vi 4), (2, vi 0), (3, vi i), (4, vi (kd e9))]) (st2 := [vi (-7), vr t]) kX6_readSum_70 rfl ?_
              refine AQ.callVv (av := [vi (-7)]) (st := []) (c_X6_addCodeF Xh21 (v := (-7))) lk_RX6_230 (by decide) rfl rfl (SF.ob Xh21) ⟨_, rfl, rfl⟩ (Nat.le_of_ble_eq_true rfl) eX6_readSum_72 (fun h35 e34 => ?_)
              obtain ⟨Xh35, Fh35⟩ := e34
              refine q_blk (lv2 := [(0, vr t), (1, vi 4), (2, vi 0), (3, vi (i + 1)), (4, vi (kd e9))]) (st2 := []) kX6_readSum_75 rfl ?_
              refine q_goto (tgt := 8) eX6_readSum_78 (by decide) ?_
              refine q_sub (lv2 := [(0, vr t), (1, vi 4), (2, vi 0), (3, vi (i + 1))]) [0, 1, 2, 3] rfl ?_
              exact ih5 0 (i + 1) h35 L 0 0 cd (⟨⟨by omega, by omega⟩, hfr.tr (((am_fr.rf.tr (am_fr.st e13 (by omega) (by omega))).tr Fh21).tr Fh35), Or.inr ⟨rfl, _, _, hJ9.symm.trans (rJ_no (by omega) (by omega) qh21), Xh35⟩⟩) (by omega)
            · skip
              refine q_blk (lv2 := [(0, vr t), (1, vi 4), (2, vi 0), (3, vi i), (4, vi (kd e9))]) (st2 := [vi (-6), vr t]) kX6_readSum_65 rfl ?_
              refine q_goto (tgt := 72) eX6_readSum_67 (by decide) ?_
              refine AQ.callVv (av := [vi (-6)]) (st := []) (c_X6_addCodeF Xh21 (v := (-6))) lk_RX6_230 (by decide) rfl rfl (SF.ob Xh21) ⟨_, rfl, rfl⟩ (Nat.le_of_ble_eq_true rfl) eX6_readSum_72 (fun h38 e37 => ?_)
              obtain ⟨Xh38, Fh38⟩ := e37
              refine q_blk (lv2 := [(0, vr t), (1, vi 4), (2, vi 0), (3, vi (i + 1)), (4, vi (kd e9))]) (st2 := []) kX6_readSum_75 rfl ?_
              refine q_goto (tgt := 8) eX6_readSum_78 (by decide) ?_
              refine q_sub (lv2 := [(0, vr t), (1, vi 4), (2, vi 0), (3, vi (i + 1))]) [0, 1, 2, 3] rfl ?_
              exact ih5 0 (i + 1) h38 L 0 0 cd (⟨⟨by omega, by omega⟩, hfr.tr (((am_fr.rf.tr (am_fr.st e13 (by omega) (by omega))).tr Fh21).tr Fh38), Or.inr ⟨rfl, _, _, hJ9.symm.trans (rJ_no (by omega) (by omega) qh21), Xh38⟩⟩) (by omega)
        · skip
          refine q_blk (lv2 := [(0, vr t), (1, vi 4), (2, vi g), (3, vi i), (4, vi (kd e9))]) (st2 := [vi 45, vi (kd e9)]) kX6_readSum_32 rfl ?_
          refine AQ.ic_eq (tgt := 41) eX6_readSum_36 (by decide) (by first | assumption | exact ⟨by omega, by omega⟩) ⟨by decide, by decide⟩ (fun br39 => ?_) (fun br39 => ?_)
          · skip
            refine q_blk (lv2 := [(0, vr t), (1, vi 4), (2, vi g), (3, vi i), (4, vi (kd e9))]) (st2 := [vr t, vr t]) kX6_readSum_41 rfl ?_
            refine q_gi eX6_readSum_43 fl_RX6_28 (Or.inl rfl) w0 (z := e9) rfl ?_
            refine q_blk (lv2 := [(0, vr t), (1, vi 4), (2, vi g), (3, vi i), (4, vi (kd e9))]) (st2 := [vi (e9 + 1), vr t]) kX6_readSum_46 rfl ?_
            refine q_pi eX6_readSum_48 fl_RX6_28 (fun q hq => by cases hq; exact Or.inl rfl) (Or.inl rfl) w0 (Nat.le_of_ble_eq_true rfl) (l2 := [0, 0, 0, 0, 0, 0, 0, wt, (e9 + 1), v9, px, (L9.length : Int), hs, er, ea]) rfl (fun h40 e41 => ?_)
            have k42 := am_at e41
            have k43 := (am_ne e41 (t + 1) (by omega)).trans w1
            have k44 := (am_ne e41 (t + 2) (by omega)).trans w2
            have k45 := (am_ne e41 (t + 3) (by omega)).trans w3
            have k46 := (am_ne e41 (t + 4) (by omega)).trans w4
            refine q_blk (lv2 := [(0, vr t), (1, vi 4), (2, vi g), (3, vi i), (4, vi (kd e9))]) (st2 := [vi 4, vr t]) kX6_readSum_51 rfl ?_
            refine AQ.callVi (av := [vi 4]) (st := []) (c_X6_readTerm4 (L := L9) ⟨_, k42, k43, k44, k45, k46⟩ n0 kn (by omega) (by omega) kr vq hL9 (by omega)) lk_RX6_227 (by decide) rfl rfl ⟨_, _, _, k42⟩ ⟨_, rfl, rfl⟩ (Nat.le_of_ble_eq_true rfl) eX6_readSum_53 (fun z47 h49 e48 => ?_)
            rcases e48 with ⟨⟨rfl, Lh49, hh49e, qh49, ⟨bh49a, bh49b, bh49c⟩, hh49n, hh49c, Xh49, Ch49⟩ | ⟨rfl, eh49, ah49, qh49, Xh49⟩, Fh49⟩
            · skip
              obtain ⟨g50t, g500, g501, g502, g503, g504⟩ := id Xh49
              refine q_blk (lv2 := [(0, vr t), (1, vi 4), (2, vi 1), (3, vi i), (4, vi (kd e9))]) (st2 := [vi 43, vi (kd e9), vr t]) kX6_readSum_56 rfl ?_
              refine AQ.ic_ne (tgt := 70) eX6_readSum_62 (by decide) (by first | assumption | exact ⟨by omega, by omega⟩) ⟨by decide, by decide⟩ (fun br51 => ?_) (fun br51 => ?_)
              · skip
                refine q_blk (lv2 := [(0, vr t), (1, vi 4), (2, vi 1), (3, vi i), (4, vi (kd e9))]) (st2 := [vi (-7), vr t]) kX6_readSum_70 rfl ?_
                refine AQ.callVv (av := [vi (-7)]) (st := []) (c_X6_addCode (v := (-7)) ⟨_, g500, g501, g502, g503, g504⟩ (by omega) (by omega)) lk_RX6_230 (by decide) rfl rfl ⟨_, _, _, g500⟩ ⟨_, rfl, rfl⟩ (Nat.le_of_ble_eq_true rfl) eX6_readSum_72 (fun h54 e53 => ?_)
                obtain ⟨Xh54, Fh54⟩ := e53
                obtain ⟨g55t, g550, g551, g552, g553, g554⟩ := id Xh54
                refine q_blk (lv2 := [(0, vr t), (1, vi 4), (2, vi 1), (3, vi (i + 1)), (4, vi (kd e9))]) (st2 := []) kX6_readSum_75 rfl ?_
                refine q_goto (tgt := 8) eX6_readSum_78 (by decide) ?_
                refine q_sub (lv2 := [(0, vr t), (1, vi 4), (2, vi 1), (3, vi (i + 1))]) [0, 1, 2, 3] rfl ?_
                exact ih5 1 (i + 1) h54 (Lh49 ++ [(3, 0)]) hh49e hh49n (am_uI hh49c (Lh49.length : Int) (-7)) (⟨⟨by omega, by omega⟩, hfr.tr (((am_fr.rf.tr (am_fr.st e41 (by omega) (by omega))).tr Fh49).tr Fh54), Or.inl ⟨rfl, ⟨by omega, by omega, by simp; omega⟩, by rw [show 800 - (i + 1).toNat = 800 - i.toNat - 1 by omega]; exact (rJ_go (o := 3) (by omega) (by omega) qh49).symm.trans hJ9, Ch49.add (by unfold gm_en; simp), SU.cast ⟨_, g550, g551, g552, g553, g554⟩ (by simp)⟩⟩) (by omega)
              · skip
                refine q_blk (lv2 := [(0, vr t), (1, vi 4), (2, vi 1), (3, vi i), (4, vi (kd e9))]) (st2 := [vi (-6), vr t]) kX6_readSum_65 rfl ?_
                refine q_goto (tgt := 72) eX6_readSum_67 (by decide) ?_
                refine AQ.callVv (av := [vi (-6)]) (st := []) (c_X6_addCode (v := (-6)) ⟨_, g500, g501, g502, g503, g504⟩ (by omega) (by omega)) lk_RX6_230 (by decide) rfl rfl ⟨_, _, _, g500⟩ ⟨_, rfl, rfl⟩ (Nat.le_of_ble_eq_true rfl) eX6_readSum_72 (fun h58 e57 => ?_)
                obtain ⟨Xh58, Fh58⟩ := e57
                obtain ⟨g59t, g590, g591, g592, g593, g594⟩ := id Xh58
                refine q_blk (lv2 := [(0, vr t), (1, vi 4), (2, vi 1), (3, vi (i + 1)), (4, vi (kd e9))]) (st2 := []) kX6_readSum_75 rfl ?_
                refine q_goto (tgt := 8) eX6_readSum_78 (by decide) ?_
                refine q_sub (lv2 := [(0, vr t), (1, vi 4), (2, vi 1), (3, vi (i + 1))]) [0, 1, 2, 3] rfl ?_
                exact ih5 1 (i + 1) h58 (Lh49 ++ [(2, 0)]) hh49e hh49n (am_uI hh49c (Lh49.length : Int) (-6)) (⟨⟨by omega, by omega⟩, hfr.tr (((am_fr.rf.tr (am_fr.st e41 (by omega) (by omega))).tr Fh49).tr Fh58), Or.inl ⟨rfl, ⟨by omega, by omega, by simp; omega⟩, by rw [show 800 - (i + 1).toNat = 800 - i.toNat - 1 by omega]; exact (rJ_go (o := 2) (by omega) (by omega) qh49).symm.trans hJ9, Ch49.add (by unfold gm_en; simp), SU.cast ⟨_, g590, g591, g592, g593, g594⟩ (by simp)⟩⟩) (by omega)
            · skip
              refine q_blk (lv2 := [(0, vr t), (1, vi 4), (2, vi 0), (3, vi i), (4, vi (kd e9))]) (st2 := [vi 43, vi (kd e9), vr t]) kX6_readSum_56 rfl ?_
              refine AQ.ic_ne (tgt := 70) eX6_readSum_62 (by decide) (by first | assumption | exact ⟨by omega, by omega⟩) ⟨by decide, by decide⟩ (fun br60 => ?_) (fun br60 => ?_)
              · skip
                refine q_blk (lv2 := [(0, vr t), (1, vi 4), (2, vi 0), (3, vi i), (4, vi (kd e9))]) (st2 := [vi (-7), vr t]) kX6_readSum_70 rfl ?_
                refine AQ.callVv (av := [vi (-7)]) (st := []) (c_X6_addCodeF Xh49 (v := (-7))) lk_RX6_230 (by decide) rfl rfl (SF.ob Xh49) ⟨_, rfl, rfl⟩ (Nat.le_of_ble_eq_true rfl) eX6_readSum_72 (fun h63 e62 => ?_)
                obtain ⟨Xh63, Fh63⟩ := e62
                refine q_blk (lv2 := [(0, vr t), (1, vi 4), (2, vi 0), (3, vi (i + 1)), (4, vi (kd e9))]) (st2 := []) kX6_readSum_75 rfl ?_
                refine q_goto (tgt := 8) eX6_readSum_78 (by decide) ?_
                refine q_sub (lv2 := [(0, vr t), (1, vi 4), (2, vi 0), (3, vi (i + 1))]) [0, 1, 2, 3] rfl ?_
                exact ih5 0 (i + 1) h63 L 0 0 cd (⟨⟨by omega, by omega⟩, hfr.tr (((am_fr.rf.tr (am_fr.st e41 (by omega) (by omega))).tr Fh49).tr Fh63), Or.inr ⟨rfl, _, _, hJ9.symm.trans (rJ_no (by omega) (by omega) qh49), Xh63⟩⟩) (by omega)
              · skip
                refine q_blk (lv2 := [(0, vr t), (1, vi 4), (2, vi 0), (3, vi i), (4, vi (kd e9))]) (st2 := [vi (-6), vr t]) kX6_readSum_65 rfl ?_
                refine q_goto (tgt := 72) eX6_readSum_67 (by decide) ?_
                refine AQ.callVv (av := [vi (-6)]) (st := []) (c_X6_addCodeF Xh49 (v := (-6))) lk_RX6_230 (by decide) rfl rfl (SF.ob Xh49) ⟨_, rfl, rfl⟩ (Nat.le_of_ble_eq_true rfl) eX6_readSum_72 (fun h66 e65 => ?_)
                obtain ⟨Xh66, Fh66⟩ := e65
                refine q_blk (lv2 := [(0, vr t), (1, vi 4), (2, vi 0), (3, vi (i + 1)), (4, vi (kd e9))]) (st2 := []) kX6_readSum_75 rfl ?_
                refine q_goto (tgt := 8) eX6_readSum_78 (by decide) ?_
                refine q_sub (lv2 := [(0, vr t), (1, vi 4), (2, vi 0), (3, vi (i + 1))]) [0, 1, 2, 3] rfl ?_
                exact ih5 0 (i + 1) h66 L 0 0 cd (⟨⟨by omega, by omega⟩, hfr.tr (((am_fr.rf.tr (am_fr.st e41 (by omega) (by omega))).tr Fh49).tr Fh66), Or.inr ⟨rfl, _, _, hJ9.symm.trans (rJ_no (by omega) (by omega) qh49), Xh66⟩⟩) (by omega)
          · skip
            refine q_blk (lv2 := [(0, vr t), (1, vi 4), (2, vi g), (3, vi i), (4, vi (kd e9))]) (st2 := [vi 1]) kX6_readSum_39 rfl ?_
            exact q_rz rfl eX6_readSum_40 (by decide) ⟨1, rfl, Or.inl ⟨rfl, L9, e9, hJ9.symm.trans (rJ_end (Or.inr ⟨by omega, by omega⟩)), ⟨by omega, by omega, by omega⟩, _, _, ⟨_, w0, w1, w2, w3, w4⟩, hL9⟩, hfr.tr am_fr.rf⟩
  · skip
    refine q_blk (lv2 := [(0, vr t), (1, vi 4), (2, vi 0), (3, vi 0)]) (st2 := []) kX6_readSum_5 rfl ?_
    refine am_lp7 (I := fun (g : Int) (i : Int) (hh : AH) (L9 : GL) (e9 : Int) (v9 : Int) (c9 : Int → Int) => (0 ≤ i ∧ i ≤ 800) ∧ am_fr h hh t (t + 5) ∧ ((g = 1 ∧ (he < e9 ∧ e9 ≤ n ∧ (L9.length : Int) ≤ (L.length : Int) + (e9 - he)) ∧ rJ kd (rM kd st vl none) 43 45 2 3 (800 - i.toNat) L9 e9 = rU kd st vl 0 L he ∧ CL c9 L9 ∧ SU hh t u b j kd st vl e9 v9 px (L9.length : Int) hs er ea c9) ∨ (g = 0 ∧ ∃ e a, rU kd st vl 0 L he = .inl (e, a) ∧ SF hh t u b j kd st vl e a))) (μ := fun (g : Int) (i : Int) (hh : AH) (L9 : GL) (e9 : Int) (v9 : Int) (c9 : Int → Int) => (800 - i).toNat) (G := fun (g : Int) (i : Int) (hh : AH) (L9 : GL) (e9 : Int) (v9 : Int) (c9 : Int → Int) => AQ w m_X6_readSum 6 8 [(0, vr t), (1, vi 4), (2, vi g), (3, vi i)] [] hh (am_int (fun z h1 => ((z = 1 ∧ ∃ L' he', rU kd st vl 0 L he = .inr (L', he') ∧ (he < he' ∧ he' ≤ n ∧ (L'.length : Int) ≤ (L.length : Int) + (he' - he)) ∧ ∃ nu' cd', SU h1 t u b j kd st vl he' nu' px (L'.length : Int) hs er ea cd' ∧ CL cd' L') ∨ (z = 0 ∧ ∃ e a, rU kd st vl 0 L he = .inl (e, a) ∧ SF h1 t u b j kd st vl e a)) ∧ am_fr h h1 t (t + 5)))) ?_ 0 0 h3 L 0 0 cd (⟨⟨by omega, by omega⟩, (am_fr.rf.tr Fh3), Or.inr ⟨rfl, _, _, by rw [rU_0]; exact rB_l qh3 _, Xh3⟩⟩)
    intro g i hh L9 e9 v9 c9 hI68 ih67
    obtain ⟨⟨i0, i1⟩, hfr, hG⟩ := hI68
    have hg9 : g = 0 ∨ g = 1 := by rcases hG with q | q; exact Or.inr q.1; exact Or.inl q.1
    refine q_blk (lv2 := [(0, vr t), (1, vi 4), (2, vi g), (3, vi i)]) (st2 := [vi 800, vi i]) kX6_readSum_8 rfl ?_
    refine AQ.ic_ge (tgt := 81) eX6_readSum_12 (by decide) (by first | assumption | exact ⟨by omega, by omega⟩) ⟨by decide, by decide⟩ (fun br69 => ?_) (fun br69 => ?_)
    · skip
      refine q_blk (lv2 := [(0, vr t), (1, vi 4), (2, vi g), (3, vi i)]) (st2 := [vi g]) kX6_readSum_81 rfl ?_
      exact q_rz rfl eX6_readSum_82 (by omega) ⟨g, rfl, (by rcases hG with ⟨rfl, hb9, hJ9, hL9, hS9⟩ | hG; exact Or.inl ⟨rfl, L9, e9, hJ9.symm.trans (rJ_end (Or.inl (by omega))), hb9, _, _, hS9, hL9⟩; exact Or.inr hG), hfr⟩
    · skip
      refine q_blk (lv2 := [(0, vr t), (1, vi 4), (2, vi g), (3, vi i)]) (st2 := [vi g]) kX6_readSum_15 rfl ?_
      refine AQ.if_eq (tgt := 81) eX6_readSum_16 (by decide) (by first | assumption | exact ⟨by omega, by omega⟩) (fun br70 => ?_) (fun br70 => ?_)
      · skip
        refine q_blk (lv2 := [(0, vr t), (1, vi 4), (2, vi g), (3, vi i)]) (st2 := [vi g]) kX6_readSum_81 rfl ?_
        exact q_rz rfl eX6_readSum_82 (by omega) ⟨g, rfl, (by rcases hG with ⟨rfl, hb9, hJ9, hL9, hS9⟩ | hG; exact Or.inl ⟨rfl, L9, e9, hJ9.symm.trans (rJ_end (Or.inl (by omega))), hb9, _, _, hS9, hL9⟩; exact Or.inr hG), hfr⟩
      · skip
        obtain ⟨-, ⟨b9a, b9b, b9c⟩, hJ9, hL9, hS9⟩ := hG.resolve_right (fun q => absurd q.1 (by omega))
        obtain ⟨wt, w0, w1, w2, w3, w4⟩ := id hS9
        have kr9 := kr e9 (by omega) (by omega)
        have hen9 : kd e9 ≠ 0 → e9 ≠ n := fun q e => by rw [e] at q; omega
        refine q_blk (lv2 := [(0, vr t), (1, vi 4), (2, vi g), (3, vi i)]) (st2 := [vr t]) kX6_readSum_19 rfl ?_
        refine q_Vi (av := []) (st := []) (c_X6_kindHere ⟨_, w0, w1, w2, w3, w4⟩ (by omega) (by omega)) lk_RX6_70 (by decide) rfl rfl ⟨_, _, _, w0⟩ ⟨_, rfl, rfl⟩ (Nat.le_of_ble_eq_true rfl) eX6_readSum_20 (fun z71 e72 => ?_)
        subst e72
        refine q_blk (lv2 := [(0, vr t), (1, vi 4), (2, vi g), (3, vi i), (4, vi (kd e9))]) (st2 := [vi 43, vi (kd e9)]) kX6_readSum_23 rfl ?_
        refine AQ.ic_eq (tgt := 41) eX6_readSum_29 (by decide) (by first | assumption | exact ⟨by omega, by omega⟩) ⟨by decide, by decide⟩ (fun br73 => ?_) (fun br73 => ?_)
        · skip
          refine q_blk (lv2 := [(0, vr t), (1, vi 4), (2, vi g), (3, vi i), (4, vi (kd e9))]) (st2 := [vr t, vr t]) kX6_readSum_41 rfl ?_
          refine q_gi eX6_readSum_43 fl_RX6_28 (Or.inl rfl) w0 (z := e9) rfl ?_
          refine q_blk (lv2 := [(0, vr t), (1, vi 4), (2, vi g), (3, vi i), (4, vi (kd e9))]) (st2 := [vi (e9 + 1), vr t]) kX6_readSum_46 rfl ?_
          refine q_pi eX6_readSum_48 fl_RX6_28 (fun q hq => by cases hq; exact Or.inl rfl) (Or.inl rfl) w0 (Nat.le_of_ble_eq_true rfl) (l2 := [0, 0, 0, 0, 0, 0, 0, wt, (e9 + 1), v9, px, (L9.length : Int), hs, er, ea]) rfl (fun h74 e75 => ?_)
          have k76 := am_at e75
          have k77 := (am_ne e75 (t + 1) (by omega)).trans w1
          have k78 := (am_ne e75 (t + 2) (by omega)).trans w2
          have k79 := (am_ne e75 (t + 3) (by omega)).trans w3
          have k80 := (am_ne e75 (t + 4) (by omega)).trans w4
          refine q_blk (lv2 := [(0, vr t), (1, vi 4), (2, vi g), (3, vi i), (4, vi (kd e9))]) (st2 := [vi 4, vr t]) kX6_readSum_51 rfl ?_
          refine AQ.callVi (av := [vi 4]) (st := []) (c_X6_readTerm4 (L := L9) ⟨_, k76, k77, k78, k79, k80⟩ n0 kn (by omega) (by omega) kr vq hL9 (by omega)) lk_RX6_227 (by decide) rfl rfl ⟨_, _, _, k76⟩ ⟨_, rfl, rfl⟩ (Nat.le_of_ble_eq_true rfl) eX6_readSum_53 (fun z81 h83 e82 => ?_)
          rcases e82 with ⟨⟨rfl, Lh83, hh83e, qh83, ⟨bh83a, bh83b, bh83c⟩, hh83n, hh83c, Xh83, Ch83⟩ | ⟨rfl, eh83, ah83, qh83, Xh83⟩, Fh83⟩
          · skip
            obtain ⟨g84t, g840, g841, g842, g843, g844⟩ := id Xh83
            refine q_blk (lv2 := [(0, vr t), (1, vi 4), (2, vi 1), (3, vi i), (4, vi (kd e9))]) (st2 := [vi 43, vi (kd e9), vr t]) kX6_readSum_56 rfl ?_
            refine AQ.ic_ne (tgt := 70) eX6_readSum_62 (by decide) (by first | assumption | exact ⟨by omega, by omega⟩) ⟨by decide, by decide⟩ (fun br85 => ?_) (fun br85 => ?_)
            · skip
              refine q_blk (lv2 := [(0, vr t), (1, vi 4), (2, vi 1), (3, vi i), (4, vi (kd e9))]) (st2 := [vi (-7), vr t]) kX6_readSum_70 rfl ?_
              refine AQ.callVv (av := [vi (-7)]) (st := []) (c_X6_addCode (v := (-7)) ⟨_, g840, g841, g842, g843, g844⟩ (by omega) (by omega)) lk_RX6_230 (by decide) rfl rfl ⟨_, _, _, g840⟩ ⟨_, rfl, rfl⟩ (Nat.le_of_ble_eq_true rfl) eX6_readSum_72 (fun h88 e87 => ?_)
              obtain ⟨Xh88, Fh88⟩ := e87
              obtain ⟨g89t, g890, g891, g892, g893, g894⟩ := id Xh88
              refine q_blk (lv2 := [(0, vr t), (1, vi 4), (2, vi 1), (3, vi (i + 1)), (4, vi (kd e9))]) (st2 := []) kX6_readSum_75 rfl ?_
              refine q_goto (tgt := 8) eX6_readSum_78 (by decide) ?_
              refine q_sub (lv2 := [(0, vr t), (1, vi 4), (2, vi 1), (3, vi (i + 1))]) [0, 1, 2, 3] rfl ?_
              exact ih67 1 (i + 1) h88 (Lh83 ++ [(3, 0)]) hh83e hh83n (am_uI hh83c (Lh83.length : Int) (-7)) (⟨⟨by omega, by omega⟩, hfr.tr (((am_fr.rf.tr (am_fr.st e75 (by omega) (by omega))).tr Fh83).tr Fh88), Or.inl ⟨rfl, ⟨by omega, by omega, by simp; omega⟩, by rw [show 800 - (i + 1).toNat = 800 - i.toNat - 1 by omega]; exact (rJ_go (o := 3) (by omega) (by omega) qh83).symm.trans hJ9, Ch83.add (by unfold gm_en; simp), SU.cast ⟨_, g890, g891, g892, g893, g894⟩ (by simp)⟩⟩) (by omega)
            · skip
              refine q_blk (lv2 := [(0, vr t), (1, vi 4), (2, vi 1), (3, vi i), (4, vi (kd e9))]) (st2 := [vi (-6), vr t]) kX6_readSum_65 rfl ?_
              refine q_goto (tgt := 72) eX6_readSum_67 (by decide) ?_
              refine AQ.callVv (av := [vi (-6)]) (st := []) (c_X6_addCode (v := (-6)) ⟨_, g840, g841, g842, g843, g844⟩ (by omega) (by omega)) lk_RX6_230 (by decide) rfl rfl ⟨_, _, _, g840⟩ ⟨_, rfl, rfl⟩ (Nat.le_of_ble_eq_true rfl) eX6_readSum_72 (fun h92 e91 => ?_)
              obtain ⟨Xh92, Fh92⟩ := e91
              obtain ⟨g93t, g930, g931, g932, g933, g934⟩ := id Xh92
              refine q_blk (lv2 := [(0, vr t), (1, vi 4), (2, vi 1), (3, vi (i + 1)), (4, vi (kd e9))]) (st2 := []) kX6_readSum_75 rfl ?_
              refine q_goto (tgt := 8) eX6_readSum_78 (by decide) ?_
              refine q_sub (lv2 := [(0, vr t), (1, vi 4), (2, vi 1), (3, vi (i + 1))]) [0, 1, 2, 3] rfl ?_
              exact ih67 1 (i + 1) h92 (Lh83 ++ [(2, 0)]) hh83e hh83n (am_uI hh83c (Lh83.length : Int) (-6)) (⟨⟨by omega, by omega⟩, hfr.tr (((am_fr.rf.tr (am_fr.st e75 (by omega) (by omega))).tr Fh83).tr Fh92), Or.inl ⟨rfl, ⟨by omega, by omega, by simp; omega⟩, by rw [show 800 - (i + 1).toNat = 800 - i.toNat - 1 by omega]; exact (rJ_go (o := 2) (by omega) (by omega) qh83).symm.trans hJ9, Ch83.add (by unfold gm_en; simp), SU.cast ⟨_, g930, g931, g932, g933, g934⟩ (by simp)⟩⟩) (by omega)
          · skip
            refine q_blk (lv2 := [(0, vr t), (1, vi 4), (2, vi 0), (3, vi i), (4, vi (kd e9))]) (st2 := [vi 43, vi (kd e9), vr t]) kX6_readSum_56 rfl ?_
            refine AQ.ic_ne (tgt := 70) eX6_readSum_62 (by decide) (by first | assumption | exact ⟨by omega, by omega⟩) ⟨by decide, by decide⟩ (fun br94 => ?_) (fun br94 => ?_)
            · skip
              refine q_blk (lv2 := [(0, vr t), (1, vi 4), (2, vi 0), (3, vi i), (4, vi (kd e9))]) (st2 := [vi (-7), vr t]) kX6_readSum_70 rfl ?_
              refine AQ.callVv (av := [vi (-7)]) (st := []) (c_X6_addCodeF Xh83 (v := (-7))) lk_RX6_230 (by decide) rfl rfl (SF.ob Xh83) ⟨_, rfl, rfl⟩ (Nat.le_of_ble_eq_true rfl) eX6_readSum_72 (fun h97 e96 => ?_)
              obtain ⟨Xh97, Fh97⟩ := e96
              refine q_blk (lv2 := [(0, vr t), (1, vi 4), (2, vi 0), (3, vi (i + 1)), (4, vi (kd e9))]) (st2 := []) kX6_readSum_75 rfl ?_
              refine q_goto (tgt := 8) eX6_readSum_78 (by decide) ?_
              refine q_sub (lv2 := [(0, vr t), (1, vi 4), (2, vi 0), (3, vi (i + 1))]) [0, 1, 2, 3] rfl ?_
              exact ih67 0 (i + 1) h97 L 0 0 cd (⟨⟨by omega, by omega⟩, hfr.tr (((am_fr.rf.tr (am_fr.st e75 (by omega) (by omega))).tr Fh83).tr Fh97), Or.inr ⟨rfl, _, _, hJ9.symm.trans (rJ_no (by omega) (by omega) qh83), Xh97⟩⟩) (by omega)
            · skip
              refine q_blk (lv2 := [(0, vr t), (1, vi 4), (2, vi 0), (3, vi i), (4, vi (kd e9))]) (st2 := [vi (-6), vr t]) kX6_readSum_65 rfl ?_
              refine q_goto (tgt := 72) eX6_readSum_67 (by decide) ?_
              refine AQ.callVv (av := [vi (-6)]) (st := []) (c_X6_addCodeF Xh83 (v := (-6))) lk_RX6_230 (by decide) rfl rfl (SF.ob Xh83) ⟨_, rfl, rfl⟩ (Nat.le_of_ble_eq_true rfl) eX6_readSum_72 (fun h100 e99 => ?_)
              obtain ⟨Xh100, Fh100⟩ := e99
              refine q_blk (lv2 := [(0, vr t), (1, vi 4), (2, vi 0), (3, vi (i + 1)), (4, vi (kd e9))]) (st2 := []) kX6_readSum_75 rfl ?_
              refine q_goto (tgt := 8) eX6_readSum_78 (by decide) ?_
              refine q_sub (lv2 := [(0, vr t), (1, vi 4), (2, vi 0), (3, vi (i + 1))]) [0, 1, 2, 3] rfl ?_
              exact ih67 0 (i + 1) h100 L 0 0 cd (⟨⟨by omega, by omega⟩, hfr.tr (((am_fr.rf.tr (am_fr.st e75 (by omega) (by omega))).tr Fh83).tr Fh100), Or.inr ⟨rfl, _, _, hJ9.symm.trans (rJ_no (by omega) (by omega) qh83), Xh100⟩⟩) (by omega)
        · skip
          refine q_blk (lv2 := [(0, vr t), (1, vi 4), (2, vi g), (3, vi i), (4, vi (kd e9))]) (st2 := [vi 45, vi (kd e9)]) kX6_readSum_32 rfl ?_
          refine AQ.ic_eq (tgt := 41) eX6_readSum_36 (by decide) (by first | assumption | exact ⟨by omega, by omega⟩) ⟨by decide, by decide⟩ (fun br101 => ?_) (fun br101 => ?_)
          · skip
            refine q_blk (lv2 := [(0, vr t), (1, vi 4), (2, vi g), (3, vi i), (4, vi (kd e9))]) (st2 := [vr t, vr t]) kX6_readSum_41 rfl ?_
            refine q_gi eX6_readSum_43 fl_RX6_28 (Or.inl rfl) w0 (z := e9) rfl ?_
            refine q_blk (lv2 := [(0, vr t), (1, vi 4), (2, vi g), (3, vi i), (4, vi (kd e9))]) (st2 := [vi (e9 + 1), vr t]) kX6_readSum_46 rfl ?_
            refine q_pi eX6_readSum_48 fl_RX6_28 (fun q hq => by cases hq; exact Or.inl rfl) (Or.inl rfl) w0 (Nat.le_of_ble_eq_true rfl) (l2 := [0, 0, 0, 0, 0, 0, 0, wt, (e9 + 1), v9, px, (L9.length : Int), hs, er, ea]) rfl (fun h102 e103 => ?_)
            have k104 := am_at e103
            have k105 := (am_ne e103 (t + 1) (by omega)).trans w1
            have k106 := (am_ne e103 (t + 2) (by omega)).trans w2
            have k107 := (am_ne e103 (t + 3) (by omega)).trans w3
            have k108 := (am_ne e103 (t + 4) (by omega)).trans w4
            refine q_blk (lv2 := [(0, vr t), (1, vi 4), (2, vi g), (3, vi i), (4, vi (kd e9))]) (st2 := [vi 4, vr t]) kX6_readSum_51 rfl ?_
            refine AQ.callVi (av := [vi 4]) (st := []) (c_X6_readTerm4 (L := L9) ⟨_, k104, k105, k106, k107, k108⟩ n0 kn (by omega) (by omega) kr vq hL9 (by omega)) lk_RX6_227 (by decide) rfl rfl ⟨_, _, _, k104⟩ ⟨_, rfl, rfl⟩ (Nat.le_of_ble_eq_true rfl) eX6_readSum_53 (fun z109 h111 e110 => ?_)
            rcases e110 with ⟨⟨rfl, Lh111, hh111e, qh111, ⟨bh111a, bh111b, bh111c⟩, hh111n, hh111c, Xh111, Ch111⟩ | ⟨rfl, eh111, ah111, qh111, Xh111⟩, Fh111⟩
            · skip
              obtain ⟨g112t, g1120, g1121, g1122, g1123, g1124⟩ := id Xh111
              refine q_blk (lv2 := [(0, vr t), (1, vi 4), (2, vi 1), (3, vi i), (4, vi (kd e9))]) (st2 := [vi 43, vi (kd e9), vr t]) kX6_readSum_56 rfl ?_
              refine AQ.ic_ne (tgt := 70) eX6_readSum_62 (by decide) (by first | assumption | exact ⟨by omega, by omega⟩) ⟨by decide, by decide⟩ (fun br113 => ?_) (fun br113 => ?_)
              · skip
                refine q_blk (lv2 := [(0, vr t), (1, vi 4), (2, vi 1), (3, vi i), (4, vi (kd e9))]) (st2 := [vi (-7), vr t]) kX6_readSum_70 rfl ?_
                refine AQ.callVv (av := [vi (-7)]) (st := []) (c_X6_addCode (v := (-7)) ⟨_, g1120, g1121, g1122, g1123, g1124⟩ (by omega) (by omega)) lk_RX6_230 (by decide) rfl rfl ⟨_, _, _, g1120⟩ ⟨_, rfl, rfl⟩ (Nat.le_of_ble_eq_true rfl) eX6_readSum_72 (fun h116 e115 => ?_)
                obtain ⟨Xh116, Fh116⟩ := e115
                obtain ⟨g117t, g1170, g1171, g1172, g1173, g1174⟩ := id Xh116
                refine q_blk (lv2 := [(0, vr t), (1, vi 4), (2, vi 1), (3, vi (i + 1)), (4, vi (kd e9))]) (st2 := []) kX6_readSum_75 rfl ?_
                refine q_goto (tgt := 8) eX6_readSum_78 (by decide) ?_
                refine q_sub (lv2 := [(0, vr t), (1, vi 4), (2, vi 1), (3, vi (i + 1))]) [0, 1, 2, 3] rfl ?_
                exact ih67 1 (i + 1) h116 (Lh111 ++ [(3, 0)]) hh111e hh111n (am_uI hh111c (Lh111.length : Int) (-7)) (⟨⟨by omega, by omega⟩, hfr.tr (((am_fr.rf.tr (am_fr.st e103 (by omega) (by omega))).tr Fh111).tr Fh116), Or.inl ⟨rfl, ⟨by omega, by omega, by simp; omega⟩, by rw [show 800 - (i + 1).toNat = 800 - i.toNat - 1 by omega]; exact (rJ_go (o := 3) (by omega) (by omega) qh111).symm.trans hJ9, Ch111.add (by unfold gm_en; simp), SU.cast ⟨_, g1170, g1171, g1172, g1173, g1174⟩ (by simp)⟩⟩) (by omega)
              · skip
                refine q_blk (lv2 := [(0, vr t), (1, vi 4), (2, vi 1), (3, vi i), (4, vi (kd e9))]) (st2 := [vi (-6), vr t]) kX6_readSum_65 rfl ?_
                refine q_goto (tgt := 72) eX6_readSum_67 (by decide) ?_
                refine AQ.callVv (av := [vi (-6)]) (st := []) (c_X6_addCode (v := (-6)) ⟨_, g1120, g1121, g1122, g1123, g1124⟩ (by omega) (by omega)) lk_RX6_230 (by decide) rfl rfl ⟨_, _, _, g1120⟩ ⟨_, rfl, rfl⟩ (Nat.le_of_ble_eq_true rfl) eX6_readSum_72 (fun h120 e119 => ?_)
                obtain ⟨Xh120, Fh120⟩ := e119
                obtain ⟨g121t, g1210, g1211, g1212, g1213, g1214⟩ := id Xh120
                refine q_blk (lv2 := [(0, vr t), (1, vi 4), (2, vi 1), (3, vi (i + 1)), (4, vi (kd e9))]) (st2 := []) kX6_readSum_75 rfl ?_
                refine q_goto (tgt := 8) eX6_readSum_78 (by decide) ?_
                refine q_sub (lv2 := [(0, vr t), (1, vi 4), (2, vi 1), (3, vi (i + 1))]) [0, 1, 2, 3] rfl ?_
                exact ih67 1 (i + 1) h120 (Lh111 ++ [(2, 0)]) hh111e hh111n (am_uI hh111c (Lh111.length : Int) (-6)) (⟨⟨by omega, by omega⟩, hfr.tr (((am_fr.rf.tr (am_fr.st e103 (by omega) (by omega))).tr Fh111).tr Fh120), Or.inl ⟨rfl, ⟨by omega, by omega, by simp; omega⟩, by rw [show 800 - (i + 1).toNat = 800 - i.toNat - 1 by omega]; exact (rJ_go (o := 2) (by omega) (by omega) qh111).symm.trans hJ9, Ch111.add (by unfold gm_en; simp), SU.cast ⟨_, g1210, g1211, g1212, g1213, g1214⟩ (by simp)⟩⟩) (by omega)
            · skip
              refine q_blk (lv2 := [(0, vr t), (1, vi 4), (2, vi 0), (3, vi i), (4, vi (kd e9))]) (st2 := [vi 43, vi (kd e9), vr t]) kX6_readSum_56 rfl ?_
              refine AQ.ic_ne (tgt := 70) eX6_readSum_62 (by decide) (by first | assumption | exact ⟨by omega, by omega⟩) ⟨by decide, by decide⟩ (fun br122 => ?_) (fun br122 => ?_)
              · skip
                refine q_blk (lv2 := [(0, vr t), (1, vi 4), (2, vi 0), (3, vi i), (4, vi (kd e9))]) (st2 := [vi (-7), vr t]) kX6_readSum_70 rfl ?_
                refine AQ.callVv (av := [vi (-7)]) (st := []) (c_X6_addCodeF Xh111 (v := (-7))) lk_RX6_230 (by decide) rfl rfl (SF.ob Xh111) ⟨_, rfl, rfl⟩ (Nat.le_of_ble_eq_true rfl) eX6_readSum_72 (fun h125 e124 => ?_)
                obtain ⟨Xh125, Fh125⟩ := e124
                refine q_blk (lv2 := [(0, vr t), (1, vi 4), (2, vi 0), (3, vi (i + 1)), (4, vi (kd e9))]) (st2 := []) kX6_readSum_75 rfl ?_
                refine q_goto (tgt := 8) eX6_readSum_78 (by decide) ?_
                refine q_sub (lv2 := [(0, vr t), (1, vi 4), (2, vi 0), (3, vi (i + 1))]) [0, 1, 2, 3] rfl ?_
                exact ih67 0 (i + 1) h125 L 0 0 cd (⟨⟨by omega, by omega⟩, hfr.tr (((am_fr.rf.tr (am_fr.st e103 (by omega) (by omega))).tr Fh111).tr Fh125), Or.inr ⟨rfl, _, _, hJ9.symm.trans (rJ_no (by omega) (by omega) qh111), Xh125⟩⟩) (by omega)
              · skip
                refine q_blk (lv2 := [(0, vr t), (1, vi 4), (2, vi 0), (3, vi i), (4, vi (kd e9))]) (st2 := [vi (-6), vr t]) kX6_readSum_65 rfl ?_
                refine q_goto (tgt := 72) eX6_readSum_67 (by decide) ?_
                refine AQ.callVv (av := [vi (-6)]) (st := []) (c_X6_addCodeF Xh111 (v := (-6))) lk_RX6_230 (by decide) rfl rfl (SF.ob Xh111) ⟨_, rfl, rfl⟩ (Nat.le_of_ble_eq_true rfl) eX6_readSum_72 (fun h128 e127 => ?_)
                obtain ⟨Xh128, Fh128⟩ := e127
                refine q_blk (lv2 := [(0, vr t), (1, vi 4), (2, vi 0), (3, vi (i + 1)), (4, vi (kd e9))]) (st2 := []) kX6_readSum_75 rfl ?_
                refine q_goto (tgt := 8) eX6_readSum_78 (by decide) ?_
                refine q_sub (lv2 := [(0, vr t), (1, vi 4), (2, vi 0), (3, vi (i + 1))]) [0, 1, 2, 3] rfl ?_
                exact ih67 0 (i + 1) h128 L 0 0 cd (⟨⟨by omega, by omega⟩, hfr.tr (((am_fr.rf.tr (am_fr.st e103 (by omega) (by omega))).tr Fh111).tr Fh128), Or.inr ⟨rfl, _, _, hJ9.symm.trans (rJ_no (by omega) (by omega) qh111), Xh128⟩⟩) (by omega)
          · skip
            refine q_blk (lv2 := [(0, vr t), (1, vi 4), (2, vi g), (3, vi i), (4, vi (kd e9))]) (st2 := [vi 1]) kX6_readSum_39 rfl ?_
            exact q_rz rfl eX6_readSum_40 (by decide) ⟨1, rfl, Or.inl ⟨rfl, L9, e9, hJ9.symm.trans (rJ_end (Or.inr ⟨by omega, by omega⟩)), ⟨by omega, by omega, by omega⟩, _, _, ⟨_, w0, w1, w2, w3, w4⟩, hL9⟩, hfr.tr am_fr.rf⟩

set_option maxHeartbeats 1000000 in
theorem c_X6_readFactor3 {w : am_w} {h : AH} {L : GL} {t u b j : Nat} {kd st vl : Int → Int} {he nu px hs er ea : Int} {cd : Int → Int} (hS : SU h t u b j kd st vl he nu px (L.length : Int) hs er ea cd) {n : Int} (n0 : n ≤ 800) (kn : kd n = 0) (he0 : 0 ≤ he) (he1 : he ≤ n) (kr : ∀ i, 0 ≤ i → i < 801 → -5 ≤ kd i ∧ kd i ≤ 100) (vq : ∀ i, 0 ≤ i → i < 801 → 0 ≤ vl i ∧ vl i ≤ 10000) (hL : CL cd L) (hl : (L.length : Int) ≤ he)  : AE w m_X6_readFactor 7 [vr t, vi 3] h (am_int (fun z h1 => ((z = 1 ∧ ∃ L' he', rA kd st vl (some (rU kd st vl 0)) L he = .inr (L', he') ∧ (he < he' ∧ he' ≤ n ∧ (L'.length : Int) ≤ (L.length : Int) + (he' - he)) ∧ ∃ nu' cd', SU h1 t u b j kd st vl he' nu' px (L'.length : Int) hs er ea cd' ∧ CL cd' L') ∨ (z = 0 ∧ ∃ e a, rA kd st vl (some (rU kd st vl 0)) L he = .inl (e, a) ∧ SF h1 t u b j kd st vl e a)) ∧ am_fr h h1 t (t + 5))) := by
  refine AE.of wf_X6_readFactor (Nat.le_of_ble_eq_true rfl) (am_ok_z (fun z h1 q => by rcases q.1 with q | q; exact Or.inr q.1; exact Or.inl q.1)) ?_
  obtain ⟨tc, c0, c1, c2, c3, c4⟩ := id hS
  have kr1 := kr he he0 (by omega)
  have vr1 := vq he he0 (by omega)
  have hen : kd he ≠ 0 → he ≠ n := fun q e9 => by rw [e9] at q; omega
  refine q_blk (lv2 := [(0, vr t), (1, vi 3)]) (st2 := [vr t]) kX6_readFactor_0 rfl ?_
  refine q_Vi (av := []) (st := []) (c_X6_kindHere ⟨_, c0, c1, c2, c3, c4⟩ (by omega) (by omega)) lk_RX6_70 (by decide) rfl rfl ⟨_, _, _, c0⟩ ⟨_, rfl, rfl⟩ (Nat.le_of_ble_eq_true rfl) eX6_readFactor_1 (fun z1 e2 => ?_)
  subst e2
  refine q_blk (lv2 := [(0, vr t), (1, vi 3), (2, vi (kd he))]) (st2 := [vi 40, vi (kd he)]) kX6_readFactor_4 rfl ?_
  refine AQ.ic_ne (tgt := 58) eX6_readFactor_8 (by decide) (by first | assumption | exact ⟨by omega, by omega⟩) ⟨by decide, by decide⟩ (fun br3 => ?_) (fun br3 => ?_)
  · skip
    refine q_blk (lv2 := [(0, vr t), (1, vi 3), (2, vi (kd he))]) (st2 := [vi (kd he)]) kX6_readFactor_58 rfl ?_
    refine AQ.if_ge (tgt := 79) eX6_readFactor_59 (by decide) (by first | assumption | exact ⟨by omega, by omega⟩) (fun br4 => ?_) (fun br4 => ?_)
    · skip
      refine q_blk (lv2 := [(0, vr t), (1, vi 3), (2, vi (kd he))]) (st2 := [vi 2, vi (kd he)]) kX6_readFactor_79 rfl ?_
      refine AQ.ic_eq (tgt := 91) eX6_readFactor_81 (by decide) (by first | assumption | exact ⟨by omega, by omega⟩) ⟨by decide, by decide⟩ (fun br5 => ?_) (fun br5 => ?_)
      · skip
        refine q_blk (lv2 := [(0, vr t), (1, vi 3), (2, vi (kd he))]) (st2 := [vr t, vr t]) kX6_readFactor_91 rfl ?_
        refine q_Vi (av := []) (st := [vr t]) (c_X6_valueHere ⟨_, c0, c1, c2, c3, c4⟩ (by omega) (by omega)) lk_RX6_148 (by decide) rfl rfl ⟨_, _, _, c0⟩ ⟨_, rfl, rfl⟩ (Nat.le_of_ble_eq_true rfl) eX6_readFactor_93 (fun z6 e7 => ?_)
        subst e7
        refine q_pi eX6_readFactor_96 fl_RX6_31 (fun q hq => by cases hq; exact Or.inl rfl) (Or.inl rfl) c0 (Nat.le_of_ble_eq_true rfl) (l2 := [0, 0, 0, 0, 0, 0, 0, tc, he, (vl he), px, (L.length : Int), hs, er, ea]) rfl (fun h8 e9 => ?_)
        have k10 := am_at e9
        have k11 := (am_ne e9 (t + 1) (by omega)).trans c1
        have k12 := (am_ne e9 (t + 2) (by omega)).trans c2
        have k13 := (am_ne e9 (t + 3) (by omega)).trans c3
        have k14 := (am_ne e9 (t + 4) (by omega)).trans c4
        refine q_blk (lv2 := [(0, vr t), (1, vi 3), (2, vi (kd he))]) (st2 := [vr t]) kX6_readFactor_99 rfl ?_
        refine q_gi eX6_readFactor_100 fl_RX6_31 (Or.inl rfl) k10 (z := (vl he)) rfl ?_
        refine q_blk (lv2 := [(0, vr t), (1, vi 3), (2, vi (kd he))]) (st2 := [vi 9999, vi (vl he)]) kX6_readFactor_103 rfl ?_
        refine AQ.ic_le (tgt := 116) eX6_readFactor_106 (by decide) (by first | assumption | exact ⟨by omega, by omega⟩) ⟨by decide, by decide⟩ (fun br15 => ?_) (fun br15 => ?_)
        · skip
          refine q_blk (lv2 := [(0, vr t), (1, vi 3), (2, vi (kd he))]) (st2 := [vr t, vr t]) kX6_readFactor_116 rfl ?_
          refine q_gi eX6_readFactor_118 fl_RX6_28 (Or.inl rfl) k10 (z := he) rfl ?_
          refine q_blk (lv2 := [(0, vr t), (1, vi 3), (2, vi (kd he))]) (st2 := [vi (he + 1), vr t]) kX6_readFactor_121 rfl ?_
          refine q_pi eX6_readFactor_123 fl_RX6_28 (fun q hq => by cases hq; exact Or.inl rfl) (Or.inl rfl) k10 (Nat.le_of_ble_eq_true rfl) (l2 := [0, 0, 0, 0, 0, 0, 0, tc, (he + 1), (vl he), px, (L.length : Int), hs, er, ea]) rfl (fun h16 e17 => ?_)
          have k18 := am_at e17
          have k19 := (am_ne e17 (t + 1) (by omega)).trans k11
          have k20 := (am_ne e17 (t + 2) (by omega)).trans k12
          have k21 := (am_ne e17 (t + 3) (by omega)).trans k13
          have k22 := (am_ne e17 (t + 4) (by omega)).trans k14
          refine q_blk (lv2 := [(0, vr t), (1, vi 3), (2, vi (kd he))]) (st2 := [vr t, vr t]) kX6_readFactor_126 rfl ?_
          refine q_gi eX6_readFactor_128 fl_RX6_31 (Or.inl rfl) k18 (z := (vl he)) rfl ?_
          refine AQ.callVv (av := [vi (vl he)]) (st := []) (c_X6_addCode (v := (vl he)) ⟨_, k18, k19, k20, k21, k22⟩ (by omega) (by omega)) lk_RX6_230 (by decide) rfl rfl ⟨_, _, _, k18⟩ ⟨_, rfl, rfl⟩ (Nat.le_of_ble_eq_true rfl) eX6_readFactor_131 (fun h25 e24 => ?_)
          obtain ⟨Xh25, Fh25⟩ := e24
          obtain ⟨g26t, g260, g261, g262, g263, g264⟩ := id Xh25
          refine q_blk (lv2 := [(0, vr t), (1, vi 3), (2, vi (kd he))]) (st2 := [vi 1]) kX6_readFactor_134 rfl ?_
          exact q_rz rfl eX6_readFactor_135 (by decide) ⟨1, rfl, Or.inl ⟨rfl, L ++ [(0, vl he)], he + 1, by unfold rA; rw [if_neg (by omega), if_neg (by omega), if_pos (by omega), if_pos (by omega)], ⟨by omega, by omega, by simp; omega⟩, (vl he), (am_uI cd (L.length : Int) (vl he)), SU.cast ⟨_, g260, g261, g262, g263, g264⟩ (by simp), hL.add (by unfold gm_en; (try simp); (try omega))⟩, ((am_fr.rf.tr ((am_fr.st e9 (by omega) (by omega)).tr (am_fr.st e17 (by omega) (by omega)))).tr Fh25)⟩
        · skip
          refine q_blk (lv2 := [(0, vr t), (1, vi 3), (2, vi (kd he))]) (st2 := [vi (-3), vr t]) kX6_readFactor_109 rfl ?_
          refine AQ.callVi (av := [vi (-3)]) (st := []) (c_X6_fail (e := (-3)) ⟨_, k10, k11, k12, k13, k14⟩ (by omega) (by omega)) lk_RX6_83 (by decide) rfl rfl ⟨_, _, _, k10⟩ ⟨_, rfl, rfl⟩ (Nat.le_of_ble_eq_true rfl) eX6_readFactor_112 (fun z27 h29 e28 => ?_)
          obtain ⟨z270, Xh29, Fh29⟩ := e28
          subst z270
          obtain ⟨g30t, g300, g301, g302, g303, g304⟩ := id Xh29
          exact q_rz rfl eX6_readFactor_115 (by decide) ⟨0, rfl, Or.inr ⟨rfl, _, _, by unfold rA; rw [if_neg (by omega), if_neg (by omega), if_pos (by omega), if_neg (by omega)], ⟨_, _, _, _, _, _, ⟨_, g300, g301, g302, g303, g304⟩, by omega, by omega⟩⟩, ((am_fr.rf.tr (am_fr.st e9 (by omega) (by omega))).tr Fh29)⟩
      · skip
        refine q_blk (lv2 := [(0, vr t), (1, vi 3), (2, vi (kd he))]) (st2 := [vi (-2), vr t]) kX6_readFactor_84 rfl ?_
        refine AQ.callVi (av := [vi (-2)]) (st := []) (c_X6_fail (e := (-2)) ⟨_, c0, c1, c2, c3, c4⟩ (by omega) (by omega)) lk_RX6_83 (by decide) rfl rfl ⟨_, _, _, c0⟩ ⟨_, rfl, rfl⟩ (Nat.le_of_ble_eq_true rfl) eX6_readFactor_87 (fun z31 h33 e32 => ?_)
        obtain ⟨z310, Xh33, Fh33⟩ := e32
        subst z310
        obtain ⟨g34t, g340, g341, g342, g343, g344⟩ := id Xh33
        exact q_rz rfl eX6_readFactor_90 (by decide) ⟨0, rfl, Or.inr ⟨rfl, _, _, by unfold rA; rw [if_neg (by omega), if_neg (by omega), if_neg (by omega)], ⟨_, _, _, _, _, _, ⟨_, g340, g341, g342, g343, g344⟩, by omega, by omega⟩⟩, (am_fr.rf.tr Fh33)⟩
    · skip
      refine q_blk (lv2 := [(0, vr t), (1, vi 3), (2, vi (kd he))]) (st2 := [vr t, vr t]) kX6_readFactor_62 rfl ?_
      refine q_gi eX6_readFactor_64 fl_RX6_28 (Or.inl rfl) c0 (z := he) rfl ?_
      refine q_blk (lv2 := [(0, vr t), (1, vi 3), (2, vi (kd he))]) (st2 := [vi (he + 1), vr t]) kX6_readFactor_67 rfl ?_
      refine q_pi eX6_readFactor_69 fl_RX6_28 (fun q hq => by cases hq; exact Or.inl rfl) (Or.inl rfl) c0 (Nat.le_of_ble_eq_true rfl) (l2 := [0, 0, 0, 0, 0, 0, 0, tc, (he + 1), nu, px, (L.length : Int), hs, er, ea]) rfl (fun h35 e36 => ?_)
      have k37 := am_at e36
      have k38 := (am_ne e36 (t + 1) (by omega)).trans c1
      have k39 := (am_ne e36 (t + 2) (by omega)).trans c2
      have k40 := (am_ne e36 (t + 3) (by omega)).trans c3
      have k41 := (am_ne e36 (t + 4) (by omega)).trans c4
      refine q_blk (lv2 := [(0, vr t), (1, vi 3), (2, vi (kd he))]) (st2 := [vi (kd he), vr t]) kX6_readFactor_72 rfl ?_
      refine AQ.callVv (av := [vi (kd he)]) (st := []) (c_X6_addCode (v := (kd he)) ⟨_, k37, k38, k39, k40, k41⟩ (by omega) (by omega)) lk_RX6_230 (by decide) rfl rfl ⟨_, _, _, k37⟩ ⟨_, rfl, rfl⟩ (Nat.le_of_ble_eq_true rfl) eX6_readFactor_74 (fun h44 e43 => ?_)
      obtain ⟨Xh44, Fh44⟩ := e43
      obtain ⟨g45t, g450, g451, g452, g453, g454⟩ := id Xh44
      refine q_blk (lv2 := [(0, vr t), (1, vi 3), (2, vi (kd he))]) (st2 := [vi 1]) kX6_readFactor_77 rfl ?_
      exact q_rz rfl eX6_readFactor_78 (by decide) ⟨1, rfl, Or.inl ⟨rfl, L ++ [(1, -1 - kd he)], he + 1, by unfold rA; rw [if_neg (by omega), if_pos (by omega)], ⟨by omega, by omega, by simp; omega⟩, nu, (am_uI cd (L.length : Int) (kd he)), SU.cast ⟨_, g450, g451, g452, g453, g454⟩ (by simp), hL.add (by unfold gm_en; (try simp); (try omega))⟩, ((am_fr.rf.tr (am_fr.st e36 (by omega) (by omega))).tr Fh44)⟩
  · skip
    refine q_blk (lv2 := [(0, vr t), (1, vi 3), (2, vi (kd he))]) (st2 := [vi 4, vi 3]) kX6_readFactor_11 rfl ?_
    refine AQ.of (AS.ic_lt_t (tgt := 23) eX6_readFactor_13 (by decide) ⟨by decide, by decide⟩ ⟨by decide, by decide⟩ (by decide)) ?_
    refine q_blk (lv2 := [(0, vr t), (1, vi 3), (2, vi (kd he))]) (st2 := [vr t, vr t]) kX6_readFactor_23 rfl ?_
    refine q_gi eX6_readFactor_25 fl_RX6_28 (Or.inl rfl) c0 (z := he) rfl ?_
    refine q_blk (lv2 := [(0, vr t), (1, vi 3), (2, vi (kd he))]) (st2 := [vi (he + 1), vr t]) kX6_readFactor_28 rfl ?_
    refine q_pi eX6_readFactor_30 fl_RX6_28 (fun q hq => by cases hq; exact Or.inl rfl) (Or.inl rfl) c0 (Nat.le_of_ble_eq_true rfl) (l2 := [0, 0, 0, 0, 0, 0, 0, tc, (he + 1), nu, px, (L.length : Int), hs, er, ea]) rfl (fun h46 e47 => ?_)
    have k48 := am_at e47
    have k49 := (am_ne e47 (t + 1) (by omega)).trans c1
    have k50 := (am_ne e47 (t + 2) (by omega)).trans c2
    have k51 := (am_ne e47 (t + 3) (by omega)).trans c3
    have k52 := (am_ne e47 (t + 4) (by omega)).trans c4
    refine q_blk (lv2 := [(0, vr t), (1, vi 3), (2, vi (kd he))]) (st2 := [vi (3 + 1), vr t]) kX6_readFactor_33 rfl ?_
    refine AQ.callVi (av := [vi (3 + 1)]) (st := []) (c_X6_readSum4 (L := L) ⟨_, k48, k49, k50, k51, k52⟩ n0 kn (by omega) (by omega) kr vq hL (by omega)) lk_RX6_215 (by decide) rfl rfl ⟨_, _, _, k48⟩ ⟨_, rfl, rfl⟩ (Nat.le_of_ble_eq_true rfl) eX6_readFactor_37 (fun z53 h55 e54 => ?_)
    rcases e54 with ⟨⟨rfl, Lh55, hh55e, qh55, ⟨bh55a, bh55b, bh55c⟩, hh55n, hh55c, Xh55, Ch55⟩ | ⟨rfl, eh55, ah55, qh55, Xh55⟩, Fh55⟩
    · skip
      obtain ⟨g56t, g560, g561, g562, g563, g564⟩ := id Xh55
      refine AQ.of (AS.if_eq_f eX6_readFactor_40 ⟨by decide, by decide⟩ (by decide) (by decide)) ?_
      refine q_blk (lv2 := [(0, vr t), (1, vi 3), (2, vi (kd he))]) (st2 := [vi 41, vr t]) kX6_readFactor_43 rfl ?_
      refine AQ.callVi (av := [vi 41]) (st := []) (c_X6_take ⟨_, g560, g561, g562, g563, g564⟩ (by omega) (by omega) kr vq (k := 41) (by omega) (by omega)) lk_RX6_166 (by decide) rfl rfl ⟨_, _, _, g560⟩ ⟨_, rfl, rfl⟩ (Nat.le_of_ble_eq_true rfl) eX6_readFactor_46 (fun z57 h59 e58 => ?_)
      rcases e58 with ⟨⟨rfl, qh59, Xh59⟩ | ⟨rfl, qh59, Xh59⟩, Fh59⟩
      · skip
        obtain ⟨g60t, g600, g601, g602, g603, g604⟩ := id Xh59
        have nh59 : hh55e ≠ n := fun e9 => by rw [e9] at qh59; omega
        refine AQ.of (AS.if_eq_f eX6_readFactor_49 ⟨by decide, by decide⟩ (by decide) (by decide)) ?_
        refine q_blk (lv2 := [(0, vr t), (1, vi 3), (2, vi (kd he))]) (st2 := [vi 1]) kX6_readFactor_52 rfl ?_
        refine q_goto (tgt := 57) eX6_readFactor_53 (by decide) ?_
        exact q_rz rfl eX6_readFactor_57 (by decide) ⟨1, rfl, Or.inl ⟨rfl, _, _, by unfold rA; rw [if_pos (by omega)]; exact (rB_r qh55 _).trans (rB_r (show rT kd st 41 hh55e = .inr () by unfold rT; rw [if_pos qh59]) _), ⟨by omega, by omega, by omega⟩, _, _, ⟨_, g600, g601, g602, g603, g604⟩, Ch55⟩, (((am_fr.rf.tr (am_fr.st e47 (by omega) (by omega))).tr Fh55).tr Fh59)⟩
      · skip
        obtain ⟨g61t, g610, g611, g612, g613, g614⟩ := id Xh59
        refine AQ.of (AS.if_eq_t (tgt := 56) eX6_readFactor_49 (by decide) ⟨by decide, by decide⟩ (by decide)) ?_
        refine q_blk (lv2 := [(0, vr t), (1, vi 3), (2, vi (kd he))]) (st2 := [vi 0]) kX6_readFactor_56 rfl ?_
        exact q_rz rfl eX6_readFactor_57 (by decide) ⟨0, rfl, Or.inr ⟨rfl, _, _, by unfold rA; rw [if_pos (by omega)]; exact (rB_r qh55 _).trans (rB_l (show rT kd st 41 hh55e = .inl (-2, st hh55e) by unfold rT; rw [if_neg qh59]) _), ⟨_, _, _, _, _, _, ⟨_, g610, g611, g612, g613, g614⟩, by omega, by omega⟩⟩, (((am_fr.rf.tr (am_fr.st e47 (by omega) (by omega))).tr Fh55).tr Fh59)⟩
    · skip
      refine AQ.of (AS.if_eq_t (tgt := 56) eX6_readFactor_40 (by decide) ⟨by decide, by decide⟩ (by decide)) ?_
      refine q_blk (lv2 := [(0, vr t), (1, vi 3), (2, vi (kd he))]) (st2 := [vi 0]) kX6_readFactor_56 rfl ?_
      exact q_rz rfl eX6_readFactor_57 (by decide) ⟨0, rfl, Or.inr ⟨rfl, _, _, by unfold rA; rw [if_pos (by omega)]; exact rB_l qh55 _, Xh55⟩, ((am_fr.rf.tr (am_fr.st e47 (by omega) (by omega))).tr Fh55)⟩

set_option maxHeartbeats 1000000 in
theorem c_X6_readTerm3 {w : am_w} {h : AH} {L : GL} {t u b j : Nat} {kd st vl : Int → Int} {he nu px hs er ea : Int} {cd : Int → Int} (hS : SU h t u b j kd st vl he nu px (L.length : Int) hs er ea cd) {n : Int} (n0 : n ≤ 800) (kn : kd n = 0) (he0 : 0 ≤ he) (he1 : he ≤ n) (kr : ∀ i, 0 ≤ i → i < 801 → -5 ≤ kd i ∧ kd i ≤ 100) (vq : ∀ i, 0 ≤ i → i < 801 → 0 ≤ vl i ∧ vl i ≤ 10000) (hL : CL cd L) (hl : (L.length : Int) ≤ he)  : AE w m_X6_readTerm 8 [vr t, vi 3] h (am_int (fun z h1 => ((z = 1 ∧ ∃ L' he', rM kd st vl (some (rU kd st vl 0)) L he = .inr (L', he') ∧ (he < he' ∧ he' ≤ n ∧ (L'.length : Int) ≤ (L.length : Int) + (he' - he)) ∧ ∃ nu' cd', SU h1 t u b j kd st vl he' nu' px (L'.length : Int) hs er ea cd' ∧ CL cd' L') ∨ (z = 0 ∧ ∃ e a, rM kd st vl (some (rU kd st vl 0)) L he = .inl (e, a) ∧ SF h1 t u b j kd st vl e a)) ∧ am_fr h h1 t (t + 5))) := by
  refine AE.of wf_X6_readTerm (Nat.le_of_ble_eq_true rfl) (am_ok_z (fun z h1 q => by rcases q.1 with q | q; exact Or.inr q.1; exact Or.inl q.1)) ?_
  obtain ⟨tc, c0, c1, c2, c3, c4⟩ := id hS
  have kr1 := kr he he0 (by omega)
  have vr1 := vq he he0 (by omega)
  have hen : kd he ≠ 0 → he ≠ n := fun q e9 => by rw [e9] at q; omega
  refine q_blk (lv2 := [(0, vr t), (1, vi 3)]) (st2 := [vi 3, vr t]) kX6_readTerm_0 rfl ?_
  refine AQ.callVi (av := [vi 3]) (st := []) (c_X6_readFactor3 (L := L) ⟨_, c0, c1, c2, c3, c4⟩ n0 kn (by omega) (by omega) kr vq hL (by omega)) lk_RX6_233 (by decide) rfl rfl ⟨_, _, _, c0⟩ ⟨_, rfl, rfl⟩ (Nat.le_of_ble_eq_true rfl) eX6_readTerm_2 (fun z1 h3 e2 => ?_)
  rcases e2 with ⟨⟨rfl, Lh3, hh3e, qh3, ⟨bh3a, bh3b, bh3c⟩, hh3n, hh3c, Xh3, Ch3⟩ | ⟨rfl, eh3, ah3, qh3, Xh3⟩, Fh3⟩
  · skip
    obtain ⟨g4t, g40, g41, g42, g43, g44⟩ := id Xh3
    refine q_blk (lv2 := [(0, vr t), (1, vi 3), (2, vi 1), (3, vi 0)]) (st2 := []) kX6_readTerm_5 rfl ?_
    refine am_lp7 (I := fun (g : Int) (i : Int) (hh : AH) (L9 : GL) (e9 : Int) (v9 : Int) (c9 : Int → Int) => (0 ≤ i ∧ i ≤ 800) ∧ am_fr h hh t (t + 5) ∧ ((g = 1 ∧ (he < e9 ∧ e9 ≤ n ∧ (L9.length : Int) ≤ (L.length : Int) + (e9 - he)) ∧ rJ kd (rA kd st vl (some (rU kd st vl 0))) 42 47 4 5 (800 - i.toNat) L9 e9 = rM kd st vl (some (rU kd st vl 0)) L he ∧ CL c9 L9 ∧ SU hh t u b j kd st vl e9 v9 px (L9.length : Int) hs er ea c9) ∨ (g = 0 ∧ ∃ e a, rM kd st vl (some (rU kd st vl 0)) L he = .inl (e, a) ∧ SF hh t u b j kd st vl e a))) (μ := fun (g : Int) (i : Int) (hh : AH) (L9 : GL) (e9 : Int) (v9 : Int) (c9 : Int → Int) => (800 - i).toNat) (G := fun (g : Int) (i : Int) (hh : AH) (L9 : GL) (e9 : Int) (v9 : Int) (c9 : Int → Int) => AQ w m_X6_readTerm 8 8 [(0, vr t), (1, vi 3), (2, vi g), (3, vi i)] [] hh (am_int (fun z h1 => ((z = 1 ∧ ∃ L' he', rM kd st vl (some (rU kd st vl 0)) L he = .inr (L', he') ∧ (he < he' ∧ he' ≤ n ∧ (L'.length : Int) ≤ (L.length : Int) + (he' - he)) ∧ ∃ nu' cd', SU h1 t u b j kd st vl he' nu' px (L'.length : Int) hs er ea cd' ∧ CL cd' L') ∨ (z = 0 ∧ ∃ e a, rM kd st vl (some (rU kd st vl 0)) L he = .inl (e, a) ∧ SF h1 t u b j kd st vl e a)) ∧ am_fr h h1 t (t + 5)))) ?_ 1 0 h3 Lh3 hh3e hh3n hh3c (⟨⟨by omega, by omega⟩, (am_fr.rf.tr Fh3), Or.inl ⟨rfl, ⟨by omega, by omega, by omega⟩, by rw [show (800 - (0 : Int).toNat : Nat) = 800 from rfl]; unfold rM; rw [rB_r qh3], Ch3, ⟨_, g40, g41, g42, g43, g44⟩⟩⟩)
    intro g i hh L9 e9 v9 c9 hI6 ih5
    obtain ⟨⟨i0, i1⟩, hfr, hG⟩ := hI6
    have hg9 : g = 0 ∨ g = 1 := by rcases hG with q | q; exact Or.inr q.1; exact Or.inl q.1
    refine q_blk (lv2 := [(0, vr t), (1, vi 3), (2, vi g), (3, vi i)]) (st2 := [vi 800, vi i]) kX6_readTerm_8 rfl ?_
    refine AQ.ic_ge (tgt := 81) eX6_readTerm_12 (by decide) (by first | assumption | exact ⟨by omega, by omega⟩) ⟨by decide, by decide⟩ (fun br7 => ?_) (fun br7 => ?_)
    · skip
      refine q_blk (lv2 := [(0, vr t), (1, vi 3), (2, vi g), (3, vi i)]) (st2 := [vi g]) kX6_readTerm_81 rfl ?_
      exact q_rz rfl eX6_readTerm_82 (by omega) ⟨g, rfl, (by rcases hG with ⟨rfl, hb9, hJ9, hL9, hS9⟩ | hG; exact Or.inl ⟨rfl, L9, e9, hJ9.symm.trans (rJ_end (Or.inl (by omega))), hb9, _, _, hS9, hL9⟩; exact Or.inr hG), hfr⟩
    · skip
      refine q_blk (lv2 := [(0, vr t), (1, vi 3), (2, vi g), (3, vi i)]) (st2 := [vi g]) kX6_readTerm_15 rfl ?_
      refine AQ.if_eq (tgt := 81) eX6_readTerm_16 (by decide) (by first | assumption | exact ⟨by omega, by omega⟩) (fun br8 => ?_) (fun br8 => ?_)
      · skip
        refine q_blk (lv2 := [(0, vr t), (1, vi 3), (2, vi g), (3, vi i)]) (st2 := [vi g]) kX6_readTerm_81 rfl ?_
        exact q_rz rfl eX6_readTerm_82 (by omega) ⟨g, rfl, (by rcases hG with ⟨rfl, hb9, hJ9, hL9, hS9⟩ | hG; exact Or.inl ⟨rfl, L9, e9, hJ9.symm.trans (rJ_end (Or.inl (by omega))), hb9, _, _, hS9, hL9⟩; exact Or.inr hG), hfr⟩
      · skip
        obtain ⟨-, ⟨b9a, b9b, b9c⟩, hJ9, hL9, hS9⟩ := hG.resolve_right (fun q => absurd q.1 (by omega))
        obtain ⟨wt, w0, w1, w2, w3, w4⟩ := id hS9
        have kr9 := kr e9 (by omega) (by omega)
        have hen9 : kd e9 ≠ 0 → e9 ≠ n := fun q e => by rw [e] at q; omega
        refine q_blk (lv2 := [(0, vr t), (1, vi 3), (2, vi g), (3, vi i)]) (st2 := [vr t]) kX6_readTerm_19 rfl ?_
        refine q_Vi (av := []) (st := []) (c_X6_kindHere ⟨_, w0, w1, w2, w3, w4⟩ (by omega) (by omega)) lk_RX6_70 (by decide) rfl rfl ⟨_, _, _, w0⟩ ⟨_, rfl, rfl⟩ (Nat.le_of_ble_eq_true rfl) eX6_readTerm_20 (fun z9 e10 => ?_)
        subst e10
        refine q_blk (lv2 := [(0, vr t), (1, vi 3), (2, vi g), (3, vi i), (4, vi (kd e9))]) (st2 := [vi 42, vi (kd e9)]) kX6_readTerm_23 rfl ?_
        refine AQ.ic_eq (tgt := 41) eX6_readTerm_29 (by decide) (by first | assumption | exact ⟨by omega, by omega⟩) ⟨by decide, by decide⟩ (fun br11 => ?_) (fun br11 => ?_)
        · skip
          refine q_blk (lv2 := [(0, vr t), (1, vi 3), (2, vi g), (3, vi i), (4, vi (kd e9))]) (st2 := [vr t, vr t]) kX6_readTerm_41 rfl ?_
          refine q_gi eX6_readTerm_43 fl_RX6_28 (Or.inl rfl) w0 (z := e9) rfl ?_
          refine q_blk (lv2 := [(0, vr t), (1, vi 3), (2, vi g), (3, vi i), (4, vi (kd e9))]) (st2 := [vi (e9 + 1), vr t]) kX6_readTerm_46 rfl ?_
          refine q_pi eX6_readTerm_48 fl_RX6_28 (fun q hq => by cases hq; exact Or.inl rfl) (Or.inl rfl) w0 (Nat.le_of_ble_eq_true rfl) (l2 := [0, 0, 0, 0, 0, 0, 0, wt, (e9 + 1), v9, px, (L9.length : Int), hs, er, ea]) rfl (fun h12 e13 => ?_)
          have k14 := am_at e13
          have k15 := (am_ne e13 (t + 1) (by omega)).trans w1
          have k16 := (am_ne e13 (t + 2) (by omega)).trans w2
          have k17 := (am_ne e13 (t + 3) (by omega)).trans w3
          have k18 := (am_ne e13 (t + 4) (by omega)).trans w4
          refine q_blk (lv2 := [(0, vr t), (1, vi 3), (2, vi g), (3, vi i), (4, vi (kd e9))]) (st2 := [vi 3, vr t]) kX6_readTerm_51 rfl ?_
          refine AQ.callVi (av := [vi 3]) (st := []) (c_X6_readFactor3 (L := L9) ⟨_, k14, k15, k16, k17, k18⟩ n0 kn (by omega) (by omega) kr vq hL9 (by omega)) lk_RX6_233 (by decide) rfl rfl ⟨_, _, _, k14⟩ ⟨_, rfl, rfl⟩ (Nat.le_of_ble_eq_true rfl) eX6_readTerm_53 (fun z19 h21 e20 => ?_)
          rcases e20 with ⟨⟨rfl, Lh21, hh21e, qh21, ⟨bh21a, bh21b, bh21c⟩, hh21n, hh21c, Xh21, Ch21⟩ | ⟨rfl, eh21, ah21, qh21, Xh21⟩, Fh21⟩
          · skip
            obtain ⟨g22t, g220, g221, g222, g223, g224⟩ := id Xh21
            refine q_blk (lv2 := [(0, vr t), (1, vi 3), (2, vi 1), (3, vi i), (4, vi (kd e9))]) (st2 := [vi 42, vi (kd e9), vr t]) kX6_readTerm_56 rfl ?_
            refine AQ.ic_ne (tgt := 70) eX6_readTerm_62 (by decide) (by first | assumption | exact ⟨by omega, by omega⟩) ⟨by decide, by decide⟩ (fun br23 => ?_) (fun br23 => ?_)
            · skip
              refine q_blk (lv2 := [(0, vr t), (1, vi 3), (2, vi 1), (3, vi i), (4, vi (kd e9))]) (st2 := [vi (-9), vr t]) kX6_readTerm_70 rfl ?_
              refine AQ.callVv (av := [vi (-9)]) (st := []) (c_X6_addCode (v := (-9)) ⟨_, g220, g221, g222, g223, g224⟩ (by omega) (by omega)) lk_RX6_230 (by decide) rfl rfl ⟨_, _, _, g220⟩ ⟨_, rfl, rfl⟩ (Nat.le_of_ble_eq_true rfl) eX6_readTerm_72 (fun h26 e25 => ?_)
              obtain ⟨Xh26, Fh26⟩ := e25
              obtain ⟨g27t, g270, g271, g272, g273, g274⟩ := id Xh26
              refine q_blk (lv2 := [(0, vr t), (1, vi 3), (2, vi 1), (3, vi (i + 1)), (4, vi (kd e9))]) (st2 := []) kX6_readTerm_75 rfl ?_
              refine q_goto (tgt := 8) eX6_readTerm_78 (by decide) ?_
              refine q_sub (lv2 := [(0, vr t), (1, vi 3), (2, vi 1), (3, vi (i + 1))]) [0, 1, 2, 3] rfl ?_
              exact ih5 1 (i + 1) h26 (Lh21 ++ [(5, 0)]) hh21e hh21n (am_uI hh21c (Lh21.length : Int) (-9)) (⟨⟨by omega, by omega⟩, hfr.tr (((am_fr.rf.tr (am_fr.st e13 (by omega) (by omega))).tr Fh21).tr Fh26), Or.inl ⟨rfl, ⟨by omega, by omega, by simp; omega⟩, by rw [show 800 - (i + 1).toNat = 800 - i.toNat - 1 by omega]; exact (rJ_go (o := 5) (by omega) (by omega) qh21).symm.trans hJ9, Ch21.add (by unfold gm_en; simp), SU.cast ⟨_, g270, g271, g272, g273, g274⟩ (by simp)⟩⟩) (by omega)
            · skip
              refine q_blk (lv2 := [(0, vr t), (1, vi 3), (2, vi 1), (3, vi i), (4, vi (kd e9))]) (st2 := [vi (-8), vr t]) kX6_readTerm_65 rfl ?_
              refine q_goto (tgt := 72) eX6_readTerm_67 (by decide) ?_
              refine AQ.callVv (av := [vi (-8)]) (st := []) (c_X6_addCode (v := (-8)) ⟨_, g220, g221, g222, g223, g224⟩ (by omega) (by omega)) lk_RX6_230 (by decide) rfl rfl ⟨_, _, _, g220⟩ ⟨_, rfl, rfl⟩ (Nat.le_of_ble_eq_true rfl) eX6_readTerm_72 (fun h30 e29 => ?_)
              obtain ⟨Xh30, Fh30⟩ := e29
              obtain ⟨g31t, g310, g311, g312, g313, g314⟩ := id Xh30
              refine q_blk (lv2 := [(0, vr t), (1, vi 3), (2, vi 1), (3, vi (i + 1)), (4, vi (kd e9))]) (st2 := []) kX6_readTerm_75 rfl ?_
              refine q_goto (tgt := 8) eX6_readTerm_78 (by decide) ?_
              refine q_sub (lv2 := [(0, vr t), (1, vi 3), (2, vi 1), (3, vi (i + 1))]) [0, 1, 2, 3] rfl ?_
              exact ih5 1 (i + 1) h30 (Lh21 ++ [(4, 0)]) hh21e hh21n (am_uI hh21c (Lh21.length : Int) (-8)) (⟨⟨by omega, by omega⟩, hfr.tr (((am_fr.rf.tr (am_fr.st e13 (by omega) (by omega))).tr Fh21).tr Fh30), Or.inl ⟨rfl, ⟨by omega, by omega, by simp; omega⟩, by rw [show 800 - (i + 1).toNat = 800 - i.toNat - 1 by omega]; exact (rJ_go (o := 4) (by omega) (by omega) qh21).symm.trans hJ9, Ch21.add (by unfold gm_en; simp), SU.cast ⟨_, g310, g311, g312, g313, g314⟩ (by simp)⟩⟩) (by omega)
          · skip
            refine q_blk (lv2 := [(0, vr t), (1, vi 3), (2, vi 0), (3, vi i), (4, vi (kd e9))]) (st2 := [vi 42, vi (kd e9), vr t]) kX6_readTerm_56 rfl ?_
            refine AQ.ic_ne (tgt := 70) eX6_readTerm_62 (by decide) (by first | assumption | exact ⟨by omega, by omega⟩) ⟨by decide, by decide⟩ (fun br32 => ?_) (fun br32 => ?_)
            · skip
              refine q_blk (lv2 := [(0, vr t), (1, vi 3), (2, vi 0), (3, vi i), (4, vi (kd e9))]) (st2 := [vi (-9), vr t]) kX6_readTerm_70 rfl ?_
              refine AQ.callVv (av := [vi (-9)]) (st := []) (c_X6_addCodeF Xh21 (v := (-9))) lk_RX6_230 (by decide) rfl rfl (SF.ob Xh21) ⟨_, rfl, rfl⟩ (Nat.le_of_ble_eq_true rfl) eX6_readTerm_72 (fun h35 e34 => ?_)
              obtain ⟨Xh35, Fh35⟩ := e34
              refine q_blk (lv2 := [(0, vr t), (1, vi 3), (2, vi 0), (3, vi (i + 1)), (4, vi (kd e9))]) (st2 := []) kX6_readTerm_75 rfl ?_
              refine q_goto (tgt := 8) eX6_readTerm_78 (by decide) ?_
              refine q_sub (lv2 := [(0, vr t), (1, vi 3), (2, vi 0), (3, vi (i + 1))]) [0, 1, 2, 3] rfl ?_
              exact ih5 0 (i + 1) h35 L 0 0 cd (⟨⟨by omega, by omega⟩, hfr.tr (((am_fr.rf.tr (am_fr.st e13 (by omega) (by omega))).tr Fh21).tr Fh35), Or.inr ⟨rfl, _, _, hJ9.symm.trans (rJ_no (by omega) (by omega) qh21), Xh35⟩⟩) (by omega)
            · skip
              refine q_blk (lv2 := [(0, vr t), (1, vi 3), (2, vi 0), (3, vi i), (4, vi (kd e9))]) (st2 := [vi (-8), vr t]) kX6_readTerm_65 rfl ?_
              refine q_goto (tgt := 72) eX6_readTerm_67 (by decide) ?_
              refine AQ.callVv (av := [vi (-8)]) (st := []) (c_X6_addCodeF Xh21 (v := (-8))) lk_RX6_230 (by decide) rfl rfl (SF.ob Xh21) ⟨_, rfl, rfl⟩ (Nat.le_of_ble_eq_true rfl) eX6_readTerm_72 (fun h38 e37 => ?_)
              obtain ⟨Xh38, Fh38⟩ := e37
              refine q_blk (lv2 := [(0, vr t), (1, vi 3), (2, vi 0), (3, vi (i + 1)), (4, vi (kd e9))]) (st2 := []) kX6_readTerm_75 rfl ?_
              refine q_goto (tgt := 8) eX6_readTerm_78 (by decide) ?_
              refine q_sub (lv2 := [(0, vr t), (1, vi 3), (2, vi 0), (3, vi (i + 1))]) [0, 1, 2, 3] rfl ?_
              exact ih5 0 (i + 1) h38 L 0 0 cd (⟨⟨by omega, by omega⟩, hfr.tr (((am_fr.rf.tr (am_fr.st e13 (by omega) (by omega))).tr Fh21).tr Fh38), Or.inr ⟨rfl, _, _, hJ9.symm.trans (rJ_no (by omega) (by omega) qh21), Xh38⟩⟩) (by omega)
        · skip
          refine q_blk (lv2 := [(0, vr t), (1, vi 3), (2, vi g), (3, vi i), (4, vi (kd e9))]) (st2 := [vi 47, vi (kd e9)]) kX6_readTerm_32 rfl ?_
          refine AQ.ic_eq (tgt := 41) eX6_readTerm_36 (by decide) (by first | assumption | exact ⟨by omega, by omega⟩) ⟨by decide, by decide⟩ (fun br39 => ?_) (fun br39 => ?_)
          · skip
            refine q_blk (lv2 := [(0, vr t), (1, vi 3), (2, vi g), (3, vi i), (4, vi (kd e9))]) (st2 := [vr t, vr t]) kX6_readTerm_41 rfl ?_
            refine q_gi eX6_readTerm_43 fl_RX6_28 (Or.inl rfl) w0 (z := e9) rfl ?_
            refine q_blk (lv2 := [(0, vr t), (1, vi 3), (2, vi g), (3, vi i), (4, vi (kd e9))]) (st2 := [vi (e9 + 1), vr t]) kX6_readTerm_46 rfl ?_
            refine q_pi eX6_readTerm_48 fl_RX6_28 (fun q hq => by cases hq; exact Or.inl rfl) (Or.inl rfl) w0 (Nat.le_of_ble_eq_true rfl) (l2 := [0, 0, 0, 0, 0, 0, 0, wt, (e9 + 1), v9, px, (L9.length : Int), hs, er, ea]) rfl (fun h40 e41 => ?_)
            have k42 := am_at e41
            have k43 := (am_ne e41 (t + 1) (by omega)).trans w1
            have k44 := (am_ne e41 (t + 2) (by omega)).trans w2
            have k45 := (am_ne e41 (t + 3) (by omega)).trans w3
            have k46 := (am_ne e41 (t + 4) (by omega)).trans w4
            refine q_blk (lv2 := [(0, vr t), (1, vi 3), (2, vi g), (3, vi i), (4, vi (kd e9))]) (st2 := [vi 3, vr t]) kX6_readTerm_51 rfl ?_
            refine AQ.callVi (av := [vi 3]) (st := []) (c_X6_readFactor3 (L := L9) ⟨_, k42, k43, k44, k45, k46⟩ n0 kn (by omega) (by omega) kr vq hL9 (by omega)) lk_RX6_233 (by decide) rfl rfl ⟨_, _, _, k42⟩ ⟨_, rfl, rfl⟩ (Nat.le_of_ble_eq_true rfl) eX6_readTerm_53 (fun z47 h49 e48 => ?_)
            rcases e48 with ⟨⟨rfl, Lh49, hh49e, qh49, ⟨bh49a, bh49b, bh49c⟩, hh49n, hh49c, Xh49, Ch49⟩ | ⟨rfl, eh49, ah49, qh49, Xh49⟩, Fh49⟩
            · skip
              obtain ⟨g50t, g500, g501, g502, g503, g504⟩ := id Xh49
              refine q_blk (lv2 := [(0, vr t), (1, vi 3), (2, vi 1), (3, vi i), (4, vi (kd e9))]) (st2 := [vi 42, vi (kd e9), vr t]) kX6_readTerm_56 rfl ?_
              refine AQ.ic_ne (tgt := 70) eX6_readTerm_62 (by decide) (by first | assumption | exact ⟨by omega, by omega⟩) ⟨by decide, by decide⟩ (fun br51 => ?_) (fun br51 => ?_)
              · skip
                refine q_blk (lv2 := [(0, vr t), (1, vi 3), (2, vi 1), (3, vi i), (4, vi (kd e9))]) (st2 := [vi (-9), vr t]) kX6_readTerm_70 rfl ?_
                refine AQ.callVv (av := [vi (-9)]) (st := []) (c_X6_addCode (v := (-9)) ⟨_, g500, g501, g502, g503, g504⟩ (by omega) (by omega)) lk_RX6_230 (by decide) rfl rfl ⟨_, _, _, g500⟩ ⟨_, rfl, rfl⟩ (Nat.le_of_ble_eq_true rfl) eX6_readTerm_72 (fun h54 e53 => ?_)
                obtain ⟨Xh54, Fh54⟩ := e53
                obtain ⟨g55t, g550, g551, g552, g553, g554⟩ := id Xh54
                refine q_blk (lv2 := [(0, vr t), (1, vi 3), (2, vi 1), (3, vi (i + 1)), (4, vi (kd e9))]) (st2 := []) kX6_readTerm_75 rfl ?_
                refine q_goto (tgt := 8) eX6_readTerm_78 (by decide) ?_
                refine q_sub (lv2 := [(0, vr t), (1, vi 3), (2, vi 1), (3, vi (i + 1))]) [0, 1, 2, 3] rfl ?_
                exact ih5 1 (i + 1) h54 (Lh49 ++ [(5, 0)]) hh49e hh49n (am_uI hh49c (Lh49.length : Int) (-9)) (⟨⟨by omega, by omega⟩, hfr.tr (((am_fr.rf.tr (am_fr.st e41 (by omega) (by omega))).tr Fh49).tr Fh54), Or.inl ⟨rfl, ⟨by omega, by omega, by simp; omega⟩, by rw [show 800 - (i + 1).toNat = 800 - i.toNat - 1 by omega]; exact (rJ_go (o := 5) (by omega) (by omega) qh49).symm.trans hJ9, Ch49.add (by unfold gm_en; simp), SU.cast ⟨_, g550, g551, g552, g553, g554⟩ (by simp)⟩⟩) (by omega)
              · skip
                refine q_blk (lv2 := [(0, vr t), (1, vi 3), (2, vi 1), (3, vi i), (4, vi (kd e9))]) (st2 := [vi (-8), vr t]) kX6_readTerm_65 rfl ?_
                refine q_goto (tgt := 72) eX6_readTerm_67 (by decide) ?_
                refine AQ.callVv (av := [vi (-8)]) (st := []) (c_X6_addCode (v := (-8)) ⟨_, g500, g501, g502, g503, g504⟩ (by omega) (by omega)) lk_RX6_230 (by decide) rfl rfl ⟨_, _, _, g500⟩ ⟨_, rfl, rfl⟩ (Nat.le_of_ble_eq_true rfl) eX6_readTerm_72 (fun h58 e57 => ?_)
                obtain ⟨Xh58, Fh58⟩ := e57
                obtain ⟨g59t, g590, g591, g592, g593, g594⟩ := id Xh58
                refine q_blk (lv2 := [(0, vr t), (1, vi 3), (2, vi 1), (3, vi (i + 1)), (4, vi (kd e9))]) (st2 := []) kX6_readTerm_75 rfl ?_
                refine q_goto (tgt := 8) eX6_readTerm_78 (by decide) ?_
                refine q_sub (lv2 := [(0, vr t), (1, vi 3), (2, vi 1), (3, vi (i + 1))]) [0, 1, 2, 3] rfl ?_
                exact ih5 1 (i + 1) h58 (Lh49 ++ [(4, 0)]) hh49e hh49n (am_uI hh49c (Lh49.length : Int) (-8)) (⟨⟨by omega, by omega⟩, hfr.tr (((am_fr.rf.tr (am_fr.st e41 (by omega) (by omega))).tr Fh49).tr Fh58), Or.inl ⟨rfl, ⟨by omega, by omega, by simp; omega⟩, by rw [show 800 - (i + 1).toNat = 800 - i.toNat - 1 by omega]; exact (rJ_go (o := 4) (by omega) (by omega) qh49).symm.trans hJ9, Ch49.add (by unfold gm_en; simp), SU.cast ⟨_, g590, g591, g592, g593, g594⟩ (by simp)⟩⟩) (by omega)
            · skip
              refine q_blk (lv2 := [(0, vr t), (1, vi 3), (2, vi 0), (3, vi i), (4, vi (kd e9))]) (st2 := [vi 42, vi (kd e9), vr t]) kX6_readTerm_56 rfl ?_
              refine AQ.ic_ne (tgt := 70) eX6_readTerm_62 (by decide) (by first | assumption | exact ⟨by omega, by omega⟩) ⟨by decide, by decide⟩ (fun br60 => ?_) (fun br60 => ?_)
              · skip
                refine q_blk (lv2 := [(0, vr t), (1, vi 3), (2, vi 0), (3, vi i), (4, vi (kd e9))]) (st2 := [vi (-9), vr t]) kX6_readTerm_70 rfl ?_
                refine AQ.callVv (av := [vi (-9)]) (st := []) (c_X6_addCodeF Xh49 (v := (-9))) lk_RX6_230 (by decide) rfl rfl (SF.ob Xh49) ⟨_, rfl, rfl⟩ (Nat.le_of_ble_eq_true rfl) eX6_readTerm_72 (fun h63 e62 => ?_)
                obtain ⟨Xh63, Fh63⟩ := e62
                refine q_blk (lv2 := [(0, vr t), (1, vi 3), (2, vi 0), (3, vi (i + 1)), (4, vi (kd e9))]) (st2 := []) kX6_readTerm_75 rfl ?_
                refine q_goto (tgt := 8) eX6_readTerm_78 (by decide) ?_
                refine q_sub (lv2 := [(0, vr t), (1, vi 3), (2, vi 0), (3, vi (i + 1))]) [0, 1, 2, 3] rfl ?_
                exact ih5 0 (i + 1) h63 L 0 0 cd (⟨⟨by omega, by omega⟩, hfr.tr (((am_fr.rf.tr (am_fr.st e41 (by omega) (by omega))).tr Fh49).tr Fh63), Or.inr ⟨rfl, _, _, hJ9.symm.trans (rJ_no (by omega) (by omega) qh49), Xh63⟩⟩) (by omega)
              · skip
                refine q_blk (lv2 := [(0, vr t), (1, vi 3), (2, vi 0), (3, vi i), (4, vi (kd e9))]) (st2 := [vi (-8), vr t]) kX6_readTerm_65 rfl ?_
                refine q_goto (tgt := 72) eX6_readTerm_67 (by decide) ?_
                refine AQ.callVv (av := [vi (-8)]) (st := []) (c_X6_addCodeF Xh49 (v := (-8))) lk_RX6_230 (by decide) rfl rfl (SF.ob Xh49) ⟨_, rfl, rfl⟩ (Nat.le_of_ble_eq_true rfl) eX6_readTerm_72 (fun h66 e65 => ?_)
                obtain ⟨Xh66, Fh66⟩ := e65
                refine q_blk (lv2 := [(0, vr t), (1, vi 3), (2, vi 0), (3, vi (i + 1)), (4, vi (kd e9))]) (st2 := []) kX6_readTerm_75 rfl ?_
                refine q_goto (tgt := 8) eX6_readTerm_78 (by decide) ?_
                refine q_sub (lv2 := [(0, vr t), (1, vi 3), (2, vi 0), (3, vi (i + 1))]) [0, 1, 2, 3] rfl ?_
                exact ih5 0 (i + 1) h66 L 0 0 cd (⟨⟨by omega, by omega⟩, hfr.tr (((am_fr.rf.tr (am_fr.st e41 (by omega) (by omega))).tr Fh49).tr Fh66), Or.inr ⟨rfl, _, _, hJ9.symm.trans (rJ_no (by omega) (by omega) qh49), Xh66⟩⟩) (by omega)
          · skip
            refine q_blk (lv2 := [(0, vr t), (1, vi 3), (2, vi g), (3, vi i), (4, vi (kd e9))]) (st2 := [vi 1]) kX6_readTerm_39 rfl ?_
            exact q_rz rfl eX6_readTerm_40 (by decide) ⟨1, rfl, Or.inl ⟨rfl, L9, e9, hJ9.symm.trans (rJ_end (Or.inr ⟨by omega, by omega⟩)), ⟨by omega, by omega, by omega⟩, _, _, ⟨_, w0, w1, w2, w3, w4⟩, hL9⟩, hfr.tr am_fr.rf⟩
  · skip
    refine q_blk (lv2 := [(0, vr t), (1, vi 3), (2, vi 0), (3, vi 0)]) (st2 := []) kX6_readTerm_5 rfl ?_
    refine am_lp7 (I := fun (g : Int) (i : Int) (hh : AH) (L9 : GL) (e9 : Int) (v9 : Int) (c9 : Int → Int) => (0 ≤ i ∧ i ≤ 800) ∧ am_fr h hh t (t + 5) ∧ ((g = 1 ∧ (he < e9 ∧ e9 ≤ n ∧ (L9.length : Int) ≤ (L.length : Int) + (e9 - he)) ∧ rJ kd (rA kd st vl (some (rU kd st vl 0))) 42 47 4 5 (800 - i.toNat) L9 e9 = rM kd st vl (some (rU kd st vl 0)) L he ∧ CL c9 L9 ∧ SU hh t u b j kd st vl e9 v9 px (L9.length : Int) hs er ea c9) ∨ (g = 0 ∧ ∃ e a, rM kd st vl (some (rU kd st vl 0)) L he = .inl (e, a) ∧ SF hh t u b j kd st vl e a))) (μ := fun (g : Int) (i : Int) (hh : AH) (L9 : GL) (e9 : Int) (v9 : Int) (c9 : Int → Int) => (800 - i).toNat) (G := fun (g : Int) (i : Int) (hh : AH) (L9 : GL) (e9 : Int) (v9 : Int) (c9 : Int → Int) => AQ w m_X6_readTerm 8 8 [(0, vr t), (1, vi 3), (2, vi g), (3, vi i)] [] hh (am_int (fun z h1 => ((z = 1 ∧ ∃ L' he', rM kd st vl (some (rU kd st vl 0)) L he = .inr (L', he') ∧ (he < he' ∧ he' ≤ n ∧ (L'.length : Int) ≤ (L.length : Int) + (he' - he)) ∧ ∃ nu' cd', SU h1 t u b j kd st vl he' nu' px (L'.length : Int) hs er ea cd' ∧ CL cd' L') ∨ (z = 0 ∧ ∃ e a, rM kd st vl (some (rU kd st vl 0)) L he = .inl (e, a) ∧ SF h1 t u b j kd st vl e a)) ∧ am_fr h h1 t (t + 5)))) ?_ 0 0 h3 L 0 0 cd (⟨⟨by omega, by omega⟩, (am_fr.rf.tr Fh3), Or.inr ⟨rfl, _, _, by unfold rM; exact rB_l qh3 _, Xh3⟩⟩)
    intro g i hh L9 e9 v9 c9 hI68 ih67
    obtain ⟨⟨i0, i1⟩, hfr, hG⟩ := hI68
    have hg9 : g = 0 ∨ g = 1 := by rcases hG with q | q; exact Or.inr q.1; exact Or.inl q.1
    refine q_blk (lv2 := [(0, vr t), (1, vi 3), (2, vi g), (3, vi i)]) (st2 := [vi 800, vi i]) kX6_readTerm_8 rfl ?_
    refine AQ.ic_ge (tgt := 81) eX6_readTerm_12 (by decide) (by first | assumption | exact ⟨by omega, by omega⟩) ⟨by decide, by decide⟩ (fun br69 => ?_) (fun br69 => ?_)
    · skip
      refine q_blk (lv2 := [(0, vr t), (1, vi 3), (2, vi g), (3, vi i)]) (st2 := [vi g]) kX6_readTerm_81 rfl ?_
      exact q_rz rfl eX6_readTerm_82 (by omega) ⟨g, rfl, (by rcases hG with ⟨rfl, hb9, hJ9, hL9, hS9⟩ | hG; exact Or.inl ⟨rfl, L9, e9, hJ9.symm.trans (rJ_end (Or.inl (by omega))), hb9, _, _, hS9, hL9⟩; exact Or.inr hG), hfr⟩
    · skip
      refine q_blk (lv2 := [(0, vr t), (1, vi 3), (2, vi g), (3, vi i)]) (st2 := [vi g]) kX6_readTerm_15 rfl ?_
      refine AQ.if_eq (tgt := 81) eX6_readTerm_16 (by decide) (by first | assumption | exact ⟨by omega, by omega⟩) (fun br70 => ?_) (fun br70 => ?_)
      · skip
        refine q_blk (lv2 := [(0, vr t), (1, vi 3), (2, vi g), (3, vi i)]) (st2 := [vi g]) kX6_readTerm_81 rfl ?_
        exact q_rz rfl eX6_readTerm_82 (by omega) ⟨g, rfl, (by rcases hG with ⟨rfl, hb9, hJ9, hL9, hS9⟩ | hG; exact Or.inl ⟨rfl, L9, e9, hJ9.symm.trans (rJ_end (Or.inl (by omega))), hb9, _, _, hS9, hL9⟩; exact Or.inr hG), hfr⟩
      · skip
        obtain ⟨-, ⟨b9a, b9b, b9c⟩, hJ9, hL9, hS9⟩ := hG.resolve_right (fun q => absurd q.1 (by omega))
        obtain ⟨wt, w0, w1, w2, w3, w4⟩ := id hS9
        have kr9 := kr e9 (by omega) (by omega)
        have hen9 : kd e9 ≠ 0 → e9 ≠ n := fun q e => by rw [e] at q; omega
        refine q_blk (lv2 := [(0, vr t), (1, vi 3), (2, vi g), (3, vi i)]) (st2 := [vr t]) kX6_readTerm_19 rfl ?_
        refine q_Vi (av := []) (st := []) (c_X6_kindHere ⟨_, w0, w1, w2, w3, w4⟩ (by omega) (by omega)) lk_RX6_70 (by decide) rfl rfl ⟨_, _, _, w0⟩ ⟨_, rfl, rfl⟩ (Nat.le_of_ble_eq_true rfl) eX6_readTerm_20 (fun z71 e72 => ?_)
        subst e72
        refine q_blk (lv2 := [(0, vr t), (1, vi 3), (2, vi g), (3, vi i), (4, vi (kd e9))]) (st2 := [vi 42, vi (kd e9)]) kX6_readTerm_23 rfl ?_
        refine AQ.ic_eq (tgt := 41) eX6_readTerm_29 (by decide) (by first | assumption | exact ⟨by omega, by omega⟩) ⟨by decide, by decide⟩ (fun br73 => ?_) (fun br73 => ?_)
        · skip
          refine q_blk (lv2 := [(0, vr t), (1, vi 3), (2, vi g), (3, vi i), (4, vi (kd e9))]) (st2 := [vr t, vr t]) kX6_readTerm_41 rfl ?_
          refine q_gi eX6_readTerm_43 fl_RX6_28 (Or.inl rfl) w0 (z := e9) rfl ?_
          refine q_blk (lv2 := [(0, vr t), (1, vi 3), (2, vi g), (3, vi i), (4, vi (kd e9))]) (st2 := [vi (e9 + 1), vr t]) kX6_readTerm_46 rfl ?_
          refine q_pi eX6_readTerm_48 fl_RX6_28 (fun q hq => by cases hq; exact Or.inl rfl) (Or.inl rfl) w0 (Nat.le_of_ble_eq_true rfl) (l2 := [0, 0, 0, 0, 0, 0, 0, wt, (e9 + 1), v9, px, (L9.length : Int), hs, er, ea]) rfl (fun h74 e75 => ?_)
          have k76 := am_at e75
          have k77 := (am_ne e75 (t + 1) (by omega)).trans w1
          have k78 := (am_ne e75 (t + 2) (by omega)).trans w2
          have k79 := (am_ne e75 (t + 3) (by omega)).trans w3
          have k80 := (am_ne e75 (t + 4) (by omega)).trans w4
          refine q_blk (lv2 := [(0, vr t), (1, vi 3), (2, vi g), (3, vi i), (4, vi (kd e9))]) (st2 := [vi 3, vr t]) kX6_readTerm_51 rfl ?_
          refine AQ.callVi (av := [vi 3]) (st := []) (c_X6_readFactor3 (L := L9) ⟨_, k76, k77, k78, k79, k80⟩ n0 kn (by omega) (by omega) kr vq hL9 (by omega)) lk_RX6_233 (by decide) rfl rfl ⟨_, _, _, k76⟩ ⟨_, rfl, rfl⟩ (Nat.le_of_ble_eq_true rfl) eX6_readTerm_53 (fun z81 h83 e82 => ?_)
          rcases e82 with ⟨⟨rfl, Lh83, hh83e, qh83, ⟨bh83a, bh83b, bh83c⟩, hh83n, hh83c, Xh83, Ch83⟩ | ⟨rfl, eh83, ah83, qh83, Xh83⟩, Fh83⟩
          · skip
            obtain ⟨g84t, g840, g841, g842, g843, g844⟩ := id Xh83
            refine q_blk (lv2 := [(0, vr t), (1, vi 3), (2, vi 1), (3, vi i), (4, vi (kd e9))]) (st2 := [vi 42, vi (kd e9), vr t]) kX6_readTerm_56 rfl ?_
            refine AQ.ic_ne (tgt := 70) eX6_readTerm_62 (by decide) (by first | assumption | exact ⟨by omega, by omega⟩) ⟨by decide, by decide⟩ (fun br85 => ?_) (fun br85 => ?_)
            · skip
              refine q_blk (lv2 := [(0, vr t), (1, vi 3), (2, vi 1), (3, vi i), (4, vi (kd e9))]) (st2 := [vi (-9), vr t]) kX6_readTerm_70 rfl ?_
              refine AQ.callVv (av := [vi (-9)]) (st := []) (c_X6_addCode (v := (-9)) ⟨_, g840, g841, g842, g843, g844⟩ (by omega) (by omega)) lk_RX6_230 (by decide) rfl rfl ⟨_, _, _, g840⟩ ⟨_, rfl, rfl⟩ (Nat.le_of_ble_eq_true rfl) eX6_readTerm_72 (fun h88 e87 => ?_)
              obtain ⟨Xh88, Fh88⟩ := e87
              obtain ⟨g89t, g890, g891, g892, g893, g894⟩ := id Xh88
              refine q_blk (lv2 := [(0, vr t), (1, vi 3), (2, vi 1), (3, vi (i + 1)), (4, vi (kd e9))]) (st2 := []) kX6_readTerm_75 rfl ?_
              refine q_goto (tgt := 8) eX6_readTerm_78 (by decide) ?_
              refine q_sub (lv2 := [(0, vr t), (1, vi 3), (2, vi 1), (3, vi (i + 1))]) [0, 1, 2, 3] rfl ?_
              exact ih67 1 (i + 1) h88 (Lh83 ++ [(5, 0)]) hh83e hh83n (am_uI hh83c (Lh83.length : Int) (-9)) (⟨⟨by omega, by omega⟩, hfr.tr (((am_fr.rf.tr (am_fr.st e75 (by omega) (by omega))).tr Fh83).tr Fh88), Or.inl ⟨rfl, ⟨by omega, by omega, by simp; omega⟩, by rw [show 800 - (i + 1).toNat = 800 - i.toNat - 1 by omega]; exact (rJ_go (o := 5) (by omega) (by omega) qh83).symm.trans hJ9, Ch83.add (by unfold gm_en; simp), SU.cast ⟨_, g890, g891, g892, g893, g894⟩ (by simp)⟩⟩) (by omega)
            · skip
              refine q_blk (lv2 := [(0, vr t), (1, vi 3), (2, vi 1), (3, vi i), (4, vi (kd e9))]) (st2 := [vi (-8), vr t]) kX6_readTerm_65 rfl ?_
              refine q_goto (tgt := 72) eX6_readTerm_67 (by decide) ?_
              refine AQ.callVv (av := [vi (-8)]) (st := []) (c_X6_addCode (v := (-8)) ⟨_, g840, g841, g842, g843, g844⟩ (by omega) (by omega)) lk_RX6_230 (by decide) rfl rfl ⟨_, _, _, g840⟩ ⟨_, rfl, rfl⟩ (Nat.le_of_ble_eq_true rfl) eX6_readTerm_72 (fun h92 e91 => ?_)
              obtain ⟨Xh92, Fh92⟩ := e91
              obtain ⟨g93t, g930, g931, g932, g933, g934⟩ := id Xh92
              refine q_blk (lv2 := [(0, vr t), (1, vi 3), (2, vi 1), (3, vi (i + 1)), (4, vi (kd e9))]) (st2 := []) kX6_readTerm_75 rfl ?_
              refine q_goto (tgt := 8) eX6_readTerm_78 (by decide) ?_
              refine q_sub (lv2 := [(0, vr t), (1, vi 3), (2, vi 1), (3, vi (i + 1))]) [0, 1, 2, 3] rfl ?_
              exact ih67 1 (i + 1) h92 (Lh83 ++ [(4, 0)]) hh83e hh83n (am_uI hh83c (Lh83.length : Int) (-8)) (⟨⟨by omega, by omega⟩, hfr.tr (((am_fr.rf.tr (am_fr.st e75 (by omega) (by omega))).tr Fh83).tr Fh92), Or.inl ⟨rfl, ⟨by omega, by omega, by simp; omega⟩, by rw [show 800 - (i + 1).toNat = 800 - i.toNat - 1 by omega]; exact (rJ_go (o := 4) (by omega) (by omega) qh83).symm.trans hJ9, Ch83.add (by unfold gm_en; simp), SU.cast ⟨_, g930, g931, g932, g933, g934⟩ (by simp)⟩⟩) (by omega)
          · skip
            refine q_blk (lv2 := [(0, vr t), (1, vi 3), (2, vi 0), (3, vi i), (4, vi (kd e9))]) (st2 := [vi 42, vi (kd e9), vr t]) kX6_readTerm_56 rfl ?_
            refine AQ.ic_ne (tgt := 70) eX6_readTerm_62 (by decide) (by first | assumption | exact ⟨by omega, by omega⟩) ⟨by decide, by decide⟩ (fun br94 => ?_) (fun br94 => ?_)
            · skip
              refine q_blk (lv2 := [(0, vr t), (1, vi 3), (2, vi 0), (3, vi i), (4, vi (kd e9))]) (st2 := [vi (-9), vr t]) kX6_readTerm_70 rfl ?_
              refine AQ.callVv (av := [vi (-9)]) (st := []) (c_X6_addCodeF Xh83 (v := (-9))) lk_RX6_230 (by decide) rfl rfl (SF.ob Xh83) ⟨_, rfl, rfl⟩ (Nat.le_of_ble_eq_true rfl) eX6_readTerm_72 (fun h97 e96 => ?_)
              obtain ⟨Xh97, Fh97⟩ := e96
              refine q_blk (lv2 := [(0, vr t), (1, vi 3), (2, vi 0), (3, vi (i + 1)), (4, vi (kd e9))]) (st2 := []) kX6_readTerm_75 rfl ?_
              refine q_goto (tgt := 8) eX6_readTerm_78 (by decide) ?_
              refine q_sub (lv2 := [(0, vr t), (1, vi 3), (2, vi 0), (3, vi (i + 1))]) [0, 1, 2, 3] rfl ?_
              exact ih67 0 (i + 1) h97 L 0 0 cd (⟨⟨by omega, by omega⟩, hfr.tr (((am_fr.rf.tr (am_fr.st e75 (by omega) (by omega))).tr Fh83).tr Fh97), Or.inr ⟨rfl, _, _, hJ9.symm.trans (rJ_no (by omega) (by omega) qh83), Xh97⟩⟩) (by omega)
            · skip
              refine q_blk (lv2 := [(0, vr t), (1, vi 3), (2, vi 0), (3, vi i), (4, vi (kd e9))]) (st2 := [vi (-8), vr t]) kX6_readTerm_65 rfl ?_
              refine q_goto (tgt := 72) eX6_readTerm_67 (by decide) ?_
              refine AQ.callVv (av := [vi (-8)]) (st := []) (c_X6_addCodeF Xh83 (v := (-8))) lk_RX6_230 (by decide) rfl rfl (SF.ob Xh83) ⟨_, rfl, rfl⟩ (Nat.le_of_ble_eq_true rfl) eX6_readTerm_72 (fun h100 e99 => ?_)
              obtain ⟨Xh100, Fh100⟩ := e99
              refine q_blk (lv2 := [(0, vr t), (1, vi 3), (2, vi 0), (3, vi (i + 1)), (4, vi (kd e9))]) (st2 := []) kX6_readTerm_75 rfl ?_
              refine q_goto (tgt := 8) eX6_readTerm_78 (by decide) ?_
              refine q_sub (lv2 := [(0, vr t), (1, vi 3), (2, vi 0), (3, vi (i + 1))]) [0, 1, 2, 3] rfl ?_
              exact ih67 0 (i + 1) h100 L 0 0 cd (⟨⟨by omega, by omega⟩, hfr.tr (((am_fr.rf.tr (am_fr.st e75 (by omega) (by omega))).tr Fh83).tr Fh100), Or.inr ⟨rfl, _, _, hJ9.symm.trans (rJ_no (by omega) (by omega) qh83), Xh100⟩⟩) (by omega)
        · skip
          refine q_blk (lv2 := [(0, vr t), (1, vi 3), (2, vi g), (3, vi i), (4, vi (kd e9))]) (st2 := [vi 47, vi (kd e9)]) kX6_readTerm_32 rfl ?_
          refine AQ.ic_eq (tgt := 41) eX6_readTerm_36 (by decide) (by first | assumption | exact ⟨by omega, by omega⟩) ⟨by decide, by decide⟩ (fun br101 => ?_) (fun br101 => ?_)
          · skip
            refine q_blk (lv2 := [(0, vr t), (1, vi 3), (2, vi g), (3, vi i), (4, vi (kd e9))]) (st2 := [vr t, vr t]) kX6_readTerm_41 rfl ?_
            refine q_gi eX6_readTerm_43 fl_RX6_28 (Or.inl rfl) w0 (z := e9) rfl ?_
            refine q_blk (lv2 := [(0, vr t), (1, vi 3), (2, vi g), (3, vi i), (4, vi (kd e9))]) (st2 := [vi (e9 + 1), vr t]) kX6_readTerm_46 rfl ?_
            refine q_pi eX6_readTerm_48 fl_RX6_28 (fun q hq => by cases hq; exact Or.inl rfl) (Or.inl rfl) w0 (Nat.le_of_ble_eq_true rfl) (l2 := [0, 0, 0, 0, 0, 0, 0, wt, (e9 + 1), v9, px, (L9.length : Int), hs, er, ea]) rfl (fun h102 e103 => ?_)
            have k104 := am_at e103
            have k105 := (am_ne e103 (t + 1) (by omega)).trans w1
            have k106 := (am_ne e103 (t + 2) (by omega)).trans w2
            have k107 := (am_ne e103 (t + 3) (by omega)).trans w3
            have k108 := (am_ne e103 (t + 4) (by omega)).trans w4
            refine q_blk (lv2 := [(0, vr t), (1, vi 3), (2, vi g), (3, vi i), (4, vi (kd e9))]) (st2 := [vi 3, vr t]) kX6_readTerm_51 rfl ?_
            refine AQ.callVi (av := [vi 3]) (st := []) (c_X6_readFactor3 (L := L9) ⟨_, k104, k105, k106, k107, k108⟩ n0 kn (by omega) (by omega) kr vq hL9 (by omega)) lk_RX6_233 (by decide) rfl rfl ⟨_, _, _, k104⟩ ⟨_, rfl, rfl⟩ (Nat.le_of_ble_eq_true rfl) eX6_readTerm_53 (fun z109 h111 e110 => ?_)
            rcases e110 with ⟨⟨rfl, Lh111, hh111e, qh111, ⟨bh111a, bh111b, bh111c⟩, hh111n, hh111c, Xh111, Ch111⟩ | ⟨rfl, eh111, ah111, qh111, Xh111⟩, Fh111⟩
            · skip
              obtain ⟨g112t, g1120, g1121, g1122, g1123, g1124⟩ := id Xh111
              refine q_blk (lv2 := [(0, vr t), (1, vi 3), (2, vi 1), (3, vi i), (4, vi (kd e9))]) (st2 := [vi 42, vi (kd e9), vr t]) kX6_readTerm_56 rfl ?_
              refine AQ.ic_ne (tgt := 70) eX6_readTerm_62 (by decide) (by first | assumption | exact ⟨by omega, by omega⟩) ⟨by decide, by decide⟩ (fun br113 => ?_) (fun br113 => ?_)
              · skip
                refine q_blk (lv2 := [(0, vr t), (1, vi 3), (2, vi 1), (3, vi i), (4, vi (kd e9))]) (st2 := [vi (-9), vr t]) kX6_readTerm_70 rfl ?_
                refine AQ.callVv (av := [vi (-9)]) (st := []) (c_X6_addCode (v := (-9)) ⟨_, g1120, g1121, g1122, g1123, g1124⟩ (by omega) (by omega)) lk_RX6_230 (by decide) rfl rfl ⟨_, _, _, g1120⟩ ⟨_, rfl, rfl⟩ (Nat.le_of_ble_eq_true rfl) eX6_readTerm_72 (fun h116 e115 => ?_)
                obtain ⟨Xh116, Fh116⟩ := e115
                obtain ⟨g117t, g1170, g1171, g1172, g1173, g1174⟩ := id Xh116
                refine q_blk (lv2 := [(0, vr t), (1, vi 3), (2, vi 1), (3, vi (i + 1)), (4, vi (kd e9))]) (st2 := []) kX6_readTerm_75 rfl ?_
                refine q_goto (tgt := 8) eX6_readTerm_78 (by decide) ?_
                refine q_sub (lv2 := [(0, vr t), (1, vi 3), (2, vi 1), (3, vi (i + 1))]) [0, 1, 2, 3] rfl ?_
                exact ih67 1 (i + 1) h116 (Lh111 ++ [(5, 0)]) hh111e hh111n (am_uI hh111c (Lh111.length : Int) (-9)) (⟨⟨by omega, by omega⟩, hfr.tr (((am_fr.rf.tr (am_fr.st e103 (by omega) (by omega))).tr Fh111).tr Fh116), Or.inl ⟨rfl, ⟨by omega, by omega, by simp; omega⟩, by rw [show 800 - (i + 1).toNat = 800 - i.toNat - 1 by omega]; exact (rJ_go (o := 5) (by omega) (by omega) qh111).symm.trans hJ9, Ch111.add (by unfold gm_en; simp), SU.cast ⟨_, g1170, g1171, g1172, g1173, g1174⟩ (by simp)⟩⟩) (by omega)
              · skip
                refine q_blk (lv2 := [(0, vr t), (1, vi 3), (2, vi 1), (3, vi i), (4, vi (kd e9))]) (st2 := [vi (-8), vr t]) kX6_readTerm_65 rfl ?_
                refine q_goto (tgt := 72) eX6_readTerm_67 (by decide) ?_
                refine AQ.callVv (av := [vi (-8)]) (st := []) (c_X6_addCode (v := (-8)) ⟨_, g1120, g1121, g1122, g1123, g1124⟩ (by omega) (by omega)) lk_RX6_230 (by decide) rfl rfl ⟨_, _, _, g1120⟩ ⟨_, rfl, rfl⟩ (Nat.le_of_ble_eq_true rfl) eX6_readTerm_72 (fun h120 e119 => ?_)
                obtain ⟨Xh120, Fh120⟩ := e119
                obtain ⟨g121t, g1210, g1211, g1212, g1213, g1214⟩ := id Xh120
                refine q_blk (lv2 := [(0, vr t), (1, vi 3), (2, vi 1), (3, vi (i + 1)), (4, vi (kd e9))]) (st2 := []) kX6_readTerm_75 rfl ?_
                refine q_goto (tgt := 8) eX6_readTerm_78 (by decide) ?_
                refine q_sub (lv2 := [(0, vr t), (1, vi 3), (2, vi 1), (3, vi (i + 1))]) [0, 1, 2, 3] rfl ?_
                exact ih67 1 (i + 1) h120 (Lh111 ++ [(4, 0)]) hh111e hh111n (am_uI hh111c (Lh111.length : Int) (-8)) (⟨⟨by omega, by omega⟩, hfr.tr (((am_fr.rf.tr (am_fr.st e103 (by omega) (by omega))).tr Fh111).tr Fh120), Or.inl ⟨rfl, ⟨by omega, by omega, by simp; omega⟩, by rw [show 800 - (i + 1).toNat = 800 - i.toNat - 1 by omega]; exact (rJ_go (o := 4) (by omega) (by omega) qh111).symm.trans hJ9, Ch111.add (by unfold gm_en; simp), SU.cast ⟨_, g1210, g1211, g1212, g1213, g1214⟩ (by simp)⟩⟩) (by omega)
            · skip
              refine q_blk (lv2 := [(0, vr t), (1, vi 3), (2, vi 0), (3, vi i), (4, vi (kd e9))]) (st2 := [vi 42, vi (kd e9), vr t]) kX6_readTerm_56 rfl ?_
              refine AQ.ic_ne (tgt := 70) eX6_readTerm_62 (by decide) (by first | assumption | exact ⟨by omega, by omega⟩) ⟨by decide, by decide⟩ (fun br122 => ?_) (fun br122 => ?_)
              · skip
                refine q_blk (lv2 := [(0, vr t), (1, vi 3), (2, vi 0), (3, vi i), (4, vi (kd e9))]) (st2 := [vi (-9), vr t]) kX6_readTerm_70 rfl ?_
                refine AQ.callVv (av := [vi (-9)]) (st := []) (c_X6_addCodeF Xh111 (v := (-9))) lk_RX6_230 (by decide) rfl rfl (SF.ob Xh111) ⟨_, rfl, rfl⟩ (Nat.le_of_ble_eq_true rfl) eX6_readTerm_72 (fun h125 e124 => ?_)
                obtain ⟨Xh125, Fh125⟩ := e124
                refine q_blk (lv2 := [(0, vr t), (1, vi 3), (2, vi 0), (3, vi (i + 1)), (4, vi (kd e9))]) (st2 := []) kX6_readTerm_75 rfl ?_
                refine q_goto (tgt := 8) eX6_readTerm_78 (by decide) ?_
                refine q_sub (lv2 := [(0, vr t), (1, vi 3), (2, vi 0), (3, vi (i + 1))]) [0, 1, 2, 3] rfl ?_
                exact ih67 0 (i + 1) h125 L 0 0 cd (⟨⟨by omega, by omega⟩, hfr.tr (((am_fr.rf.tr (am_fr.st e103 (by omega) (by omega))).tr Fh111).tr Fh125), Or.inr ⟨rfl, _, _, hJ9.symm.trans (rJ_no (by omega) (by omega) qh111), Xh125⟩⟩) (by omega)
              · skip
                refine q_blk (lv2 := [(0, vr t), (1, vi 3), (2, vi 0), (3, vi i), (4, vi (kd e9))]) (st2 := [vi (-8), vr t]) kX6_readTerm_65 rfl ?_
                refine q_goto (tgt := 72) eX6_readTerm_67 (by decide) ?_
                refine AQ.callVv (av := [vi (-8)]) (st := []) (c_X6_addCodeF Xh111 (v := (-8))) lk_RX6_230 (by decide) rfl rfl (SF.ob Xh111) ⟨_, rfl, rfl⟩ (Nat.le_of_ble_eq_true rfl) eX6_readTerm_72 (fun h128 e127 => ?_)
                obtain ⟨Xh128, Fh128⟩ := e127
                refine q_blk (lv2 := [(0, vr t), (1, vi 3), (2, vi 0), (3, vi (i + 1)), (4, vi (kd e9))]) (st2 := []) kX6_readTerm_75 rfl ?_
                refine q_goto (tgt := 8) eX6_readTerm_78 (by decide) ?_
                refine q_sub (lv2 := [(0, vr t), (1, vi 3), (2, vi 0), (3, vi (i + 1))]) [0, 1, 2, 3] rfl ?_
                exact ih67 0 (i + 1) h128 L 0 0 cd (⟨⟨by omega, by omega⟩, hfr.tr (((am_fr.rf.tr (am_fr.st e103 (by omega) (by omega))).tr Fh111).tr Fh128), Or.inr ⟨rfl, _, _, hJ9.symm.trans (rJ_no (by omega) (by omega) qh111), Xh128⟩⟩) (by omega)
          · skip
            refine q_blk (lv2 := [(0, vr t), (1, vi 3), (2, vi g), (3, vi i), (4, vi (kd e9))]) (st2 := [vi 1]) kX6_readTerm_39 rfl ?_
            exact q_rz rfl eX6_readTerm_40 (by decide) ⟨1, rfl, Or.inl ⟨rfl, L9, e9, hJ9.symm.trans (rJ_end (Or.inr ⟨by omega, by omega⟩)), ⟨by omega, by omega, by omega⟩, _, _, ⟨_, w0, w1, w2, w3, w4⟩, hL9⟩, hfr.tr am_fr.rf⟩

set_option maxHeartbeats 1000000 in
theorem c_X6_readSum3 {w : am_w} {h : AH} {L : GL} {t u b j : Nat} {kd st vl : Int → Int} {he nu px hs er ea : Int} {cd : Int → Int} (hS : SU h t u b j kd st vl he nu px (L.length : Int) hs er ea cd) {n : Int} (n0 : n ≤ 800) (kn : kd n = 0) (he0 : 0 ≤ he) (he1 : he ≤ n) (kr : ∀ i, 0 ≤ i → i < 801 → -5 ≤ kd i ∧ kd i ≤ 100) (vq : ∀ i, 0 ≤ i → i < 801 → 0 ≤ vl i ∧ vl i ≤ 10000) (hL : CL cd L) (hl : (L.length : Int) ≤ he)  : AE w m_X6_readSum 9 [vr t, vi 3] h (am_int (fun z h1 => ((z = 1 ∧ ∃ L' he', rU kd st vl 1 L he = .inr (L', he') ∧ (he < he' ∧ he' ≤ n ∧ (L'.length : Int) ≤ (L.length : Int) + (he' - he)) ∧ ∃ nu' cd', SU h1 t u b j kd st vl he' nu' px (L'.length : Int) hs er ea cd' ∧ CL cd' L') ∨ (z = 0 ∧ ∃ e a, rU kd st vl 1 L he = .inl (e, a) ∧ SF h1 t u b j kd st vl e a)) ∧ am_fr h h1 t (t + 5))) := by
  refine AE.of wf_X6_readSum (Nat.le_of_ble_eq_true rfl) (am_ok_z (fun z h1 q => by rcases q.1 with q | q; exact Or.inr q.1; exact Or.inl q.1)) ?_
  obtain ⟨tc, c0, c1, c2, c3, c4⟩ := id hS
  have kr1 := kr he he0 (by omega)
  have vr1 := vq he he0 (by omega)
  have hen : kd he ≠ 0 → he ≠ n := fun q e9 => by rw [e9] at q; omega
  refine q_blk (lv2 := [(0, vr t), (1, vi 3)]) (st2 := [vi 3, vr t]) kX6_readSum_0 rfl ?_
  refine AQ.callVi (av := [vi 3]) (st := []) (c_X6_readTerm3 (L := L) ⟨_, c0, c1, c2, c3, c4⟩ n0 kn (by omega) (by omega) kr vq hL (by omega)) lk_RX6_227 (by decide) rfl rfl ⟨_, _, _, c0⟩ ⟨_, rfl, rfl⟩ (Nat.le_of_ble_eq_true rfl) eX6_readSum_2 (fun z1 h3 e2 => ?_)
  rcases e2 with ⟨⟨rfl, Lh3, hh3e, qh3, ⟨bh3a, bh3b, bh3c⟩, hh3n, hh3c, Xh3, Ch3⟩ | ⟨rfl, eh3, ah3, qh3, Xh3⟩, Fh3⟩
  · skip
    obtain ⟨g4t, g40, g41, g42, g43, g44⟩ := id Xh3
    refine q_blk (lv2 := [(0, vr t), (1, vi 3), (2, vi 1), (3, vi 0)]) (st2 := []) kX6_readSum_5 rfl ?_
    refine am_lp7 (I := fun (g : Int) (i : Int) (hh : AH) (L9 : GL) (e9 : Int) (v9 : Int) (c9 : Int → Int) => (0 ≤ i ∧ i ≤ 800) ∧ am_fr h hh t (t + 5) ∧ ((g = 1 ∧ (he < e9 ∧ e9 ≤ n ∧ (L9.length : Int) ≤ (L.length : Int) + (e9 - he)) ∧ rJ kd (rM kd st vl (some (rU kd st vl 0))) 43 45 2 3 (800 - i.toNat) L9 e9 = rU kd st vl 1 L he ∧ CL c9 L9 ∧ SU hh t u b j kd st vl e9 v9 px (L9.length : Int) hs er ea c9) ∨ (g = 0 ∧ ∃ e a, rU kd st vl 1 L he = .inl (e, a) ∧ SF hh t u b j kd st vl e a))) (μ := fun (g : Int) (i : Int) (hh : AH) (L9 : GL) (e9 : Int) (v9 : Int) (c9 : Int → Int) => (800 - i).toNat) (G := fun (g : Int) (i : Int) (hh : AH) (L9 : GL) (e9 : Int) (v9 : Int) (c9 : Int → Int) => AQ w m_X6_readSum 9 8 [(0, vr t), (1, vi 3), (2, vi g), (3, vi i)] [] hh (am_int (fun z h1 => ((z = 1 ∧ ∃ L' he', rU kd st vl 1 L he = .inr (L', he') ∧ (he < he' ∧ he' ≤ n ∧ (L'.length : Int) ≤ (L.length : Int) + (he' - he)) ∧ ∃ nu' cd', SU h1 t u b j kd st vl he' nu' px (L'.length : Int) hs er ea cd' ∧ CL cd' L') ∨ (z = 0 ∧ ∃ e a, rU kd st vl 1 L he = .inl (e, a) ∧ SF h1 t u b j kd st vl e a)) ∧ am_fr h h1 t (t + 5)))) ?_ 1 0 h3 Lh3 hh3e hh3n hh3c (⟨⟨by omega, by omega⟩, (am_fr.rf.tr Fh3), Or.inl ⟨rfl, ⟨by omega, by omega, by omega⟩, by rw [show (800 - (0 : Int).toNat : Nat) = 800 from rfl]; rw [rU_1]; rw [rB_r qh3], Ch3, ⟨_, g40, g41, g42, g43, g44⟩⟩⟩)
    intro g i hh L9 e9 v9 c9 hI6 ih5
    obtain ⟨⟨i0, i1⟩, hfr, hG⟩ := hI6
    have hg9 : g = 0 ∨ g = 1 := by rcases hG with q | q; exact Or.inr q.1; exact Or.inl q.1
    refine q_blk (lv2 := [(0, vr t), (1, vi 3), (2, vi g), (3, vi i)]) (st2 := [vi 800, vi i]) kX6_readSum_8 rfl ?_
    refine AQ.ic_ge (tgt := 81) eX6_readSum_12 (by decide) (by first | assumption | exact ⟨by omega, by omega⟩) ⟨by decide, by decide⟩ (fun br7 => ?_) (fun br7 => ?_)
    · skip
      refine q_blk (lv2 := [(0, vr t), (1, vi 3), (2, vi g), (3, vi i)]) (st2 := [vi g]) kX6_readSum_81 rfl ?_
      exact q_rz rfl eX6_readSum_82 (by omega) ⟨g, rfl, (by rcases hG with ⟨rfl, hb9, hJ9, hL9, hS9⟩ | hG; exact Or.inl ⟨rfl, L9, e9, hJ9.symm.trans (rJ_end (Or.inl (by omega))), hb9, _, _, hS9, hL9⟩; exact Or.inr hG), hfr⟩
    · skip
      refine q_blk (lv2 := [(0, vr t), (1, vi 3), (2, vi g), (3, vi i)]) (st2 := [vi g]) kX6_readSum_15 rfl ?_
      refine AQ.if_eq (tgt := 81) eX6_readSum_16 (by decide) (by first | assumption | exact ⟨by omega, by omega⟩) (fun br8 => ?_) (fun br8 => ?_)
      · skip
        refine q_blk (lv2 := [(0, vr t), (1, vi 3), (2, vi g), (3, vi i)]) (st2 := [vi g]) kX6_readSum_81 rfl ?_
        exact q_rz rfl eX6_readSum_82 (by omega) ⟨g, rfl, (by rcases hG with ⟨rfl, hb9, hJ9, hL9, hS9⟩ | hG; exact Or.inl ⟨rfl, L9, e9, hJ9.symm.trans (rJ_end (Or.inl (by omega))), hb9, _, _, hS9, hL9⟩; exact Or.inr hG), hfr⟩
      · skip
        obtain ⟨-, ⟨b9a, b9b, b9c⟩, hJ9, hL9, hS9⟩ := hG.resolve_right (fun q => absurd q.1 (by omega))
        obtain ⟨wt, w0, w1, w2, w3, w4⟩ := id hS9
        have kr9 := kr e9 (by omega) (by omega)
        have hen9 : kd e9 ≠ 0 → e9 ≠ n := fun q e => by rw [e] at q; omega
        refine q_blk (lv2 := [(0, vr t), (1, vi 3), (2, vi g), (3, vi i)]) (st2 := [vr t]) kX6_readSum_19 rfl ?_
        refine q_Vi (av := []) (st := []) (c_X6_kindHere ⟨_, w0, w1, w2, w3, w4⟩ (by omega) (by omega)) lk_RX6_70 (by decide) rfl rfl ⟨_, _, _, w0⟩ ⟨_, rfl, rfl⟩ (Nat.le_of_ble_eq_true rfl) eX6_readSum_20 (fun z9 e10 => ?_)
        subst e10
        refine q_blk (lv2 := [(0, vr t), (1, vi 3), (2, vi g), (3, vi i), (4, vi (kd e9))]) (st2 := [vi 43, vi (kd e9)]) kX6_readSum_23 rfl ?_
        refine AQ.ic_eq (tgt := 41) eX6_readSum_29 (by decide) (by first | assumption | exact ⟨by omega, by omega⟩) ⟨by decide, by decide⟩ (fun br11 => ?_) (fun br11 => ?_)
        · skip
          refine q_blk (lv2 := [(0, vr t), (1, vi 3), (2, vi g), (3, vi i), (4, vi (kd e9))]) (st2 := [vr t, vr t]) kX6_readSum_41 rfl ?_
          refine q_gi eX6_readSum_43 fl_RX6_28 (Or.inl rfl) w0 (z := e9) rfl ?_
          refine q_blk (lv2 := [(0, vr t), (1, vi 3), (2, vi g), (3, vi i), (4, vi (kd e9))]) (st2 := [vi (e9 + 1), vr t]) kX6_readSum_46 rfl ?_
          refine q_pi eX6_readSum_48 fl_RX6_28 (fun q hq => by cases hq; exact Or.inl rfl) (Or.inl rfl) w0 (Nat.le_of_ble_eq_true rfl) (l2 := [0, 0, 0, 0, 0, 0, 0, wt, (e9 + 1), v9, px, (L9.length : Int), hs, er, ea]) rfl (fun h12 e13 => ?_)
          have k14 := am_at e13
          have k15 := (am_ne e13 (t + 1) (by omega)).trans w1
          have k16 := (am_ne e13 (t + 2) (by omega)).trans w2
          have k17 := (am_ne e13 (t + 3) (by omega)).trans w3
          have k18 := (am_ne e13 (t + 4) (by omega)).trans w4
          refine q_blk (lv2 := [(0, vr t), (1, vi 3), (2, vi g), (3, vi i), (4, vi (kd e9))]) (st2 := [vi 3, vr t]) kX6_readSum_51 rfl ?_
          refine AQ.callVi (av := [vi 3]) (st := []) (c_X6_readTerm3 (L := L9) ⟨_, k14, k15, k16, k17, k18⟩ n0 kn (by omega) (by omega) kr vq hL9 (by omega)) lk_RX6_227 (by decide) rfl rfl ⟨_, _, _, k14⟩ ⟨_, rfl, rfl⟩ (Nat.le_of_ble_eq_true rfl) eX6_readSum_53 (fun z19 h21 e20 => ?_)
          rcases e20 with ⟨⟨rfl, Lh21, hh21e, qh21, ⟨bh21a, bh21b, bh21c⟩, hh21n, hh21c, Xh21, Ch21⟩ | ⟨rfl, eh21, ah21, qh21, Xh21⟩, Fh21⟩
          · skip
            obtain ⟨g22t, g220, g221, g222, g223, g224⟩ := id Xh21
            refine q_blk (lv2 := [(0, vr t), (1, vi 3), (2, vi 1), (3, vi i), (4, vi (kd e9))]) (st2 := [vi 43, vi (kd e9), vr t]) kX6_readSum_56 rfl ?_
            refine AQ.ic_ne (tgt := 70) eX6_readSum_62 (by decide) (by first | assumption | exact ⟨by omega, by omega⟩) ⟨by decide, by decide⟩ (fun br23 => ?_) (fun br23 => ?_)
            · skip
              refine q_blk (lv2 := [(0, vr t), (1, vi 3), (2, vi 1), (3, vi i), (4, vi (kd e9))]) (st2 := [vi (-7), vr t]) kX6_readSum_70 rfl ?_
              refine AQ.callVv (av := [vi (-7)]) (st := []) (c_X6_addCode (v := (-7)) ⟨_, g220, g221, g222, g223, g224⟩ (by omega) (by omega)) lk_RX6_230 (by decide) rfl rfl ⟨_, _, _, g220⟩ ⟨_, rfl, rfl⟩ (Nat.le_of_ble_eq_true rfl) eX6_readSum_72 (fun h26 e25 => ?_)
              obtain ⟨Xh26, Fh26⟩ := e25
              obtain ⟨g27t, g270, g271, g272, g273, g274⟩ := id Xh26
              refine q_blk (lv2 := [(0, vr t), (1, vi 3), (2, vi 1), (3, vi (i + 1)), (4, vi (kd e9))]) (st2 := []) kX6_readSum_75 rfl ?_
              refine q_goto (tgt := 8) eX6_readSum_78 (by decide) ?_
              refine q_sub (lv2 := [(0, vr t), (1, vi 3), (2, vi 1), (3, vi (i + 1))]) [0, 1, 2, 3] rfl ?_
              exact ih5 1 (i + 1) h26 (Lh21 ++ [(3, 0)]) hh21e hh21n (am_uI hh21c (Lh21.length : Int) (-7)) (⟨⟨by omega, by omega⟩, hfr.tr (((am_fr.rf.tr (am_fr.st e13 (by omega) (by omega))).tr Fh21).tr Fh26), Or.inl ⟨rfl, ⟨by omega, by omega, by simp; omega⟩, by rw [show 800 - (i + 1).toNat = 800 - i.toNat - 1 by omega]; exact (rJ_go (o := 3) (by omega) (by omega) qh21).symm.trans hJ9, Ch21.add (by unfold gm_en; simp), SU.cast ⟨_, g270, g271, g272, g273, g274⟩ (by simp)⟩⟩) (by omega)
            · skip
              refine q_blk (lv2 := [(0, vr t), (1, vi 3), (2, vi 1), (3, vi i), (4, vi (kd e9))]) (st2 := [vi (-6), vr t]) kX6_readSum_65 rfl ?_
              refine q_goto (tgt := 72) eX6_readSum_67 (by decide) ?_
              refine AQ.callVv (av := [vi (-6)]) (st := []) (c_X6_addCode (v := (-6)) ⟨_, g220, g221, g222, g223, g224⟩ (by omega) (by omega)) lk_RX6_230 (by decide) rfl rfl ⟨_, _, _, g220⟩ ⟨_, rfl, rfl⟩ (Nat.le_of_ble_eq_true rfl) eX6_readSum_72 (fun h30 e29 => ?_)
              obtain ⟨Xh30, Fh30⟩ := e29
              obtain ⟨g31t, g310, g311, g312, g313, g314⟩ := id Xh30
              refine q_blk (lv2 := [(0, vr t), (1, vi 3), (2, vi 1), (3, vi (i + 1)), (4, vi (kd e9))]) (st2 := []) kX6_readSum_75 rfl ?_
              refine q_goto (tgt := 8) eX6_readSum_78 (by decide) ?_
              refine q_sub (lv2 := [(0, vr t), (1, vi 3), (2, vi 1), (3, vi (i + 1))]) [0, 1, 2, 3] rfl ?_
              exact ih5 1 (i + 1) h30 (Lh21 ++ [(2, 0)]) hh21e hh21n (am_uI hh21c (Lh21.length : Int) (-6)) (⟨⟨by omega, by omega⟩, hfr.tr (((am_fr.rf.tr (am_fr.st e13 (by omega) (by omega))).tr Fh21).tr Fh30), Or.inl ⟨rfl, ⟨by omega, by omega, by simp; omega⟩, by rw [show 800 - (i + 1).toNat = 800 - i.toNat - 1 by omega]; exact (rJ_go (o := 2) (by omega) (by omega) qh21).symm.trans hJ9, Ch21.add (by unfold gm_en; simp), SU.cast ⟨_, g310, g311, g312, g313, g314⟩ (by simp)⟩⟩) (by omega)
          · skip
            refine q_blk (lv2 := [(0, vr t), (1, vi 3), (2, vi 0), (3, vi i), (4, vi (kd e9))]) (st2 := [vi 43, vi (kd e9), vr t]) kX6_readSum_56 rfl ?_
            refine AQ.ic_ne (tgt := 70) eX6_readSum_62 (by decide) (by first | assumption | exact ⟨by omega, by omega⟩) ⟨by decide, by decide⟩ (fun br32 => ?_) (fun br32 => ?_)
            · skip
              refine q_blk (lv2 := [(0, vr t), (1, vi 3), (2, vi 0), (3, vi i), (4, vi (kd e9))]) (st2 := [vi (-7), vr t]) kX6_readSum_70 rfl ?_
              refine AQ.callVv (av := [vi (-7)]) (st := []) (c_X6_addCodeF Xh21 (v := (-7))) lk_RX6_230 (by decide) rfl rfl (SF.ob Xh21) ⟨_, rfl, rfl⟩ (Nat.le_of_ble_eq_true rfl) eX6_readSum_72 (fun h35 e34 => ?_)
              obtain ⟨Xh35, Fh35⟩ := e34
              refine q_blk (lv2 := [(0, vr t), (1, vi 3), (2, vi 0), (3, vi (i + 1)), (4, vi (kd e9))]) (st2 := []) kX6_readSum_75 rfl ?_
              refine q_goto (tgt := 8) eX6_readSum_78 (by decide) ?_
              refine q_sub (lv2 := [(0, vr t), (1, vi 3), (2, vi 0), (3, vi (i + 1))]) [0, 1, 2, 3] rfl ?_
              exact ih5 0 (i + 1) h35 L 0 0 cd (⟨⟨by omega, by omega⟩, hfr.tr (((am_fr.rf.tr (am_fr.st e13 (by omega) (by omega))).tr Fh21).tr Fh35), Or.inr ⟨rfl, _, _, hJ9.symm.trans (rJ_no (by omega) (by omega) qh21), Xh35⟩⟩) (by omega)
            · skip
              refine q_blk (lv2 := [(0, vr t), (1, vi 3), (2, vi 0), (3, vi i), (4, vi (kd e9))]) (st2 := [vi (-6), vr t]) kX6_readSum_65 rfl ?_
              refine q_goto (tgt := 72) eX6_readSum_67 (by decide) ?_
              refine AQ.callVv (av := [vi (-6)]) (st := []) (c_X6_addCodeF Xh21 (v := (-6))) lk_RX6_230 (by decide) rfl rfl (SF.ob Xh21) ⟨_, rfl, rfl⟩ (Nat.le_of_ble_eq_true rfl) eX6_readSum_72 (fun h38 e37 => ?_)
              obtain ⟨Xh38, Fh38⟩ := e37
              refine q_blk (lv2 := [(0, vr t), (1, vi 3), (2, vi 0), (3, vi (i + 1)), (4, vi (kd e9))]) (st2 := []) kX6_readSum_75 rfl ?_
              refine q_goto (tgt := 8) eX6_readSum_78 (by decide) ?_
              refine q_sub (lv2 := [(0, vr t), (1, vi 3), (2, vi 0), (3, vi (i + 1))]) [0, 1, 2, 3] rfl ?_
              exact ih5 0 (i + 1) h38 L 0 0 cd (⟨⟨by omega, by omega⟩, hfr.tr (((am_fr.rf.tr (am_fr.st e13 (by omega) (by omega))).tr Fh21).tr Fh38), Or.inr ⟨rfl, _, _, hJ9.symm.trans (rJ_no (by omega) (by omega) qh21), Xh38⟩⟩) (by omega)
        · skip
          refine q_blk (lv2 := [(0, vr t), (1, vi 3), (2, vi g), (3, vi i), (4, vi (kd e9))]) (st2 := [vi 45, vi (kd e9)]) kX6_readSum_32 rfl ?_
          refine AQ.ic_eq (tgt := 41) eX6_readSum_36 (by decide) (by first | assumption | exact ⟨by omega, by omega⟩) ⟨by decide, by decide⟩ (fun br39 => ?_) (fun br39 => ?_)
          · skip
            refine q_blk (lv2 := [(0, vr t), (1, vi 3), (2, vi g), (3, vi i), (4, vi (kd e9))]) (st2 := [vr t, vr t]) kX6_readSum_41 rfl ?_
            refine q_gi eX6_readSum_43 fl_RX6_28 (Or.inl rfl) w0 (z := e9) rfl ?_
            refine q_blk (lv2 := [(0, vr t), (1, vi 3), (2, vi g), (3, vi i), (4, vi (kd e9))]) (st2 := [vi (e9 + 1), vr t]) kX6_readSum_46 rfl ?_
            refine q_pi eX6_readSum_48 fl_RX6_28 (fun q hq => by cases hq; exact Or.inl rfl) (Or.inl rfl) w0 (Nat.le_of_ble_eq_true rfl) (l2 := [0, 0, 0, 0, 0, 0, 0, wt, (e9 + 1), v9, px, (L9.length : Int), hs, er, ea]) rfl (fun h40 e41 => ?_)
            have k42 := am_at e41
            have k43 := (am_ne e41 (t + 1) (by omega)).trans w1
            have k44 := (am_ne e41 (t + 2) (by omega)).trans w2
            have k45 := (am_ne e41 (t + 3) (by omega)).trans w3
            have k46 := (am_ne e41 (t + 4) (by omega)).trans w4
            refine q_blk (lv2 := [(0, vr t), (1, vi 3), (2, vi g), (3, vi i), (4, vi (kd e9))]) (st2 := [vi 3, vr t]) kX6_readSum_51 rfl ?_
            refine AQ.callVi (av := [vi 3]) (st := []) (c_X6_readTerm3 (L := L9) ⟨_, k42, k43, k44, k45, k46⟩ n0 kn (by omega) (by omega) kr vq hL9 (by omega)) lk_RX6_227 (by decide) rfl rfl ⟨_, _, _, k42⟩ ⟨_, rfl, rfl⟩ (Nat.le_of_ble_eq_true rfl) eX6_readSum_53 (fun z47 h49 e48 => ?_)
            rcases e48 with ⟨⟨rfl, Lh49, hh49e, qh49, ⟨bh49a, bh49b, bh49c⟩, hh49n, hh49c, Xh49, Ch49⟩ | ⟨rfl, eh49, ah49, qh49, Xh49⟩, Fh49⟩
            · skip
              obtain ⟨g50t, g500, g501, g502, g503, g504⟩ := id Xh49
              refine q_blk (lv2 := [(0, vr t), (1, vi 3), (2, vi 1), (3, vi i), (4, vi (kd e9))]) (st2 := [vi 43, vi (kd e9), vr t]) kX6_readSum_56 rfl ?_
              refine AQ.ic_ne (tgt := 70) eX6_readSum_62 (by decide) (by first | assumption | exact ⟨by omega, by omega⟩) ⟨by decide, by decide⟩ (fun br51 => ?_) (fun br51 => ?_)
              · skip
                refine q_blk (lv2 := [(0, vr t), (1, vi 3), (2, vi 1), (3, vi i), (4, vi (kd e9))]) (st2 := [vi (-7), vr t]) kX6_readSum_70 rfl ?_
                refine AQ.callVv (av := [vi (-7)]) (st := []) (c_X6_addCode (v := (-7)) ⟨_, g500, g501, g502, g503, g504⟩ (by omega) (by omega)) lk_RX6_230 (by decide) rfl rfl ⟨_, _, _, g500⟩ ⟨_, rfl, rfl⟩ (Nat.le_of_ble_eq_true rfl) eX6_readSum_72 (fun h54 e53 => ?_)
                obtain ⟨Xh54, Fh54⟩ := e53
                obtain ⟨g55t, g550, g551, g552, g553, g554⟩ := id Xh54
                refine q_blk (lv2 := [(0, vr t), (1, vi 3), (2, vi 1), (3, vi (i + 1)), (4, vi (kd e9))]) (st2 := []) kX6_readSum_75 rfl ?_
                refine q_goto (tgt := 8) eX6_readSum_78 (by decide) ?_
                refine q_sub (lv2 := [(0, vr t), (1, vi 3), (2, vi 1), (3, vi (i + 1))]) [0, 1, 2, 3] rfl ?_
                exact ih5 1 (i + 1) h54 (Lh49 ++ [(3, 0)]) hh49e hh49n (am_uI hh49c (Lh49.length : Int) (-7)) (⟨⟨by omega, by omega⟩, hfr.tr (((am_fr.rf.tr (am_fr.st e41 (by omega) (by omega))).tr Fh49).tr Fh54), Or.inl ⟨rfl, ⟨by omega, by omega, by simp; omega⟩, by rw [show 800 - (i + 1).toNat = 800 - i.toNat - 1 by omega]; exact (rJ_go (o := 3) (by omega) (by omega) qh49).symm.trans hJ9, Ch49.add (by unfold gm_en; simp), SU.cast ⟨_, g550, g551, g552, g553, g554⟩ (by simp)⟩⟩) (by omega)
              · skip
                refine q_blk (lv2 := [(0, vr t), (1, vi 3), (2, vi 1), (3, vi i), (4, vi (kd e9))]) (st2 := [vi (-6), vr t]) kX6_readSum_65 rfl ?_
                refine q_goto (tgt := 72) eX6_readSum_67 (by decide) ?_
                refine AQ.callVv (av := [vi (-6)]) (st := []) (c_X6_addCode (v := (-6)) ⟨_, g500, g501, g502, g503, g504⟩ (by omega) (by omega)) lk_RX6_230 (by decide) rfl rfl ⟨_, _, _, g500⟩ ⟨_, rfl, rfl⟩ (Nat.le_of_ble_eq_true rfl) eX6_readSum_72 (fun h58 e57 => ?_)
                obtain ⟨Xh58, Fh58⟩ := e57
                obtain ⟨g59t, g590, g591, g592, g593, g594⟩ := id Xh58
                refine q_blk (lv2 := [(0, vr t), (1, vi 3), (2, vi 1), (3, vi (i + 1)), (4, vi (kd e9))]) (st2 := []) kX6_readSum_75 rfl ?_
                refine q_goto (tgt := 8) eX6_readSum_78 (by decide) ?_
                refine q_sub (lv2 := [(0, vr t), (1, vi 3), (2, vi 1), (3, vi (i + 1))]) [0, 1, 2, 3] rfl ?_
                exact ih5 1 (i + 1) h58 (Lh49 ++ [(2, 0)]) hh49e hh49n (am_uI hh49c (Lh49.length : Int) (-6)) (⟨⟨by omega, by omega⟩, hfr.tr (((am_fr.rf.tr (am_fr.st e41 (by omega) (by omega))).tr Fh49).tr Fh58), Or.inl ⟨rfl, ⟨by omega, by omega, by simp; omega⟩, by rw [show 800 - (i + 1).toNat = 800 - i.toNat - 1 by omega]; exact (rJ_go (o := 2) (by omega) (by omega) qh49).symm.trans hJ9, Ch49.add (by unfold gm_en; simp), SU.cast ⟨_, g590, g591, g592, g593, g594⟩ (by simp)⟩⟩) (by omega)
            · skip
              refine q_blk (lv2 := [(0, vr t), (1, vi 3), (2, vi 0), (3, vi i), (4, vi (kd e9))]) (st2 := [vi 43, vi (kd e9), vr t]) kX6_readSum_56 rfl ?_
              refine AQ.ic_ne (tgt := 70) eX6_readSum_62 (by decide) (by first | assumption | exact ⟨by omega, by omega⟩) ⟨by decide, by decide⟩ (fun br60 => ?_) (fun br60 => ?_)
              · skip
                refine q_blk (lv2 := [(0, vr t), (1, vi 3), (2, vi 0), (3, vi i), (4, vi (kd e9))]) (st2 := [vi (-7), vr t]) kX6_readSum_70 rfl ?_
                refine AQ.callVv (av := [vi (-7)]) (st := []) (c_X6_addCodeF Xh49 (v := (-7))) lk_RX6_230 (by decide) rfl rfl (SF.ob Xh49) ⟨_, rfl, rfl⟩ (Nat.le_of_ble_eq_true rfl) eX6_readSum_72 (fun h63 e62 => ?_)
                obtain ⟨Xh63, Fh63⟩ := e62
                refine q_blk (lv2 := [(0, vr t), (1, vi 3), (2, vi 0), (3, vi (i + 1)), (4, vi (kd e9))]) (st2 := []) kX6_readSum_75 rfl ?_
                refine q_goto (tgt := 8) eX6_readSum_78 (by decide) ?_
                refine q_sub (lv2 := [(0, vr t), (1, vi 3), (2, vi 0), (3, vi (i + 1))]) [0, 1, 2, 3] rfl ?_
                exact ih5 0 (i + 1) h63 L 0 0 cd (⟨⟨by omega, by omega⟩, hfr.tr (((am_fr.rf.tr (am_fr.st e41 (by omega) (by omega))).tr Fh49).tr Fh63), Or.inr ⟨rfl, _, _, hJ9.symm.trans (rJ_no (by omega) (by omega) qh49), Xh63⟩⟩) (by omega)
              · skip
                refine q_blk (lv2 := [(0, vr t), (1, vi 3), (2, vi 0), (3, vi i), (4, vi (kd e9))]) (st2 := [vi (-6), vr t]) kX6_readSum_65 rfl ?_
                refine q_goto (tgt := 72) eX6_readSum_67 (by decide) ?_
                refine AQ.callVv (av := [vi (-6)]) (st := []) (c_X6_addCodeF Xh49 (v := (-6))) lk_RX6_230 (by decide) rfl rfl (SF.ob Xh49) ⟨_, rfl, rfl⟩ (Nat.le_of_ble_eq_true rfl) eX6_readSum_72 (fun h66 e65 => ?_)
                obtain ⟨Xh66, Fh66⟩ := e65
                refine q_blk (lv2 := [(0, vr t), (1, vi 3), (2, vi 0), (3, vi (i + 1)), (4, vi (kd e9))]) (st2 := []) kX6_readSum_75 rfl ?_
                refine q_goto (tgt := 8) eX6_readSum_78 (by decide) ?_
                refine q_sub (lv2 := [(0, vr t), (1, vi 3), (2, vi 0), (3, vi (i + 1))]) [0, 1, 2, 3] rfl ?_
                exact ih5 0 (i + 1) h66 L 0 0 cd (⟨⟨by omega, by omega⟩, hfr.tr (((am_fr.rf.tr (am_fr.st e41 (by omega) (by omega))).tr Fh49).tr Fh66), Or.inr ⟨rfl, _, _, hJ9.symm.trans (rJ_no (by omega) (by omega) qh49), Xh66⟩⟩) (by omega)
          · skip
            refine q_blk (lv2 := [(0, vr t), (1, vi 3), (2, vi g), (3, vi i), (4, vi (kd e9))]) (st2 := [vi 1]) kX6_readSum_39 rfl ?_
            exact q_rz rfl eX6_readSum_40 (by decide) ⟨1, rfl, Or.inl ⟨rfl, L9, e9, hJ9.symm.trans (rJ_end (Or.inr ⟨by omega, by omega⟩)), ⟨by omega, by omega, by omega⟩, _, _, ⟨_, w0, w1, w2, w3, w4⟩, hL9⟩, hfr.tr am_fr.rf⟩
  · skip
    refine q_blk (lv2 := [(0, vr t), (1, vi 3), (2, vi 0), (3, vi 0)]) (st2 := []) kX6_readSum_5 rfl ?_
    refine am_lp7 (I := fun (g : Int) (i : Int) (hh : AH) (L9 : GL) (e9 : Int) (v9 : Int) (c9 : Int → Int) => (0 ≤ i ∧ i ≤ 800) ∧ am_fr h hh t (t + 5) ∧ ((g = 1 ∧ (he < e9 ∧ e9 ≤ n ∧ (L9.length : Int) ≤ (L.length : Int) + (e9 - he)) ∧ rJ kd (rM kd st vl (some (rU kd st vl 0))) 43 45 2 3 (800 - i.toNat) L9 e9 = rU kd st vl 1 L he ∧ CL c9 L9 ∧ SU hh t u b j kd st vl e9 v9 px (L9.length : Int) hs er ea c9) ∨ (g = 0 ∧ ∃ e a, rU kd st vl 1 L he = .inl (e, a) ∧ SF hh t u b j kd st vl e a))) (μ := fun (g : Int) (i : Int) (hh : AH) (L9 : GL) (e9 : Int) (v9 : Int) (c9 : Int → Int) => (800 - i).toNat) (G := fun (g : Int) (i : Int) (hh : AH) (L9 : GL) (e9 : Int) (v9 : Int) (c9 : Int → Int) => AQ w m_X6_readSum 9 8 [(0, vr t), (1, vi 3), (2, vi g), (3, vi i)] [] hh (am_int (fun z h1 => ((z = 1 ∧ ∃ L' he', rU kd st vl 1 L he = .inr (L', he') ∧ (he < he' ∧ he' ≤ n ∧ (L'.length : Int) ≤ (L.length : Int) + (he' - he)) ∧ ∃ nu' cd', SU h1 t u b j kd st vl he' nu' px (L'.length : Int) hs er ea cd' ∧ CL cd' L') ∨ (z = 0 ∧ ∃ e a, rU kd st vl 1 L he = .inl (e, a) ∧ SF h1 t u b j kd st vl e a)) ∧ am_fr h h1 t (t + 5)))) ?_ 0 0 h3 L 0 0 cd (⟨⟨by omega, by omega⟩, (am_fr.rf.tr Fh3), Or.inr ⟨rfl, _, _, by rw [rU_1]; exact rB_l qh3 _, Xh3⟩⟩)
    intro g i hh L9 e9 v9 c9 hI68 ih67
    obtain ⟨⟨i0, i1⟩, hfr, hG⟩ := hI68
    have hg9 : g = 0 ∨ g = 1 := by rcases hG with q | q; exact Or.inr q.1; exact Or.inl q.1
    refine q_blk (lv2 := [(0, vr t), (1, vi 3), (2, vi g), (3, vi i)]) (st2 := [vi 800, vi i]) kX6_readSum_8 rfl ?_
    refine AQ.ic_ge (tgt := 81) eX6_readSum_12 (by decide) (by first | assumption | exact ⟨by omega, by omega⟩) ⟨by decide, by decide⟩ (fun br69 => ?_) (fun br69 => ?_)
    · skip
      refine q_blk (lv2 := [(0, vr t), (1, vi 3), (2, vi g), (3, vi i)]) (st2 := [vi g]) kX6_readSum_81 rfl ?_
      exact q_rz rfl eX6_readSum_82 (by omega) ⟨g, rfl, (by rcases hG with ⟨rfl, hb9, hJ9, hL9, hS9⟩ | hG; exact Or.inl ⟨rfl, L9, e9, hJ9.symm.trans (rJ_end (Or.inl (by omega))), hb9, _, _, hS9, hL9⟩; exact Or.inr hG), hfr⟩
    · skip
      refine q_blk (lv2 := [(0, vr t), (1, vi 3), (2, vi g), (3, vi i)]) (st2 := [vi g]) kX6_readSum_15 rfl ?_
      refine AQ.if_eq (tgt := 81) eX6_readSum_16 (by decide) (by first | assumption | exact ⟨by omega, by omega⟩) (fun br70 => ?_) (fun br70 => ?_)
      · skip
        refine q_blk (lv2 := [(0, vr t), (1, vi 3), (2, vi g), (3, vi i)]) (st2 := [vi g]) kX6_readSum_81 rfl ?_
        exact q_rz rfl eX6_readSum_82 (by omega) ⟨g, rfl, (by rcases hG with ⟨rfl, hb9, hJ9, hL9, hS9⟩ | hG; exact Or.inl ⟨rfl, L9, e9, hJ9.symm.trans (rJ_end (Or.inl (by omega))), hb9, _, _, hS9, hL9⟩; exact Or.inr hG), hfr⟩
      · skip
        obtain ⟨-, ⟨b9a, b9b, b9c⟩, hJ9, hL9, hS9⟩ := hG.resolve_right (fun q => absurd q.1 (by omega))
        obtain ⟨wt, w0, w1, w2, w3, w4⟩ := id hS9
        have kr9 := kr e9 (by omega) (by omega)
        have hen9 : kd e9 ≠ 0 → e9 ≠ n := fun q e => by rw [e] at q; omega
        refine q_blk (lv2 := [(0, vr t), (1, vi 3), (2, vi g), (3, vi i)]) (st2 := [vr t]) kX6_readSum_19 rfl ?_
        refine q_Vi (av := []) (st := []) (c_X6_kindHere ⟨_, w0, w1, w2, w3, w4⟩ (by omega) (by omega)) lk_RX6_70 (by decide) rfl rfl ⟨_, _, _, w0⟩ ⟨_, rfl, rfl⟩ (Nat.le_of_ble_eq_true rfl) eX6_readSum_20 (fun z71 e72 => ?_)
        subst e72
        refine q_blk (lv2 := [(0, vr t), (1, vi 3), (2, vi g), (3, vi i), (4, vi (kd e9))]) (st2 := [vi 43, vi (kd e9)]) kX6_readSum_23 rfl ?_
        refine AQ.ic_eq (tgt := 41) eX6_readSum_29 (by decide) (by first | assumption | exact ⟨by omega, by omega⟩) ⟨by decide, by decide⟩ (fun br73 => ?_) (fun br73 => ?_)
        · skip
          refine q_blk (lv2 := [(0, vr t), (1, vi 3), (2, vi g), (3, vi i), (4, vi (kd e9))]) (st2 := [vr t, vr t]) kX6_readSum_41 rfl ?_
          refine q_gi eX6_readSum_43 fl_RX6_28 (Or.inl rfl) w0 (z := e9) rfl ?_
          refine q_blk (lv2 := [(0, vr t), (1, vi 3), (2, vi g), (3, vi i), (4, vi (kd e9))]) (st2 := [vi (e9 + 1), vr t]) kX6_readSum_46 rfl ?_
          refine q_pi eX6_readSum_48 fl_RX6_28 (fun q hq => by cases hq; exact Or.inl rfl) (Or.inl rfl) w0 (Nat.le_of_ble_eq_true rfl) (l2 := [0, 0, 0, 0, 0, 0, 0, wt, (e9 + 1), v9, px, (L9.length : Int), hs, er, ea]) rfl (fun h74 e75 => ?_)
          have k76 := am_at e75
          have k77 := (am_ne e75 (t + 1) (by omega)).trans w1
          have k78 := (am_ne e75 (t + 2) (by omega)).trans w2
          have k79 := (am_ne e75 (t + 3) (by omega)).trans w3
          have k80 := (am_ne e75 (t + 4) (by omega)).trans w4
          refine q_blk (lv2 := [(0, vr t), (1, vi 3), (2, vi g), (3, vi i), (4, vi (kd e9))]) (st2 := [vi 3, vr t]) kX6_readSum_51 rfl ?_
          refine AQ.callVi (av := [vi 3]) (st := []) (c_X6_readTerm3 (L := L9) ⟨_, k76, k77, k78, k79, k80⟩ n0 kn (by omega) (by omega) kr vq hL9 (by omega)) lk_RX6_227 (by decide) rfl rfl ⟨_, _, _, k76⟩ ⟨_, rfl, rfl⟩ (Nat.le_of_ble_eq_true rfl) eX6_readSum_53 (fun z81 h83 e82 => ?_)
          rcases e82 with ⟨⟨rfl, Lh83, hh83e, qh83, ⟨bh83a, bh83b, bh83c⟩, hh83n, hh83c, Xh83, Ch83⟩ | ⟨rfl, eh83, ah83, qh83, Xh83⟩, Fh83⟩
          · skip
            obtain ⟨g84t, g840, g841, g842, g843, g844⟩ := id Xh83
            refine q_blk (lv2 := [(0, vr t), (1, vi 3), (2, vi 1), (3, vi i), (4, vi (kd e9))]) (st2 := [vi 43, vi (kd e9), vr t]) kX6_readSum_56 rfl ?_
            refine AQ.ic_ne (tgt := 70) eX6_readSum_62 (by decide) (by first | assumption | exact ⟨by omega, by omega⟩) ⟨by decide, by decide⟩ (fun br85 => ?_) (fun br85 => ?_)
            · skip
              refine q_blk (lv2 := [(0, vr t), (1, vi 3), (2, vi 1), (3, vi i), (4, vi (kd e9))]) (st2 := [vi (-7), vr t]) kX6_readSum_70 rfl ?_
              refine AQ.callVv (av := [vi (-7)]) (st := []) (c_X6_addCode (v := (-7)) ⟨_, g840, g841, g842, g843, g844⟩ (by omega) (by omega)) lk_RX6_230 (by decide) rfl rfl ⟨_, _, _, g840⟩ ⟨_, rfl, rfl⟩ (Nat.le_of_ble_eq_true rfl) eX6_readSum_72 (fun h88 e87 => ?_)
              obtain ⟨Xh88, Fh88⟩ := e87
              obtain ⟨g89t, g890, g891, g892, g893, g894⟩ := id Xh88
              refine q_blk (lv2 := [(0, vr t), (1, vi 3), (2, vi 1), (3, vi (i + 1)), (4, vi (kd e9))]) (st2 := []) kX6_readSum_75 rfl ?_
              refine q_goto (tgt := 8) eX6_readSum_78 (by decide) ?_
              refine q_sub (lv2 := [(0, vr t), (1, vi 3), (2, vi 1), (3, vi (i + 1))]) [0, 1, 2, 3] rfl ?_
              exact ih67 1 (i + 1) h88 (Lh83 ++ [(3, 0)]) hh83e hh83n (am_uI hh83c (Lh83.length : Int) (-7)) (⟨⟨by omega, by omega⟩, hfr.tr (((am_fr.rf.tr (am_fr.st e75 (by omega) (by omega))).tr Fh83).tr Fh88), Or.inl ⟨rfl, ⟨by omega, by omega, by simp; omega⟩, by rw [show 800 - (i + 1).toNat = 800 - i.toNat - 1 by omega]; exact (rJ_go (o := 3) (by omega) (by omega) qh83).symm.trans hJ9, Ch83.add (by unfold gm_en; simp), SU.cast ⟨_, g890, g891, g892, g893, g894⟩ (by simp)⟩⟩) (by omega)
            · skip
              refine q_blk (lv2 := [(0, vr t), (1, vi 3), (2, vi 1), (3, vi i), (4, vi (kd e9))]) (st2 := [vi (-6), vr t]) kX6_readSum_65 rfl ?_
              refine q_goto (tgt := 72) eX6_readSum_67 (by decide) ?_
              refine AQ.callVv (av := [vi (-6)]) (st := []) (c_X6_addCode (v := (-6)) ⟨_, g840, g841, g842, g843, g844⟩ (by omega) (by omega)) lk_RX6_230 (by decide) rfl rfl ⟨_, _, _, g840⟩ ⟨_, rfl, rfl⟩ (Nat.le_of_ble_eq_true rfl) eX6_readSum_72 (fun h92 e91 => ?_)
              obtain ⟨Xh92, Fh92⟩ := e91
              obtain ⟨g93t, g930, g931, g932, g933, g934⟩ := id Xh92
              refine q_blk (lv2 := [(0, vr t), (1, vi 3), (2, vi 1), (3, vi (i + 1)), (4, vi (kd e9))]) (st2 := []) kX6_readSum_75 rfl ?_
              refine q_goto (tgt := 8) eX6_readSum_78 (by decide) ?_
              refine q_sub (lv2 := [(0, vr t), (1, vi 3), (2, vi 1), (3, vi (i + 1))]) [0, 1, 2, 3] rfl ?_
              exact ih67 1 (i + 1) h92 (Lh83 ++ [(2, 0)]) hh83e hh83n (am_uI hh83c (Lh83.length : Int) (-6)) (⟨⟨by omega, by omega⟩, hfr.tr (((am_fr.rf.tr (am_fr.st e75 (by omega) (by omega))).tr Fh83).tr Fh92), Or.inl ⟨rfl, ⟨by omega, by omega, by simp; omega⟩, by rw [show 800 - (i + 1).toNat = 800 - i.toNat - 1 by omega]; exact (rJ_go (o := 2) (by omega) (by omega) qh83).symm.trans hJ9, Ch83.add (by unfold gm_en; simp), SU.cast ⟨_, g930, g931, g932, g933, g934⟩ (by simp)⟩⟩) (by omega)
          · skip
            refine q_blk (lv2 := [(0, vr t), (1, vi 3), (2, vi 0), (3, vi i), (4, vi (kd e9))]) (st2 := [vi 43, vi (kd e9), vr t]) kX6_readSum_56 rfl ?_
            refine AQ.ic_ne (tgt := 70) eX6_readSum_62 (by decide) (by first | assumption | exact ⟨by omega, by omega⟩) ⟨by decide, by decide⟩ (fun br94 => ?_) (fun br94 => ?_)
            · skip
              refine q_blk (lv2 := [(0, vr t), (1, vi 3), (2, vi 0), (3, vi i), (4, vi (kd e9))]) (st2 := [vi (-7), vr t]) kX6_readSum_70 rfl ?_
              refine AQ.callVv (av := [vi (-7)]) (st := []) (c_X6_addCodeF Xh83 (v := (-7))) lk_RX6_230 (by decide) rfl rfl (SF.ob Xh83) ⟨_, rfl, rfl⟩ (Nat.le_of_ble_eq_true rfl) eX6_readSum_72 (fun h97 e96 => ?_)
              obtain ⟨Xh97, Fh97⟩ := e96
              refine q_blk (lv2 := [(0, vr t), (1, vi 3), (2, vi 0), (3, vi (i + 1)), (4, vi (kd e9))]) (st2 := []) kX6_readSum_75 rfl ?_
              refine q_goto (tgt := 8) eX6_readSum_78 (by decide) ?_
              refine q_sub (lv2 := [(0, vr t), (1, vi 3), (2, vi 0), (3, vi (i + 1))]) [0, 1, 2, 3] rfl ?_
              exact ih67 0 (i + 1) h97 L 0 0 cd (⟨⟨by omega, by omega⟩, hfr.tr (((am_fr.rf.tr (am_fr.st e75 (by omega) (by omega))).tr Fh83).tr Fh97), Or.inr ⟨rfl, _, _, hJ9.symm.trans (rJ_no (by omega) (by omega) qh83), Xh97⟩⟩) (by omega)
            · skip
              refine q_blk (lv2 := [(0, vr t), (1, vi 3), (2, vi 0), (3, vi i), (4, vi (kd e9))]) (st2 := [vi (-6), vr t]) kX6_readSum_65 rfl ?_
              refine q_goto (tgt := 72) eX6_readSum_67 (by decide) ?_
              refine AQ.callVv (av := [vi (-6)]) (st := []) (c_X6_addCodeF Xh83 (v := (-6))) lk_RX6_230 (by decide) rfl rfl (SF.ob Xh83) ⟨_, rfl, rfl⟩ (Nat.le_of_ble_eq_true rfl) eX6_readSum_72 (fun h100 e99 => ?_)
              obtain ⟨Xh100, Fh100⟩ := e99
              refine q_blk (lv2 := [(0, vr t), (1, vi 3), (2, vi 0), (3, vi (i + 1)), (4, vi (kd e9))]) (st2 := []) kX6_readSum_75 rfl ?_
              refine q_goto (tgt := 8) eX6_readSum_78 (by decide) ?_
              refine q_sub (lv2 := [(0, vr t), (1, vi 3), (2, vi 0), (3, vi (i + 1))]) [0, 1, 2, 3] rfl ?_
              exact ih67 0 (i + 1) h100 L 0 0 cd (⟨⟨by omega, by omega⟩, hfr.tr (((am_fr.rf.tr (am_fr.st e75 (by omega) (by omega))).tr Fh83).tr Fh100), Or.inr ⟨rfl, _, _, hJ9.symm.trans (rJ_no (by omega) (by omega) qh83), Xh100⟩⟩) (by omega)
        · skip
          refine q_blk (lv2 := [(0, vr t), (1, vi 3), (2, vi g), (3, vi i), (4, vi (kd e9))]) (st2 := [vi 45, vi (kd e9)]) kX6_readSum_32 rfl ?_
          refine AQ.ic_eq (tgt := 41) eX6_readSum_36 (by decide) (by first | assumption | exact ⟨by omega, by omega⟩) ⟨by decide, by decide⟩ (fun br101 => ?_) (fun br101 => ?_)
          · skip
            refine q_blk (lv2 := [(0, vr t), (1, vi 3), (2, vi g), (3, vi i), (4, vi (kd e9))]) (st2 := [vr t, vr t]) kX6_readSum_41 rfl ?_
            refine q_gi eX6_readSum_43 fl_RX6_28 (Or.inl rfl) w0 (z := e9) rfl ?_
            refine q_blk (lv2 := [(0, vr t), (1, vi 3), (2, vi g), (3, vi i), (4, vi (kd e9))]) (st2 := [vi (e9 + 1), vr t]) kX6_readSum_46 rfl ?_
            refine q_pi eX6_readSum_48 fl_RX6_28 (fun q hq => by cases hq; exact Or.inl rfl) (Or.inl rfl) w0 (Nat.le_of_ble_eq_true rfl) (l2 := [0, 0, 0, 0, 0, 0, 0, wt, (e9 + 1), v9, px, (L9.length : Int), hs, er, ea]) rfl (fun h102 e103 => ?_)
            have k104 := am_at e103
            have k105 := (am_ne e103 (t + 1) (by omega)).trans w1
            have k106 := (am_ne e103 (t + 2) (by omega)).trans w2
            have k107 := (am_ne e103 (t + 3) (by omega)).trans w3
            have k108 := (am_ne e103 (t + 4) (by omega)).trans w4
            refine q_blk (lv2 := [(0, vr t), (1, vi 3), (2, vi g), (3, vi i), (4, vi (kd e9))]) (st2 := [vi 3, vr t]) kX6_readSum_51 rfl ?_
            refine AQ.callVi (av := [vi 3]) (st := []) (c_X6_readTerm3 (L := L9) ⟨_, k104, k105, k106, k107, k108⟩ n0 kn (by omega) (by omega) kr vq hL9 (by omega)) lk_RX6_227 (by decide) rfl rfl ⟨_, _, _, k104⟩ ⟨_, rfl, rfl⟩ (Nat.le_of_ble_eq_true rfl) eX6_readSum_53 (fun z109 h111 e110 => ?_)
            rcases e110 with ⟨⟨rfl, Lh111, hh111e, qh111, ⟨bh111a, bh111b, bh111c⟩, hh111n, hh111c, Xh111, Ch111⟩ | ⟨rfl, eh111, ah111, qh111, Xh111⟩, Fh111⟩
            · skip
              obtain ⟨g112t, g1120, g1121, g1122, g1123, g1124⟩ := id Xh111
              refine q_blk (lv2 := [(0, vr t), (1, vi 3), (2, vi 1), (3, vi i), (4, vi (kd e9))]) (st2 := [vi 43, vi (kd e9), vr t]) kX6_readSum_56 rfl ?_
              refine AQ.ic_ne (tgt := 70) eX6_readSum_62 (by decide) (by first | assumption | exact ⟨by omega, by omega⟩) ⟨by decide, by decide⟩ (fun br113 => ?_) (fun br113 => ?_)
              · skip
                refine q_blk (lv2 := [(0, vr t), (1, vi 3), (2, vi 1), (3, vi i), (4, vi (kd e9))]) (st2 := [vi (-7), vr t]) kX6_readSum_70 rfl ?_
                refine AQ.callVv (av := [vi (-7)]) (st := []) (c_X6_addCode (v := (-7)) ⟨_, g1120, g1121, g1122, g1123, g1124⟩ (by omega) (by omega)) lk_RX6_230 (by decide) rfl rfl ⟨_, _, _, g1120⟩ ⟨_, rfl, rfl⟩ (Nat.le_of_ble_eq_true rfl) eX6_readSum_72 (fun h116 e115 => ?_)
                obtain ⟨Xh116, Fh116⟩ := e115
                obtain ⟨g117t, g1170, g1171, g1172, g1173, g1174⟩ := id Xh116
                refine q_blk (lv2 := [(0, vr t), (1, vi 3), (2, vi 1), (3, vi (i + 1)), (4, vi (kd e9))]) (st2 := []) kX6_readSum_75 rfl ?_
                refine q_goto (tgt := 8) eX6_readSum_78 (by decide) ?_
                refine q_sub (lv2 := [(0, vr t), (1, vi 3), (2, vi 1), (3, vi (i + 1))]) [0, 1, 2, 3] rfl ?_
                exact ih67 1 (i + 1) h116 (Lh111 ++ [(3, 0)]) hh111e hh111n (am_uI hh111c (Lh111.length : Int) (-7)) (⟨⟨by omega, by omega⟩, hfr.tr (((am_fr.rf.tr (am_fr.st e103 (by omega) (by omega))).tr Fh111).tr Fh116), Or.inl ⟨rfl, ⟨by omega, by omega, by simp; omega⟩, by rw [show 800 - (i + 1).toNat = 800 - i.toNat - 1 by omega]; exact (rJ_go (o := 3) (by omega) (by omega) qh111).symm.trans hJ9, Ch111.add (by unfold gm_en; simp), SU.cast ⟨_, g1170, g1171, g1172, g1173, g1174⟩ (by simp)⟩⟩) (by omega)
              · skip
                refine q_blk (lv2 := [(0, vr t), (1, vi 3), (2, vi 1), (3, vi i), (4, vi (kd e9))]) (st2 := [vi (-6), vr t]) kX6_readSum_65 rfl ?_
                refine q_goto (tgt := 72) eX6_readSum_67 (by decide) ?_
                refine AQ.callVv (av := [vi (-6)]) (st := []) (c_X6_addCode (v := (-6)) ⟨_, g1120, g1121, g1122, g1123, g1124⟩ (by omega) (by omega)) lk_RX6_230 (by decide) rfl rfl ⟨_, _, _, g1120⟩ ⟨_, rfl, rfl⟩ (Nat.le_of_ble_eq_true rfl) eX6_readSum_72 (fun h120 e119 => ?_)
                obtain ⟨Xh120, Fh120⟩ := e119
                obtain ⟨g121t, g1210, g1211, g1212, g1213, g1214⟩ := id Xh120
                refine q_blk (lv2 := [(0, vr t), (1, vi 3), (2, vi 1), (3, vi (i + 1)), (4, vi (kd e9))]) (st2 := []) kX6_readSum_75 rfl ?_
                refine q_goto (tgt := 8) eX6_readSum_78 (by decide) ?_
                refine q_sub (lv2 := [(0, vr t), (1, vi 3), (2, vi 1), (3, vi (i + 1))]) [0, 1, 2, 3] rfl ?_
                exact ih67 1 (i + 1) h120 (Lh111 ++ [(2, 0)]) hh111e hh111n (am_uI hh111c (Lh111.length : Int) (-6)) (⟨⟨by omega, by omega⟩, hfr.tr (((am_fr.rf.tr (am_fr.st e103 (by omega) (by omega))).tr Fh111).tr Fh120), Or.inl ⟨rfl, ⟨by omega, by omega, by simp; omega⟩, by rw [show 800 - (i + 1).toNat = 800 - i.toNat - 1 by omega]; exact (rJ_go (o := 2) (by omega) (by omega) qh111).symm.trans hJ9, Ch111.add (by unfold gm_en; simp), SU.cast ⟨_, g1210, g1211, g1212, g1213, g1214⟩ (by simp)⟩⟩) (by omega)
            · skip
              refine q_blk (lv2 := [(0, vr t), (1, vi 3), (2, vi 0), (3, vi i), (4, vi (kd e9))]) (st2 := [vi 43, vi (kd e9), vr t]) kX6_readSum_56 rfl ?_
              refine AQ.ic_ne (tgt := 70) eX6_readSum_62 (by decide) (by first | assumption | exact ⟨by omega, by omega⟩) ⟨by decide, by decide⟩ (fun br122 => ?_) (fun br122 => ?_)
              · skip
                refine q_blk (lv2 := [(0, vr t), (1, vi 3), (2, vi 0), (3, vi i), (4, vi (kd e9))]) (st2 := [vi (-7), vr t]) kX6_readSum_70 rfl ?_
                refine AQ.callVv (av := [vi (-7)]) (st := []) (c_X6_addCodeF Xh111 (v := (-7))) lk_RX6_230 (by decide) rfl rfl (SF.ob Xh111) ⟨_, rfl, rfl⟩ (Nat.le_of_ble_eq_true rfl) eX6_readSum_72 (fun h125 e124 => ?_)
                obtain ⟨Xh125, Fh125⟩ := e124
                refine q_blk (lv2 := [(0, vr t), (1, vi 3), (2, vi 0), (3, vi (i + 1)), (4, vi (kd e9))]) (st2 := []) kX6_readSum_75 rfl ?_
                refine q_goto (tgt := 8) eX6_readSum_78 (by decide) ?_
                refine q_sub (lv2 := [(0, vr t), (1, vi 3), (2, vi 0), (3, vi (i + 1))]) [0, 1, 2, 3] rfl ?_
                exact ih67 0 (i + 1) h125 L 0 0 cd (⟨⟨by omega, by omega⟩, hfr.tr (((am_fr.rf.tr (am_fr.st e103 (by omega) (by omega))).tr Fh111).tr Fh125), Or.inr ⟨rfl, _, _, hJ9.symm.trans (rJ_no (by omega) (by omega) qh111), Xh125⟩⟩) (by omega)
              · skip
                refine q_blk (lv2 := [(0, vr t), (1, vi 3), (2, vi 0), (3, vi i), (4, vi (kd e9))]) (st2 := [vi (-6), vr t]) kX6_readSum_65 rfl ?_
                refine q_goto (tgt := 72) eX6_readSum_67 (by decide) ?_
                refine AQ.callVv (av := [vi (-6)]) (st := []) (c_X6_addCodeF Xh111 (v := (-6))) lk_RX6_230 (by decide) rfl rfl (SF.ob Xh111) ⟨_, rfl, rfl⟩ (Nat.le_of_ble_eq_true rfl) eX6_readSum_72 (fun h128 e127 => ?_)
                obtain ⟨Xh128, Fh128⟩ := e127
                refine q_blk (lv2 := [(0, vr t), (1, vi 3), (2, vi 0), (3, vi (i + 1)), (4, vi (kd e9))]) (st2 := []) kX6_readSum_75 rfl ?_
                refine q_goto (tgt := 8) eX6_readSum_78 (by decide) ?_
                refine q_sub (lv2 := [(0, vr t), (1, vi 3), (2, vi 0), (3, vi (i + 1))]) [0, 1, 2, 3] rfl ?_
                exact ih67 0 (i + 1) h128 L 0 0 cd (⟨⟨by omega, by omega⟩, hfr.tr (((am_fr.rf.tr (am_fr.st e103 (by omega) (by omega))).tr Fh111).tr Fh128), Or.inr ⟨rfl, _, _, hJ9.symm.trans (rJ_no (by omega) (by omega) qh111), Xh128⟩⟩) (by omega)
          · skip
            refine q_blk (lv2 := [(0, vr t), (1, vi 3), (2, vi g), (3, vi i), (4, vi (kd e9))]) (st2 := [vi 1]) kX6_readSum_39 rfl ?_
            exact q_rz rfl eX6_readSum_40 (by decide) ⟨1, rfl, Or.inl ⟨rfl, L9, e9, hJ9.symm.trans (rJ_end (Or.inr ⟨by omega, by omega⟩)), ⟨by omega, by omega, by omega⟩, _, _, ⟨_, w0, w1, w2, w3, w4⟩, hL9⟩, hfr.tr am_fr.rf⟩

set_option maxHeartbeats 1000000 in
theorem c_X6_readFactor2 {w : am_w} {h : AH} {L : GL} {t u b j : Nat} {kd st vl : Int → Int} {he nu px hs er ea : Int} {cd : Int → Int} (hS : SU h t u b j kd st vl he nu px (L.length : Int) hs er ea cd) {n : Int} (n0 : n ≤ 800) (kn : kd n = 0) (he0 : 0 ≤ he) (he1 : he ≤ n) (kr : ∀ i, 0 ≤ i → i < 801 → -5 ≤ kd i ∧ kd i ≤ 100) (vq : ∀ i, 0 ≤ i → i < 801 → 0 ≤ vl i ∧ vl i ≤ 10000) (hL : CL cd L) (hl : (L.length : Int) ≤ he)  : AE w m_X6_readFactor 10 [vr t, vi 2] h (am_int (fun z h1 => ((z = 1 ∧ ∃ L' he', rA kd st vl (some (rU kd st vl 1)) L he = .inr (L', he') ∧ (he < he' ∧ he' ≤ n ∧ (L'.length : Int) ≤ (L.length : Int) + (he' - he)) ∧ ∃ nu' cd', SU h1 t u b j kd st vl he' nu' px (L'.length : Int) hs er ea cd' ∧ CL cd' L') ∨ (z = 0 ∧ ∃ e a, rA kd st vl (some (rU kd st vl 1)) L he = .inl (e, a) ∧ SF h1 t u b j kd st vl e a)) ∧ am_fr h h1 t (t + 5))) := by
  refine AE.of wf_X6_readFactor (Nat.le_of_ble_eq_true rfl) (am_ok_z (fun z h1 q => by rcases q.1 with q | q; exact Or.inr q.1; exact Or.inl q.1)) ?_
  obtain ⟨tc, c0, c1, c2, c3, c4⟩ := id hS
  have kr1 := kr he he0 (by omega)
  have vr1 := vq he he0 (by omega)
  have hen : kd he ≠ 0 → he ≠ n := fun q e9 => by rw [e9] at q; omega
  refine q_blk (lv2 := [(0, vr t), (1, vi 2)]) (st2 := [vr t]) kX6_readFactor_0 rfl ?_
  refine q_Vi (av := []) (st := []) (c_X6_kindHere ⟨_, c0, c1, c2, c3, c4⟩ (by omega) (by omega)) lk_RX6_70 (by decide) rfl rfl ⟨_, _, _, c0⟩ ⟨_, rfl, rfl⟩ (Nat.le_of_ble_eq_true rfl) eX6_readFactor_1 (fun z1 e2 => ?_)
  subst e2
  refine q_blk (lv2 := [(0, vr t), (1, vi 2), (2, vi (kd he))]) (st2 := [vi 40, vi (kd he)]) kX6_readFactor_4 rfl ?_
  refine AQ.ic_ne (tgt := 58) eX6_readFactor_8 (by decide) (by first | assumption | exact ⟨by omega, by omega⟩) ⟨by decide, by decide⟩ (fun br3 => ?_) (fun br3 => ?_)
  · skip
    refine q_blk (lv2 := [(0, vr t), (1, vi 2), (2, vi (kd he))]) (st2 := [vi (kd he)]) kX6_readFactor_58 rfl ?_
    refine AQ.if_ge (tgt := 79) eX6_readFactor_59 (by decide) (by first | assumption | exact ⟨by omega, by omega⟩) (fun br4 => ?_) (fun br4 => ?_)
    · skip
      refine q_blk (lv2 := [(0, vr t), (1, vi 2), (2, vi (kd he))]) (st2 := [vi 2, vi (kd he)]) kX6_readFactor_79 rfl ?_
      refine AQ.ic_eq (tgt := 91) eX6_readFactor_81 (by decide) (by first | assumption | exact ⟨by omega, by omega⟩) ⟨by decide, by decide⟩ (fun br5 => ?_) (fun br5 => ?_)
      · skip
        refine q_blk (lv2 := [(0, vr t), (1, vi 2), (2, vi (kd he))]) (st2 := [vr t, vr t]) kX6_readFactor_91 rfl ?_
        refine q_Vi (av := []) (st := [vr t]) (c_X6_valueHere ⟨_, c0, c1, c2, c3, c4⟩ (by omega) (by omega)) lk_RX6_148 (by decide) rfl rfl ⟨_, _, _, c0⟩ ⟨_, rfl, rfl⟩ (Nat.le_of_ble_eq_true rfl) eX6_readFactor_93 (fun z6 e7 => ?_)
        subst e7
        refine q_pi eX6_readFactor_96 fl_RX6_31 (fun q hq => by cases hq; exact Or.inl rfl) (Or.inl rfl) c0 (Nat.le_of_ble_eq_true rfl) (l2 := [0, 0, 0, 0, 0, 0, 0, tc, he, (vl he), px, (L.length : Int), hs, er, ea]) rfl (fun h8 e9 => ?_)
        have k10 := am_at e9
        have k11 := (am_ne e9 (t + 1) (by omega)).trans c1
        have k12 := (am_ne e9 (t + 2) (by omega)).trans c2
        have k13 := (am_ne e9 (t + 3) (by omega)).trans c3
        have k14 := (am_ne e9 (t + 4) (by omega)).trans c4
        refine q_blk (lv2 := [(0, vr t), (1, vi 2), (2, vi (kd he))]) (st2 := [vr t]) kX6_readFactor_99 rfl ?_
        refine q_gi eX6_readFactor_100 fl_RX6_31 (Or.inl rfl) k10 (z := (vl he)) rfl ?_
        refine q_blk (lv2 := [(0, vr t), (1, vi 2), (2, vi (kd he))]) (st2 := [vi 9999, vi (vl he)]) kX6_readFactor_103 rfl ?_
        refine AQ.ic_le (tgt := 116) eX6_readFactor_106 (by decide) (by first | assumption | exact ⟨by omega, by omega⟩) ⟨by decide, by decide⟩ (fun br15 => ?_) (fun br15 => ?_)
        · skip
          refine q_blk (lv2 := [(0, vr t), (1, vi 2), (2, vi (kd he))]) (st2 := [vr t, vr t]) kX6_readFactor_116 rfl ?_
          refine q_gi eX6_readFactor_118 fl_RX6_28 (Or.inl rfl) k10 (z := he) rfl ?_
          refine q_blk (lv2 := [(0, vr t), (1, vi 2), (2, vi (kd he))]) (st2 := [vi (he + 1), vr t]) kX6_readFactor_121 rfl ?_
          refine q_pi eX6_readFactor_123 fl_RX6_28 (fun q hq => by cases hq; exact Or.inl rfl) (Or.inl rfl) k10 (Nat.le_of_ble_eq_true rfl) (l2 := [0, 0, 0, 0, 0, 0, 0, tc, (he + 1), (vl he), px, (L.length : Int), hs, er, ea]) rfl (fun h16 e17 => ?_)
          have k18 := am_at e17
          have k19 := (am_ne e17 (t + 1) (by omega)).trans k11
          have k20 := (am_ne e17 (t + 2) (by omega)).trans k12
          have k21 := (am_ne e17 (t + 3) (by omega)).trans k13
          have k22 := (am_ne e17 (t + 4) (by omega)).trans k14
          refine q_blk (lv2 := [(0, vr t), (1, vi 2), (2, vi (kd he))]) (st2 := [vr t, vr t]) kX6_readFactor_126 rfl ?_
          refine q_gi eX6_readFactor_128 fl_RX6_31 (Or.inl rfl) k18 (z := (vl he)) rfl ?_
          refine AQ.callVv (av := [vi (vl he)]) (st := []) (c_X6_addCode (v := (vl he)) ⟨_, k18, k19, k20, k21, k22⟩ (by omega) (by omega)) lk_RX6_230 (by decide) rfl rfl ⟨_, _, _, k18⟩ ⟨_, rfl, rfl⟩ (Nat.le_of_ble_eq_true rfl) eX6_readFactor_131 (fun h25 e24 => ?_)
          obtain ⟨Xh25, Fh25⟩ := e24
          obtain ⟨g26t, g260, g261, g262, g263, g264⟩ := id Xh25
          refine q_blk (lv2 := [(0, vr t), (1, vi 2), (2, vi (kd he))]) (st2 := [vi 1]) kX6_readFactor_134 rfl ?_
          exact q_rz rfl eX6_readFactor_135 (by decide) ⟨1, rfl, Or.inl ⟨rfl, L ++ [(0, vl he)], he + 1, by unfold rA; rw [if_neg (by omega), if_neg (by omega), if_pos (by omega), if_pos (by omega)], ⟨by omega, by omega, by simp; omega⟩, (vl he), (am_uI cd (L.length : Int) (vl he)), SU.cast ⟨_, g260, g261, g262, g263, g264⟩ (by simp), hL.add (by unfold gm_en; (try simp); (try omega))⟩, ((am_fr.rf.tr ((am_fr.st e9 (by omega) (by omega)).tr (am_fr.st e17 (by omega) (by omega)))).tr Fh25)⟩
        · skip
          refine q_blk (lv2 := [(0, vr t), (1, vi 2), (2, vi (kd he))]) (st2 := [vi (-3), vr t]) kX6_readFactor_109 rfl ?_
          refine AQ.callVi (av := [vi (-3)]) (st := []) (c_X6_fail (e := (-3)) ⟨_, k10, k11, k12, k13, k14⟩ (by omega) (by omega)) lk_RX6_83 (by decide) rfl rfl ⟨_, _, _, k10⟩ ⟨_, rfl, rfl⟩ (Nat.le_of_ble_eq_true rfl) eX6_readFactor_112 (fun z27 h29 e28 => ?_)
          obtain ⟨z270, Xh29, Fh29⟩ := e28
          subst z270
          obtain ⟨g30t, g300, g301, g302, g303, g304⟩ := id Xh29
          exact q_rz rfl eX6_readFactor_115 (by decide) ⟨0, rfl, Or.inr ⟨rfl, _, _, by unfold rA; rw [if_neg (by omega), if_neg (by omega), if_pos (by omega), if_neg (by omega)], ⟨_, _, _, _, _, _, ⟨_, g300, g301, g302, g303, g304⟩, by omega, by omega⟩⟩, ((am_fr.rf.tr (am_fr.st e9 (by omega) (by omega))).tr Fh29)⟩
      · skip
        refine q_blk (lv2 := [(0, vr t), (1, vi 2), (2, vi (kd he))]) (st2 := [vi (-2), vr t]) kX6_readFactor_84 rfl ?_
        refine AQ.callVi (av := [vi (-2)]) (st := []) (c_X6_fail (e := (-2)) ⟨_, c0, c1, c2, c3, c4⟩ (by omega) (by omega)) lk_RX6_83 (by decide) rfl rfl ⟨_, _, _, c0⟩ ⟨_, rfl, rfl⟩ (Nat.le_of_ble_eq_true rfl) eX6_readFactor_87 (fun z31 h33 e32 => ?_)
        obtain ⟨z310, Xh33, Fh33⟩ := e32
        subst z310
        obtain ⟨g34t, g340, g341, g342, g343, g344⟩ := id Xh33
        exact q_rz rfl eX6_readFactor_90 (by decide) ⟨0, rfl, Or.inr ⟨rfl, _, _, by unfold rA; rw [if_neg (by omega), if_neg (by omega), if_neg (by omega)], ⟨_, _, _, _, _, _, ⟨_, g340, g341, g342, g343, g344⟩, by omega, by omega⟩⟩, (am_fr.rf.tr Fh33)⟩
    · skip
      refine q_blk (lv2 := [(0, vr t), (1, vi 2), (2, vi (kd he))]) (st2 := [vr t, vr t]) kX6_readFactor_62 rfl ?_
      refine q_gi eX6_readFactor_64 fl_RX6_28 (Or.inl rfl) c0 (z := he) rfl ?_
      refine q_blk (lv2 := [(0, vr t), (1, vi 2), (2, vi (kd he))]) (st2 := [vi (he + 1), vr t]) kX6_readFactor_67 rfl ?_
      refine q_pi eX6_readFactor_69 fl_RX6_28 (fun q hq => by cases hq; exact Or.inl rfl) (Or.inl rfl) c0 (Nat.le_of_ble_eq_true rfl) (l2 := [0, 0, 0, 0, 0, 0, 0, tc, (he + 1), nu, px, (L.length : Int), hs, er, ea]) rfl (fun h35 e36 => ?_)
      have k37 := am_at e36
      have k38 := (am_ne e36 (t + 1) (by omega)).trans c1
      have k39 := (am_ne e36 (t + 2) (by omega)).trans c2
      have k40 := (am_ne e36 (t + 3) (by omega)).trans c3
      have k41 := (am_ne e36 (t + 4) (by omega)).trans c4
      refine q_blk (lv2 := [(0, vr t), (1, vi 2), (2, vi (kd he))]) (st2 := [vi (kd he), vr t]) kX6_readFactor_72 rfl ?_
      refine AQ.callVv (av := [vi (kd he)]) (st := []) (c_X6_addCode (v := (kd he)) ⟨_, k37, k38, k39, k40, k41⟩ (by omega) (by omega)) lk_RX6_230 (by decide) rfl rfl ⟨_, _, _, k37⟩ ⟨_, rfl, rfl⟩ (Nat.le_of_ble_eq_true rfl) eX6_readFactor_74 (fun h44 e43 => ?_)
      obtain ⟨Xh44, Fh44⟩ := e43
      obtain ⟨g45t, g450, g451, g452, g453, g454⟩ := id Xh44
      refine q_blk (lv2 := [(0, vr t), (1, vi 2), (2, vi (kd he))]) (st2 := [vi 1]) kX6_readFactor_77 rfl ?_
      exact q_rz rfl eX6_readFactor_78 (by decide) ⟨1, rfl, Or.inl ⟨rfl, L ++ [(1, -1 - kd he)], he + 1, by unfold rA; rw [if_neg (by omega), if_pos (by omega)], ⟨by omega, by omega, by simp; omega⟩, nu, (am_uI cd (L.length : Int) (kd he)), SU.cast ⟨_, g450, g451, g452, g453, g454⟩ (by simp), hL.add (by unfold gm_en; (try simp); (try omega))⟩, ((am_fr.rf.tr (am_fr.st e36 (by omega) (by omega))).tr Fh44)⟩
  · skip
    refine q_blk (lv2 := [(0, vr t), (1, vi 2), (2, vi (kd he))]) (st2 := [vi 4, vi 2]) kX6_readFactor_11 rfl ?_
    refine AQ.of (AS.ic_lt_t (tgt := 23) eX6_readFactor_13 (by decide) ⟨by decide, by decide⟩ ⟨by decide, by decide⟩ (by decide)) ?_
    refine q_blk (lv2 := [(0, vr t), (1, vi 2), (2, vi (kd he))]) (st2 := [vr t, vr t]) kX6_readFactor_23 rfl ?_
    refine q_gi eX6_readFactor_25 fl_RX6_28 (Or.inl rfl) c0 (z := he) rfl ?_
    refine q_blk (lv2 := [(0, vr t), (1, vi 2), (2, vi (kd he))]) (st2 := [vi (he + 1), vr t]) kX6_readFactor_28 rfl ?_
    refine q_pi eX6_readFactor_30 fl_RX6_28 (fun q hq => by cases hq; exact Or.inl rfl) (Or.inl rfl) c0 (Nat.le_of_ble_eq_true rfl) (l2 := [0, 0, 0, 0, 0, 0, 0, tc, (he + 1), nu, px, (L.length : Int), hs, er, ea]) rfl (fun h46 e47 => ?_)
    have k48 := am_at e47
    have k49 := (am_ne e47 (t + 1) (by omega)).trans c1
    have k50 := (am_ne e47 (t + 2) (by omega)).trans c2
    have k51 := (am_ne e47 (t + 3) (by omega)).trans c3
    have k52 := (am_ne e47 (t + 4) (by omega)).trans c4
    refine q_blk (lv2 := [(0, vr t), (1, vi 2), (2, vi (kd he))]) (st2 := [vi (2 + 1), vr t]) kX6_readFactor_33 rfl ?_
    refine AQ.callVi (av := [vi (2 + 1)]) (st := []) (c_X6_readSum3 (L := L) ⟨_, k48, k49, k50, k51, k52⟩ n0 kn (by omega) (by omega) kr vq hL (by omega)) lk_RX6_215 (by decide) rfl rfl ⟨_, _, _, k48⟩ ⟨_, rfl, rfl⟩ (Nat.le_of_ble_eq_true rfl) eX6_readFactor_37 (fun z53 h55 e54 => ?_)
    rcases e54 with ⟨⟨rfl, Lh55, hh55e, qh55, ⟨bh55a, bh55b, bh55c⟩, hh55n, hh55c, Xh55, Ch55⟩ | ⟨rfl, eh55, ah55, qh55, Xh55⟩, Fh55⟩
    · skip
      obtain ⟨g56t, g560, g561, g562, g563, g564⟩ := id Xh55
      refine AQ.of (AS.if_eq_f eX6_readFactor_40 ⟨by decide, by decide⟩ (by decide) (by decide)) ?_
      refine q_blk (lv2 := [(0, vr t), (1, vi 2), (2, vi (kd he))]) (st2 := [vi 41, vr t]) kX6_readFactor_43 rfl ?_
      refine AQ.callVi (av := [vi 41]) (st := []) (c_X6_take ⟨_, g560, g561, g562, g563, g564⟩ (by omega) (by omega) kr vq (k := 41) (by omega) (by omega)) lk_RX6_166 (by decide) rfl rfl ⟨_, _, _, g560⟩ ⟨_, rfl, rfl⟩ (Nat.le_of_ble_eq_true rfl) eX6_readFactor_46 (fun z57 h59 e58 => ?_)
      rcases e58 with ⟨⟨rfl, qh59, Xh59⟩ | ⟨rfl, qh59, Xh59⟩, Fh59⟩
      · skip
        obtain ⟨g60t, g600, g601, g602, g603, g604⟩ := id Xh59
        have nh59 : hh55e ≠ n := fun e9 => by rw [e9] at qh59; omega
        refine AQ.of (AS.if_eq_f eX6_readFactor_49 ⟨by decide, by decide⟩ (by decide) (by decide)) ?_
        refine q_blk (lv2 := [(0, vr t), (1, vi 2), (2, vi (kd he))]) (st2 := [vi 1]) kX6_readFactor_52 rfl ?_
        refine q_goto (tgt := 57) eX6_readFactor_53 (by decide) ?_
        exact q_rz rfl eX6_readFactor_57 (by decide) ⟨1, rfl, Or.inl ⟨rfl, _, _, by unfold rA; rw [if_pos (by omega)]; exact (rB_r qh55 _).trans (rB_r (show rT kd st 41 hh55e = .inr () by unfold rT; rw [if_pos qh59]) _), ⟨by omega, by omega, by omega⟩, _, _, ⟨_, g600, g601, g602, g603, g604⟩, Ch55⟩, (((am_fr.rf.tr (am_fr.st e47 (by omega) (by omega))).tr Fh55).tr Fh59)⟩
      · skip
        obtain ⟨g61t, g610, g611, g612, g613, g614⟩ := id Xh59
        refine AQ.of (AS.if_eq_t (tgt := 56) eX6_readFactor_49 (by decide) ⟨by decide, by decide⟩ (by decide)) ?_
        refine q_blk (lv2 := [(0, vr t), (1, vi 2), (2, vi (kd he))]) (st2 := [vi 0]) kX6_readFactor_56 rfl ?_
        exact q_rz rfl eX6_readFactor_57 (by decide) ⟨0, rfl, Or.inr ⟨rfl, _, _, by unfold rA; rw [if_pos (by omega)]; exact (rB_r qh55 _).trans (rB_l (show rT kd st 41 hh55e = .inl (-2, st hh55e) by unfold rT; rw [if_neg qh59]) _), ⟨_, _, _, _, _, _, ⟨_, g610, g611, g612, g613, g614⟩, by omega, by omega⟩⟩, (((am_fr.rf.tr (am_fr.st e47 (by omega) (by omega))).tr Fh55).tr Fh59)⟩
    · skip
      refine AQ.of (AS.if_eq_t (tgt := 56) eX6_readFactor_40 (by decide) ⟨by decide, by decide⟩ (by decide)) ?_
      refine q_blk (lv2 := [(0, vr t), (1, vi 2), (2, vi (kd he))]) (st2 := [vi 0]) kX6_readFactor_56 rfl ?_
      exact q_rz rfl eX6_readFactor_57 (by decide) ⟨0, rfl, Or.inr ⟨rfl, _, _, by unfold rA; rw [if_pos (by omega)]; exact rB_l qh55 _, Xh55⟩, ((am_fr.rf.tr (am_fr.st e47 (by omega) (by omega))).tr Fh55)⟩

set_option maxHeartbeats 1000000 in
theorem c_X6_readTerm2 {w : am_w} {h : AH} {L : GL} {t u b j : Nat} {kd st vl : Int → Int} {he nu px hs er ea : Int} {cd : Int → Int} (hS : SU h t u b j kd st vl he nu px (L.length : Int) hs er ea cd) {n : Int} (n0 : n ≤ 800) (kn : kd n = 0) (he0 : 0 ≤ he) (he1 : he ≤ n) (kr : ∀ i, 0 ≤ i → i < 801 → -5 ≤ kd i ∧ kd i ≤ 100) (vq : ∀ i, 0 ≤ i → i < 801 → 0 ≤ vl i ∧ vl i ≤ 10000) (hL : CL cd L) (hl : (L.length : Int) ≤ he)  : AE w m_X6_readTerm 11 [vr t, vi 2] h (am_int (fun z h1 => ((z = 1 ∧ ∃ L' he', rM kd st vl (some (rU kd st vl 1)) L he = .inr (L', he') ∧ (he < he' ∧ he' ≤ n ∧ (L'.length : Int) ≤ (L.length : Int) + (he' - he)) ∧ ∃ nu' cd', SU h1 t u b j kd st vl he' nu' px (L'.length : Int) hs er ea cd' ∧ CL cd' L') ∨ (z = 0 ∧ ∃ e a, rM kd st vl (some (rU kd st vl 1)) L he = .inl (e, a) ∧ SF h1 t u b j kd st vl e a)) ∧ am_fr h h1 t (t + 5))) := by
  refine AE.of wf_X6_readTerm (Nat.le_of_ble_eq_true rfl) (am_ok_z (fun z h1 q => by rcases q.1 with q | q; exact Or.inr q.1; exact Or.inl q.1)) ?_
  obtain ⟨tc, c0, c1, c2, c3, c4⟩ := id hS
  have kr1 := kr he he0 (by omega)
  have vr1 := vq he he0 (by omega)
  have hen : kd he ≠ 0 → he ≠ n := fun q e9 => by rw [e9] at q; omega
  refine q_blk (lv2 := [(0, vr t), (1, vi 2)]) (st2 := [vi 2, vr t]) kX6_readTerm_0 rfl ?_
  refine AQ.callVi (av := [vi 2]) (st := []) (c_X6_readFactor2 (L := L) ⟨_, c0, c1, c2, c3, c4⟩ n0 kn (by omega) (by omega) kr vq hL (by omega)) lk_RX6_233 (by decide) rfl rfl ⟨_, _, _, c0⟩ ⟨_, rfl, rfl⟩ (Nat.le_of_ble_eq_true rfl) eX6_readTerm_2 (fun z1 h3 e2 => ?_)
  rcases e2 with ⟨⟨rfl, Lh3, hh3e, qh3, ⟨bh3a, bh3b, bh3c⟩, hh3n, hh3c, Xh3, Ch3⟩ | ⟨rfl, eh3, ah3, qh3, Xh3⟩, Fh3⟩
  · skip
    obtain ⟨g4t, g40, g41, g42, g43, g44⟩ := id Xh3
    refine q_blk (lv2 := [(0, vr t), (1, vi 2), (2, vi 1), (3, vi 0)]) (st2 := []) kX6_readTerm_5 rfl ?_
    refine am_lp7 (I := fun (g : Int) (i : Int) (hh : AH) (L9 : GL) (e9 : Int) (v9 : Int) (c9 : Int → Int) => (0 ≤ i ∧ i ≤ 800) ∧ am_fr h hh t (t + 5) ∧ ((g = 1 ∧ (he < e9 ∧ e9 ≤ n ∧ (L9.length : Int) ≤ (L.length : Int) + (e9 - he)) ∧ rJ kd (rA kd st vl (some (rU kd st vl 1))) 42 47 4 5 (800 - i.toNat) L9 e9 = rM kd st vl (some (rU kd st vl 1)) L he ∧ CL c9 L9 ∧ SU hh t u b j kd st vl e9 v9 px (L9.length : Int) hs er ea c9) ∨ (g = 0 ∧ ∃ e a, rM kd st vl (some (rU kd st vl 1)) L he = .inl (e, a) ∧ SF hh t u b j kd st vl e a))) (μ := fun (g : Int) (i : Int) (hh : AH) (L9 : GL) (e9 : Int) (v9 : Int) (c9 : Int → Int) => (800 - i).toNat) (G := fun (g : Int) (i : Int) (hh : AH) (L9 : GL) (e9 : Int) (v9 : Int) (c9 : Int → Int) => AQ w m_X6_readTerm 11 8 [(0, vr t), (1, vi 2), (2, vi g), (3, vi i)] [] hh (am_int (fun z h1 => ((z = 1 ∧ ∃ L' he', rM kd st vl (some (rU kd st vl 1)) L he = .inr (L', he') ∧ (he < he' ∧ he' ≤ n ∧ (L'.length : Int) ≤ (L.length : Int) + (he' - he)) ∧ ∃ nu' cd', SU h1 t u b j kd st vl he' nu' px (L'.length : Int) hs er ea cd' ∧ CL cd' L') ∨ (z = 0 ∧ ∃ e a, rM kd st vl (some (rU kd st vl 1)) L he = .inl (e, a) ∧ SF h1 t u b j kd st vl e a)) ∧ am_fr h h1 t (t + 5)))) ?_ 1 0 h3 Lh3 hh3e hh3n hh3c (⟨⟨by omega, by omega⟩, (am_fr.rf.tr Fh3), Or.inl ⟨rfl, ⟨by omega, by omega, by omega⟩, by rw [show (800 - (0 : Int).toNat : Nat) = 800 from rfl]; unfold rM; rw [rB_r qh3], Ch3, ⟨_, g40, g41, g42, g43, g44⟩⟩⟩)
    intro g i hh L9 e9 v9 c9 hI6 ih5
    obtain ⟨⟨i0, i1⟩, hfr, hG⟩ := hI6
    have hg9 : g = 0 ∨ g = 1 := by rcases hG with q | q; exact Or.inr q.1; exact Or.inl q.1
    refine q_blk (lv2 := [(0, vr t), (1, vi 2), (2, vi g), (3, vi i)]) (st2 := [vi 800, vi i]) kX6_readTerm_8 rfl ?_
    refine AQ.ic_ge (tgt := 81) eX6_readTerm_12 (by decide) (by first | assumption | exact ⟨by omega, by omega⟩) ⟨by decide, by decide⟩ (fun br7 => ?_) (fun br7 => ?_)
    · skip
      refine q_blk (lv2 := [(0, vr t), (1, vi 2), (2, vi g), (3, vi i)]) (st2 := [vi g]) kX6_readTerm_81 rfl ?_
      exact q_rz rfl eX6_readTerm_82 (by omega) ⟨g, rfl, (by rcases hG with ⟨rfl, hb9, hJ9, hL9, hS9⟩ | hG; exact Or.inl ⟨rfl, L9, e9, hJ9.symm.trans (rJ_end (Or.inl (by omega))), hb9, _, _, hS9, hL9⟩; exact Or.inr hG), hfr⟩
    · skip
      refine q_blk (lv2 := [(0, vr t), (1, vi 2), (2, vi g), (3, vi i)]) (st2 := [vi g]) kX6_readTerm_15 rfl ?_
      refine AQ.if_eq (tgt := 81) eX6_readTerm_16 (by decide) (by first | assumption | exact ⟨by omega, by omega⟩) (fun br8 => ?_) (fun br8 => ?_)
      · skip
        refine q_blk (lv2 := [(0, vr t), (1, vi 2), (2, vi g), (3, vi i)]) (st2 := [vi g]) kX6_readTerm_81 rfl ?_
        exact q_rz rfl eX6_readTerm_82 (by omega) ⟨g, rfl, (by rcases hG with ⟨rfl, hb9, hJ9, hL9, hS9⟩ | hG; exact Or.inl ⟨rfl, L9, e9, hJ9.symm.trans (rJ_end (Or.inl (by omega))), hb9, _, _, hS9, hL9⟩; exact Or.inr hG), hfr⟩
      · skip
        obtain ⟨-, ⟨b9a, b9b, b9c⟩, hJ9, hL9, hS9⟩ := hG.resolve_right (fun q => absurd q.1 (by omega))
        obtain ⟨wt, w0, w1, w2, w3, w4⟩ := id hS9
        have kr9 := kr e9 (by omega) (by omega)
        have hen9 : kd e9 ≠ 0 → e9 ≠ n := fun q e => by rw [e] at q; omega
        refine q_blk (lv2 := [(0, vr t), (1, vi 2), (2, vi g), (3, vi i)]) (st2 := [vr t]) kX6_readTerm_19 rfl ?_
        refine q_Vi (av := []) (st := []) (c_X6_kindHere ⟨_, w0, w1, w2, w3, w4⟩ (by omega) (by omega)) lk_RX6_70 (by decide) rfl rfl ⟨_, _, _, w0⟩ ⟨_, rfl, rfl⟩ (Nat.le_of_ble_eq_true rfl) eX6_readTerm_20 (fun z9 e10 => ?_)
        subst e10
        refine q_blk (lv2 := [(0, vr t), (1, vi 2), (2, vi g), (3, vi i), (4, vi (kd e9))]) (st2 := [vi 42, vi (kd e9)]) kX6_readTerm_23 rfl ?_
        refine AQ.ic_eq (tgt := 41) eX6_readTerm_29 (by decide) (by first | assumption | exact ⟨by omega, by omega⟩) ⟨by decide, by decide⟩ (fun br11 => ?_) (fun br11 => ?_)
        · skip
          refine q_blk (lv2 := [(0, vr t), (1, vi 2), (2, vi g), (3, vi i), (4, vi (kd e9))]) (st2 := [vr t, vr t]) kX6_readTerm_41 rfl ?_
          refine q_gi eX6_readTerm_43 fl_RX6_28 (Or.inl rfl) w0 (z := e9) rfl ?_
          refine q_blk (lv2 := [(0, vr t), (1, vi 2), (2, vi g), (3, vi i), (4, vi (kd e9))]) (st2 := [vi (e9 + 1), vr t]) kX6_readTerm_46 rfl ?_
          refine q_pi eX6_readTerm_48 fl_RX6_28 (fun q hq => by cases hq; exact Or.inl rfl) (Or.inl rfl) w0 (Nat.le_of_ble_eq_true rfl) (l2 := [0, 0, 0, 0, 0, 0, 0, wt, (e9 + 1), v9, px, (L9.length : Int), hs, er, ea]) rfl (fun h12 e13 => ?_)
          have k14 := am_at e13
          have k15 := (am_ne e13 (t + 1) (by omega)).trans w1
          have k16 := (am_ne e13 (t + 2) (by omega)).trans w2
          have k17 := (am_ne e13 (t + 3) (by omega)).trans w3
          have k18 := (am_ne e13 (t + 4) (by omega)).trans w4
          refine q_blk (lv2 := [(0, vr t), (1, vi 2), (2, vi g), (3, vi i), (4, vi (kd e9))]) (st2 := [vi 2, vr t]) kX6_readTerm_51 rfl ?_
          refine AQ.callVi (av := [vi 2]) (st := []) (c_X6_readFactor2 (L := L9) ⟨_, k14, k15, k16, k17, k18⟩ n0 kn (by omega) (by omega) kr vq hL9 (by omega)) lk_RX6_233 (by decide) rfl rfl ⟨_, _, _, k14⟩ ⟨_, rfl, rfl⟩ (Nat.le_of_ble_eq_true rfl) eX6_readTerm_53 (fun z19 h21 e20 => ?_)
          rcases e20 with ⟨⟨rfl, Lh21, hh21e, qh21, ⟨bh21a, bh21b, bh21c⟩, hh21n, hh21c, Xh21, Ch21⟩ | ⟨rfl, eh21, ah21, qh21, Xh21⟩, Fh21⟩
          · skip
            obtain ⟨g22t, g220, g221, g222, g223, g224⟩ := id Xh21
            refine q_blk (lv2 := [(0, vr t), (1, vi 2), (2, vi 1), (3, vi i), (4, vi (kd e9))]) (st2 := [vi 42, vi (kd e9), vr t]) kX6_readTerm_56 rfl ?_
            refine AQ.ic_ne (tgt := 70) eX6_readTerm_62 (by decide) (by first | assumption | exact ⟨by omega, by omega⟩) ⟨by decide, by decide⟩ (fun br23 => ?_) (fun br23 => ?_)
            · skip
              refine q_blk (lv2 := [(0, vr t), (1, vi 2), (2, vi 1), (3, vi i), (4, vi (kd e9))]) (st2 := [vi (-9), vr t]) kX6_readTerm_70 rfl ?_
              refine AQ.callVv (av := [vi (-9)]) (st := []) (c_X6_addCode (v := (-9)) ⟨_, g220, g221, g222, g223, g224⟩ (by omega) (by omega)) lk_RX6_230 (by decide) rfl rfl ⟨_, _, _, g220⟩ ⟨_, rfl, rfl⟩ (Nat.le_of_ble_eq_true rfl) eX6_readTerm_72 (fun h26 e25 => ?_)
              obtain ⟨Xh26, Fh26⟩ := e25
              obtain ⟨g27t, g270, g271, g272, g273, g274⟩ := id Xh26
              refine q_blk (lv2 := [(0, vr t), (1, vi 2), (2, vi 1), (3, vi (i + 1)), (4, vi (kd e9))]) (st2 := []) kX6_readTerm_75 rfl ?_
              refine q_goto (tgt := 8) eX6_readTerm_78 (by decide) ?_
              refine q_sub (lv2 := [(0, vr t), (1, vi 2), (2, vi 1), (3, vi (i + 1))]) [0, 1, 2, 3] rfl ?_
              exact ih5 1 (i + 1) h26 (Lh21 ++ [(5, 0)]) hh21e hh21n (am_uI hh21c (Lh21.length : Int) (-9)) (⟨⟨by omega, by omega⟩, hfr.tr (((am_fr.rf.tr (am_fr.st e13 (by omega) (by omega))).tr Fh21).tr Fh26), Or.inl ⟨rfl, ⟨by omega, by omega, by simp; omega⟩, by rw [show 800 - (i + 1).toNat = 800 - i.toNat - 1 by omega]; exact (rJ_go (o := 5) (by omega) (by omega) qh21).symm.trans hJ9, Ch21.add (by unfold gm_en; simp), SU.cast ⟨_, g270, g271, g272, g273, g274⟩ (by simp)⟩⟩) (by omega)
            · skip
              refine q_blk (lv2 := [(0, vr t), (1, vi 2), (2, vi 1), (3, vi i), (4, vi (kd e9))]) (st2 := [vi (-8), vr t]) kX6_readTerm_65 rfl ?_
              refine q_goto (tgt := 72) eX6_readTerm_67 (by decide) ?_
              refine AQ.callVv (av := [vi (-8)]) (st := []) (c_X6_addCode (v := (-8)) ⟨_, g220, g221, g222, g223, g224⟩ (by omega) (by omega)) lk_RX6_230 (by decide) rfl rfl ⟨_, _, _, g220⟩ ⟨_, rfl, rfl⟩ (Nat.le_of_ble_eq_true rfl) eX6_readTerm_72 (fun h30 e29 => ?_)
              obtain ⟨Xh30, Fh30⟩ := e29
              obtain ⟨g31t, g310, g311, g312, g313, g314⟩ := id Xh30
              refine q_blk (lv2 := [(0, vr t), (1, vi 2), (2, vi 1), (3, vi (i + 1)), (4, vi (kd e9))]) (st2 := []) kX6_readTerm_75 rfl ?_
              refine q_goto (tgt := 8) eX6_readTerm_78 (by decide) ?_
              refine q_sub (lv2 := [(0, vr t), (1, vi 2), (2, vi 1), (3, vi (i + 1))]) [0, 1, 2, 3] rfl ?_
              exact ih5 1 (i + 1) h30 (Lh21 ++ [(4, 0)]) hh21e hh21n (am_uI hh21c (Lh21.length : Int) (-8)) (⟨⟨by omega, by omega⟩, hfr.tr (((am_fr.rf.tr (am_fr.st e13 (by omega) (by omega))).tr Fh21).tr Fh30), Or.inl ⟨rfl, ⟨by omega, by omega, by simp; omega⟩, by rw [show 800 - (i + 1).toNat = 800 - i.toNat - 1 by omega]; exact (rJ_go (o := 4) (by omega) (by omega) qh21).symm.trans hJ9, Ch21.add (by unfold gm_en; simp), SU.cast ⟨_, g310, g311, g312, g313, g314⟩ (by simp)⟩⟩) (by omega)
          · skip
            refine q_blk (lv2 := [(0, vr t), (1, vi 2), (2, vi 0), (3, vi i), (4, vi (kd e9))]) (st2 := [vi 42, vi (kd e9), vr t]) kX6_readTerm_56 rfl ?_
            refine AQ.ic_ne (tgt := 70) eX6_readTerm_62 (by decide) (by first | assumption | exact ⟨by omega, by omega⟩) ⟨by decide, by decide⟩ (fun br32 => ?_) (fun br32 => ?_)
            · skip
              refine q_blk (lv2 := [(0, vr t), (1, vi 2), (2, vi 0), (3, vi i), (4, vi (kd e9))]) (st2 := [vi (-9), vr t]) kX6_readTerm_70 rfl ?_
              refine AQ.callVv (av := [vi (-9)]) (st := []) (c_X6_addCodeF Xh21 (v := (-9))) lk_RX6_230 (by decide) rfl rfl (SF.ob Xh21) ⟨_, rfl, rfl⟩ (Nat.le_of_ble_eq_true rfl) eX6_readTerm_72 (fun h35 e34 => ?_)
              obtain ⟨Xh35, Fh35⟩ := e34
              refine q_blk (lv2 := [(0, vr t), (1, vi 2), (2, vi 0), (3, vi (i + 1)), (4, vi (kd e9))]) (st2 := []) kX6_readTerm_75 rfl ?_
              refine q_goto (tgt := 8) eX6_readTerm_78 (by decide) ?_
              refine q_sub (lv2 := [(0, vr t), (1, vi 2), (2, vi 0), (3, vi (i + 1))]) [0, 1, 2, 3] rfl ?_
              exact ih5 0 (i + 1) h35 L 0 0 cd (⟨⟨by omega, by omega⟩, hfr.tr (((am_fr.rf.tr (am_fr.st e13 (by omega) (by omega))).tr Fh21).tr Fh35), Or.inr ⟨rfl, _, _, hJ9.symm.trans (rJ_no (by omega) (by omega) qh21), Xh35⟩⟩) (by omega)
            · skip
              refine q_blk (lv2 := [(0, vr t), (1, vi 2), (2, vi 0), (3, vi i), (4, vi (kd e9))]) (st2 := [vi (-8), vr t]) kX6_readTerm_65 rfl ?_
              refine q_goto (tgt := 72) eX6_readTerm_67 (by decide) ?_
              refine AQ.callVv (av := [vi (-8)]) (st := []) (c_X6_addCodeF Xh21 (v := (-8))) lk_RX6_230 (by decide) rfl rfl (SF.ob Xh21) ⟨_, rfl, rfl⟩ (Nat.le_of_ble_eq_true rfl) eX6_readTerm_72 (fun h38 e37 => ?_)
              obtain ⟨Xh38, Fh38⟩ := e37
              refine q_blk (lv2 := [(0, vr t), (1, vi 2), (2, vi 0), (3, vi (i + 1)), (4, vi (kd e9))]) (st2 := []) kX6_readTerm_75 rfl ?_
              refine q_goto (tgt := 8) eX6_readTerm_78 (by decide) ?_
              refine q_sub (lv2 := [(0, vr t), (1, vi 2), (2, vi 0), (3, vi (i + 1))]) [0, 1, 2, 3] rfl ?_
              exact ih5 0 (i + 1) h38 L 0 0 cd (⟨⟨by omega, by omega⟩, hfr.tr (((am_fr.rf.tr (am_fr.st e13 (by omega) (by omega))).tr Fh21).tr Fh38), Or.inr ⟨rfl, _, _, hJ9.symm.trans (rJ_no (by omega) (by omega) qh21), Xh38⟩⟩) (by omega)
        · skip
          refine q_blk (lv2 := [(0, vr t), (1, vi 2), (2, vi g), (3, vi i), (4, vi (kd e9))]) (st2 := [vi 47, vi (kd e9)]) kX6_readTerm_32 rfl ?_
          refine AQ.ic_eq (tgt := 41) eX6_readTerm_36 (by decide) (by first | assumption | exact ⟨by omega, by omega⟩) ⟨by decide, by decide⟩ (fun br39 => ?_) (fun br39 => ?_)
          · skip
            refine q_blk (lv2 := [(0, vr t), (1, vi 2), (2, vi g), (3, vi i), (4, vi (kd e9))]) (st2 := [vr t, vr t]) kX6_readTerm_41 rfl ?_
            refine q_gi eX6_readTerm_43 fl_RX6_28 (Or.inl rfl) w0 (z := e9) rfl ?_
            refine q_blk (lv2 := [(0, vr t), (1, vi 2), (2, vi g), (3, vi i), (4, vi (kd e9))]) (st2 := [vi (e9 + 1), vr t]) kX6_readTerm_46 rfl ?_
            refine q_pi eX6_readTerm_48 fl_RX6_28 (fun q hq => by cases hq; exact Or.inl rfl) (Or.inl rfl) w0 (Nat.le_of_ble_eq_true rfl) (l2 := [0, 0, 0, 0, 0, 0, 0, wt, (e9 + 1), v9, px, (L9.length : Int), hs, er, ea]) rfl (fun h40 e41 => ?_)
            have k42 := am_at e41
            have k43 := (am_ne e41 (t + 1) (by omega)).trans w1
            have k44 := (am_ne e41 (t + 2) (by omega)).trans w2
            have k45 := (am_ne e41 (t + 3) (by omega)).trans w3
            have k46 := (am_ne e41 (t + 4) (by omega)).trans w4
            refine q_blk (lv2 := [(0, vr t), (1, vi 2), (2, vi g), (3, vi i), (4, vi (kd e9))]) (st2 := [vi 2, vr t]) kX6_readTerm_51 rfl ?_
            refine AQ.callVi (av := [vi 2]) (st := []) (c_X6_readFactor2 (L := L9) ⟨_, k42, k43, k44, k45, k46⟩ n0 kn (by omega) (by omega) kr vq hL9 (by omega)) lk_RX6_233 (by decide) rfl rfl ⟨_, _, _, k42⟩ ⟨_, rfl, rfl⟩ (Nat.le_of_ble_eq_true rfl) eX6_readTerm_53 (fun z47 h49 e48 => ?_)
            rcases e48 with ⟨⟨rfl, Lh49, hh49e, qh49, ⟨bh49a, bh49b, bh49c⟩, hh49n, hh49c, Xh49, Ch49⟩ | ⟨rfl, eh49, ah49, qh49, Xh49⟩, Fh49⟩
            · skip
              obtain ⟨g50t, g500, g501, g502, g503, g504⟩ := id Xh49
              refine q_blk (lv2 := [(0, vr t), (1, vi 2), (2, vi 1), (3, vi i), (4, vi (kd e9))]) (st2 := [vi 42, vi (kd e9), vr t]) kX6_readTerm_56 rfl ?_
              refine AQ.ic_ne (tgt := 70) eX6_readTerm_62 (by decide) (by first | assumption | exact ⟨by omega, by omega⟩) ⟨by decide, by decide⟩ (fun br51 => ?_) (fun br51 => ?_)
              · skip
                refine q_blk (lv2 := [(0, vr t), (1, vi 2), (2, vi 1), (3, vi i), (4, vi (kd e9))]) (st2 := [vi (-9), vr t]) kX6_readTerm_70 rfl ?_
                refine AQ.callVv (av := [vi (-9)]) (st := []) (c_X6_addCode (v := (-9)) ⟨_, g500, g501, g502, g503, g504⟩ (by omega) (by omega)) lk_RX6_230 (by decide) rfl rfl ⟨_, _, _, g500⟩ ⟨_, rfl, rfl⟩ (Nat.le_of_ble_eq_true rfl) eX6_readTerm_72 (fun h54 e53 => ?_)
                obtain ⟨Xh54, Fh54⟩ := e53
                obtain ⟨g55t, g550, g551, g552, g553, g554⟩ := id Xh54
                refine q_blk (lv2 := [(0, vr t), (1, vi 2), (2, vi 1), (3, vi (i + 1)), (4, vi (kd e9))]) (st2 := []) kX6_readTerm_75 rfl ?_
                refine q_goto (tgt := 8) eX6_readTerm_78 (by decide) ?_
                refine q_sub (lv2 := [(0, vr t), (1, vi 2), (2, vi 1), (3, vi (i + 1))]) [0, 1, 2, 3] rfl ?_
                exact ih5 1 (i + 1) h54 (Lh49 ++ [(5, 0)]) hh49e hh49n (am_uI hh49c (Lh49.length : Int) (-9)) (⟨⟨by omega, by omega⟩, hfr.tr (((am_fr.rf.tr (am_fr.st e41 (by omega) (by omega))).tr Fh49).tr Fh54), Or.inl ⟨rfl, ⟨by omega, by omega, by simp; omega⟩, by rw [show 800 - (i + 1).toNat = 800 - i.toNat - 1 by omega]; exact (rJ_go (o := 5) (by omega) (by omega) qh49).symm.trans hJ9, Ch49.add (by unfold gm_en; simp), SU.cast ⟨_, g550, g551, g552, g553, g554⟩ (by simp)⟩⟩) (by omega)
              · skip
                refine q_blk (lv2 := [(0, vr t), (1, vi 2), (2, vi 1), (3, vi i), (4, vi (kd e9))]) (st2 := [vi (-8), vr t]) kX6_readTerm_65 rfl ?_
                refine q_goto (tgt := 72) eX6_readTerm_67 (by decide) ?_
                refine AQ.callVv (av := [vi (-8)]) (st := []) (c_X6_addCode (v := (-8)) ⟨_, g500, g501, g502, g503, g504⟩ (by omega) (by omega)) lk_RX6_230 (by decide) rfl rfl ⟨_, _, _, g500⟩ ⟨_, rfl, rfl⟩ (Nat.le_of_ble_eq_true rfl) eX6_readTerm_72 (fun h58 e57 => ?_)
                obtain ⟨Xh58, Fh58⟩ := e57
                obtain ⟨g59t, g590, g591, g592, g593, g594⟩ := id Xh58
                refine q_blk (lv2 := [(0, vr t), (1, vi 2), (2, vi 1), (3, vi (i + 1)), (4, vi (kd e9))]) (st2 := []) kX6_readTerm_75 rfl ?_
                refine q_goto (tgt := 8) eX6_readTerm_78 (by decide) ?_
                refine q_sub (lv2 := [(0, vr t), (1, vi 2), (2, vi 1), (3, vi (i + 1))]) [0, 1, 2, 3] rfl ?_
                exact ih5 1 (i + 1) h58 (Lh49 ++ [(4, 0)]) hh49e hh49n (am_uI hh49c (Lh49.length : Int) (-8)) (⟨⟨by omega, by omega⟩, hfr.tr (((am_fr.rf.tr (am_fr.st e41 (by omega) (by omega))).tr Fh49).tr Fh58), Or.inl ⟨rfl, ⟨by omega, by omega, by simp; omega⟩, by rw [show 800 - (i + 1).toNat = 800 - i.toNat - 1 by omega]; exact (rJ_go (o := 4) (by omega) (by omega) qh49).symm.trans hJ9, Ch49.add (by unfold gm_en; simp), SU.cast ⟨_, g590, g591, g592, g593, g594⟩ (by simp)⟩⟩) (by omega)
            · skip
              refine q_blk (lv2 := [(0, vr t), (1, vi 2), (2, vi 0), (3, vi i), (4, vi (kd e9))]) (st2 := [vi 42, vi (kd e9), vr t]) kX6_readTerm_56 rfl ?_
              refine AQ.ic_ne (tgt := 70) eX6_readTerm_62 (by decide) (by first | assumption | exact ⟨by omega, by omega⟩) ⟨by decide, by decide⟩ (fun br60 => ?_) (fun br60 => ?_)
              · skip
                refine q_blk (lv2 := [(0, vr t), (1, vi 2), (2, vi 0), (3, vi i), (4, vi (kd e9))]) (st2 := [vi (-9), vr t]) kX6_readTerm_70 rfl ?_
                refine AQ.callVv (av := [vi (-9)]) (st := []) (c_X6_addCodeF Xh49 (v := (-9))) lk_RX6_230 (by decide) rfl rfl (SF.ob Xh49) ⟨_, rfl, rfl⟩ (Nat.le_of_ble_eq_true rfl) eX6_readTerm_72 (fun h63 e62 => ?_)
                obtain ⟨Xh63, Fh63⟩ := e62
                refine q_blk (lv2 := [(0, vr t), (1, vi 2), (2, vi 0), (3, vi (i + 1)), (4, vi (kd e9))]) (st2 := []) kX6_readTerm_75 rfl ?_
                refine q_goto (tgt := 8) eX6_readTerm_78 (by decide) ?_
                refine q_sub (lv2 := [(0, vr t), (1, vi 2), (2, vi 0), (3, vi (i + 1))]) [0, 1, 2, 3] rfl ?_
                exact ih5 0 (i + 1) h63 L 0 0 cd (⟨⟨by omega, by omega⟩, hfr.tr (((am_fr.rf.tr (am_fr.st e41 (by omega) (by omega))).tr Fh49).tr Fh63), Or.inr ⟨rfl, _, _, hJ9.symm.trans (rJ_no (by omega) (by omega) qh49), Xh63⟩⟩) (by omega)
              · skip
                refine q_blk (lv2 := [(0, vr t), (1, vi 2), (2, vi 0), (3, vi i), (4, vi (kd e9))]) (st2 := [vi (-8), vr t]) kX6_readTerm_65 rfl ?_
                refine q_goto (tgt := 72) eX6_readTerm_67 (by decide) ?_
                refine AQ.callVv (av := [vi (-8)]) (st := []) (c_X6_addCodeF Xh49 (v := (-8))) lk_RX6_230 (by decide) rfl rfl (SF.ob Xh49) ⟨_, rfl, rfl⟩ (Nat.le_of_ble_eq_true rfl) eX6_readTerm_72 (fun h66 e65 => ?_)
                obtain ⟨Xh66, Fh66⟩ := e65
                refine q_blk (lv2 := [(0, vr t), (1, vi 2), (2, vi 0), (3, vi (i + 1)), (4, vi (kd e9))]) (st2 := []) kX6_readTerm_75 rfl ?_
                refine q_goto (tgt := 8) eX6_readTerm_78 (by decide) ?_
                refine q_sub (lv2 := [(0, vr t), (1, vi 2), (2, vi 0), (3, vi (i + 1))]) [0, 1, 2, 3] rfl ?_
                exact ih5 0 (i + 1) h66 L 0 0 cd (⟨⟨by omega, by omega⟩, hfr.tr (((am_fr.rf.tr (am_fr.st e41 (by omega) (by omega))).tr Fh49).tr Fh66), Or.inr ⟨rfl, _, _, hJ9.symm.trans (rJ_no (by omega) (by omega) qh49), Xh66⟩⟩) (by omega)
          · skip
            refine q_blk (lv2 := [(0, vr t), (1, vi 2), (2, vi g), (3, vi i), (4, vi (kd e9))]) (st2 := [vi 1]) kX6_readTerm_39 rfl ?_
            exact q_rz rfl eX6_readTerm_40 (by decide) ⟨1, rfl, Or.inl ⟨rfl, L9, e9, hJ9.symm.trans (rJ_end (Or.inr ⟨by omega, by omega⟩)), ⟨by omega, by omega, by omega⟩, _, _, ⟨_, w0, w1, w2, w3, w4⟩, hL9⟩, hfr.tr am_fr.rf⟩
  · skip
    refine q_blk (lv2 := [(0, vr t), (1, vi 2), (2, vi 0), (3, vi 0)]) (st2 := []) kX6_readTerm_5 rfl ?_
    refine am_lp7 (I := fun (g : Int) (i : Int) (hh : AH) (L9 : GL) (e9 : Int) (v9 : Int) (c9 : Int → Int) => (0 ≤ i ∧ i ≤ 800) ∧ am_fr h hh t (t + 5) ∧ ((g = 1 ∧ (he < e9 ∧ e9 ≤ n ∧ (L9.length : Int) ≤ (L.length : Int) + (e9 - he)) ∧ rJ kd (rA kd st vl (some (rU kd st vl 1))) 42 47 4 5 (800 - i.toNat) L9 e9 = rM kd st vl (some (rU kd st vl 1)) L he ∧ CL c9 L9 ∧ SU hh t u b j kd st vl e9 v9 px (L9.length : Int) hs er ea c9) ∨ (g = 0 ∧ ∃ e a, rM kd st vl (some (rU kd st vl 1)) L he = .inl (e, a) ∧ SF hh t u b j kd st vl e a))) (μ := fun (g : Int) (i : Int) (hh : AH) (L9 : GL) (e9 : Int) (v9 : Int) (c9 : Int → Int) => (800 - i).toNat) (G := fun (g : Int) (i : Int) (hh : AH) (L9 : GL) (e9 : Int) (v9 : Int) (c9 : Int → Int) => AQ w m_X6_readTerm 11 8 [(0, vr t), (1, vi 2), (2, vi g), (3, vi i)] [] hh (am_int (fun z h1 => ((z = 1 ∧ ∃ L' he', rM kd st vl (some (rU kd st vl 1)) L he = .inr (L', he') ∧ (he < he' ∧ he' ≤ n ∧ (L'.length : Int) ≤ (L.length : Int) + (he' - he)) ∧ ∃ nu' cd', SU h1 t u b j kd st vl he' nu' px (L'.length : Int) hs er ea cd' ∧ CL cd' L') ∨ (z = 0 ∧ ∃ e a, rM kd st vl (some (rU kd st vl 1)) L he = .inl (e, a) ∧ SF h1 t u b j kd st vl e a)) ∧ am_fr h h1 t (t + 5)))) ?_ 0 0 h3 L 0 0 cd (⟨⟨by omega, by omega⟩, (am_fr.rf.tr Fh3), Or.inr ⟨rfl, _, _, by unfold rM; exact rB_l qh3 _, Xh3⟩⟩)
    intro g i hh L9 e9 v9 c9 hI68 ih67
    obtain ⟨⟨i0, i1⟩, hfr, hG⟩ := hI68
    have hg9 : g = 0 ∨ g = 1 := by rcases hG with q | q; exact Or.inr q.1; exact Or.inl q.1
    refine q_blk (lv2 := [(0, vr t), (1, vi 2), (2, vi g), (3, vi i)]) (st2 := [vi 800, vi i]) kX6_readTerm_8 rfl ?_
    refine AQ.ic_ge (tgt := 81) eX6_readTerm_12 (by decide) (by first | assumption | exact ⟨by omega, by omega⟩) ⟨by decide, by decide⟩ (fun br69 => ?_) (fun br69 => ?_)
    · skip
      refine q_blk (lv2 := [(0, vr t), (1, vi 2), (2, vi g), (3, vi i)]) (st2 := [vi g]) kX6_readTerm_81 rfl ?_
      exact q_rz rfl eX6_readTerm_82 (by omega) ⟨g, rfl, (by rcases hG with ⟨rfl, hb9, hJ9, hL9, hS9⟩ | hG; exact Or.inl ⟨rfl, L9, e9, hJ9.symm.trans (rJ_end (Or.inl (by omega))), hb9, _, _, hS9, hL9⟩; exact Or.inr hG), hfr⟩
    · skip
      refine q_blk (lv2 := [(0, vr t), (1, vi 2), (2, vi g), (3, vi i)]) (st2 := [vi g]) kX6_readTerm_15 rfl ?_
      refine AQ.if_eq (tgt := 81) eX6_readTerm_16 (by decide) (by first | assumption | exact ⟨by omega, by omega⟩) (fun br70 => ?_) (fun br70 => ?_)
      · skip
        refine q_blk (lv2 := [(0, vr t), (1, vi 2), (2, vi g), (3, vi i)]) (st2 := [vi g]) kX6_readTerm_81 rfl ?_
        exact q_rz rfl eX6_readTerm_82 (by omega) ⟨g, rfl, (by rcases hG with ⟨rfl, hb9, hJ9, hL9, hS9⟩ | hG; exact Or.inl ⟨rfl, L9, e9, hJ9.symm.trans (rJ_end (Or.inl (by omega))), hb9, _, _, hS9, hL9⟩; exact Or.inr hG), hfr⟩
      · skip
        obtain ⟨-, ⟨b9a, b9b, b9c⟩, hJ9, hL9, hS9⟩ := hG.resolve_right (fun q => absurd q.1 (by omega))
        obtain ⟨wt, w0, w1, w2, w3, w4⟩ := id hS9
        have kr9 := kr e9 (by omega) (by omega)
        have hen9 : kd e9 ≠ 0 → e9 ≠ n := fun q e => by rw [e] at q; omega
        refine q_blk (lv2 := [(0, vr t), (1, vi 2), (2, vi g), (3, vi i)]) (st2 := [vr t]) kX6_readTerm_19 rfl ?_
        refine q_Vi (av := []) (st := []) (c_X6_kindHere ⟨_, w0, w1, w2, w3, w4⟩ (by omega) (by omega)) lk_RX6_70 (by decide) rfl rfl ⟨_, _, _, w0⟩ ⟨_, rfl, rfl⟩ (Nat.le_of_ble_eq_true rfl) eX6_readTerm_20 (fun z71 e72 => ?_)
        subst e72
        refine q_blk (lv2 := [(0, vr t), (1, vi 2), (2, vi g), (3, vi i), (4, vi (kd e9))]) (st2 := [vi 42, vi (kd e9)]) kX6_readTerm_23 rfl ?_
        refine AQ.ic_eq (tgt := 41) eX6_readTerm_29 (by decide) (by first | assumption | exact ⟨by omega, by omega⟩) ⟨by decide, by decide⟩ (fun br73 => ?_) (fun br73 => ?_)
        · skip
          refine q_blk (lv2 := [(0, vr t), (1, vi 2), (2, vi g), (3, vi i), (4, vi (kd e9))]) (st2 := [vr t, vr t]) kX6_readTerm_41 rfl ?_
          refine q_gi eX6_readTerm_43 fl_RX6_28 (Or.inl rfl) w0 (z := e9) rfl ?_
          refine q_blk (lv2 := [(0, vr t), (1, vi 2), (2, vi g), (3, vi i), (4, vi (kd e9))]) (st2 := [vi (e9 + 1), vr t]) kX6_readTerm_46 rfl ?_
          refine q_pi eX6_readTerm_48 fl_RX6_28 (fun q hq => by cases hq; exact Or.inl rfl) (Or.inl rfl) w0 (Nat.le_of_ble_eq_true rfl) (l2 := [0, 0, 0, 0, 0, 0, 0, wt, (e9 + 1), v9, px, (L9.length : Int), hs, er, ea]) rfl (fun h74 e75 => ?_)
          have k76 := am_at e75
          have k77 := (am_ne e75 (t + 1) (by omega)).trans w1
          have k78 := (am_ne e75 (t + 2) (by omega)).trans w2
          have k79 := (am_ne e75 (t + 3) (by omega)).trans w3
          have k80 := (am_ne e75 (t + 4) (by omega)).trans w4
          refine q_blk (lv2 := [(0, vr t), (1, vi 2), (2, vi g), (3, vi i), (4, vi (kd e9))]) (st2 := [vi 2, vr t]) kX6_readTerm_51 rfl ?_
          refine AQ.callVi (av := [vi 2]) (st := []) (c_X6_readFactor2 (L := L9) ⟨_, k76, k77, k78, k79, k80⟩ n0 kn (by omega) (by omega) kr vq hL9 (by omega)) lk_RX6_233 (by decide) rfl rfl ⟨_, _, _, k76⟩ ⟨_, rfl, rfl⟩ (Nat.le_of_ble_eq_true rfl) eX6_readTerm_53 (fun z81 h83 e82 => ?_)
          rcases e82 with ⟨⟨rfl, Lh83, hh83e, qh83, ⟨bh83a, bh83b, bh83c⟩, hh83n, hh83c, Xh83, Ch83⟩ | ⟨rfl, eh83, ah83, qh83, Xh83⟩, Fh83⟩
          · skip
            obtain ⟨g84t, g840, g841, g842, g843, g844⟩ := id Xh83
            refine q_blk (lv2 := [(0, vr t), (1, vi 2), (2, vi 1), (3, vi i), (4, vi (kd e9))]) (st2 := [vi 42, vi (kd e9), vr t]) kX6_readTerm_56 rfl ?_
            refine AQ.ic_ne (tgt := 70) eX6_readTerm_62 (by decide) (by first | assumption | exact ⟨by omega, by omega⟩) ⟨by decide, by decide⟩ (fun br85 => ?_) (fun br85 => ?_)
            · skip
              refine q_blk (lv2 := [(0, vr t), (1, vi 2), (2, vi 1), (3, vi i), (4, vi (kd e9))]) (st2 := [vi (-9), vr t]) kX6_readTerm_70 rfl ?_
              refine AQ.callVv (av := [vi (-9)]) (st := []) (c_X6_addCode (v := (-9)) ⟨_, g840, g841, g842, g843, g844⟩ (by omega) (by omega)) lk_RX6_230 (by decide) rfl rfl ⟨_, _, _, g840⟩ ⟨_, rfl, rfl⟩ (Nat.le_of_ble_eq_true rfl) eX6_readTerm_72 (fun h88 e87 => ?_)
              obtain ⟨Xh88, Fh88⟩ := e87
              obtain ⟨g89t, g890, g891, g892, g893, g894⟩ := id Xh88
              refine q_blk (lv2 := [(0, vr t), (1, vi 2), (2, vi 1), (3, vi (i + 1)), (4, vi (kd e9))]) (st2 := []) kX6_readTerm_75 rfl ?_
              refine q_goto (tgt := 8) eX6_readTerm_78 (by decide) ?_
              refine q_sub (lv2 := [(0, vr t), (1, vi 2), (2, vi 1), (3, vi (i + 1))]) [0, 1, 2, 3] rfl ?_
              exact ih67 1 (i + 1) h88 (Lh83 ++ [(5, 0)]) hh83e hh83n (am_uI hh83c (Lh83.length : Int) (-9)) (⟨⟨by omega, by omega⟩, hfr.tr (((am_fr.rf.tr (am_fr.st e75 (by omega) (by omega))).tr Fh83).tr Fh88), Or.inl ⟨rfl, ⟨by omega, by omega, by simp; omega⟩, by rw [show 800 - (i + 1).toNat = 800 - i.toNat - 1 by omega]; exact (rJ_go (o := 5) (by omega) (by omega) qh83).symm.trans hJ9, Ch83.add (by unfold gm_en; simp), SU.cast ⟨_, g890, g891, g892, g893, g894⟩ (by simp)⟩⟩) (by omega)
            · skip
              refine q_blk (lv2 := [(0, vr t), (1, vi 2), (2, vi 1), (3, vi i), (4, vi (kd e9))]) (st2 := [vi (-8), vr t]) kX6_readTerm_65 rfl ?_
              refine q_goto (tgt := 72) eX6_readTerm_67 (by decide) ?_
              refine AQ.callVv (av := [vi (-8)]) (st := []) (c_X6_addCode (v := (-8)) ⟨_, g840, g841, g842, g843, g844⟩ (by omega) (by omega)) lk_RX6_230 (by decide) rfl rfl ⟨_, _, _, g840⟩ ⟨_, rfl, rfl⟩ (Nat.le_of_ble_eq_true rfl) eX6_readTerm_72 (fun h92 e91 => ?_)
              obtain ⟨Xh92, Fh92⟩ := e91
              obtain ⟨g93t, g930, g931, g932, g933, g934⟩ := id Xh92
              refine q_blk (lv2 := [(0, vr t), (1, vi 2), (2, vi 1), (3, vi (i + 1)), (4, vi (kd e9))]) (st2 := []) kX6_readTerm_75 rfl ?_
              refine q_goto (tgt := 8) eX6_readTerm_78 (by decide) ?_
              refine q_sub (lv2 := [(0, vr t), (1, vi 2), (2, vi 1), (3, vi (i + 1))]) [0, 1, 2, 3] rfl ?_
              exact ih67 1 (i + 1) h92 (Lh83 ++ [(4, 0)]) hh83e hh83n (am_uI hh83c (Lh83.length : Int) (-8)) (⟨⟨by omega, by omega⟩, hfr.tr (((am_fr.rf.tr (am_fr.st e75 (by omega) (by omega))).tr Fh83).tr Fh92), Or.inl ⟨rfl, ⟨by omega, by omega, by simp; omega⟩, by rw [show 800 - (i + 1).toNat = 800 - i.toNat - 1 by omega]; exact (rJ_go (o := 4) (by omega) (by omega) qh83).symm.trans hJ9, Ch83.add (by unfold gm_en; simp), SU.cast ⟨_, g930, g931, g932, g933, g934⟩ (by simp)⟩⟩) (by omega)
          · skip
            refine q_blk (lv2 := [(0, vr t), (1, vi 2), (2, vi 0), (3, vi i), (4, vi (kd e9))]) (st2 := [vi 42, vi (kd e9), vr t]) kX6_readTerm_56 rfl ?_
            refine AQ.ic_ne (tgt := 70) eX6_readTerm_62 (by decide) (by first | assumption | exact ⟨by omega, by omega⟩) ⟨by decide, by decide⟩ (fun br94 => ?_) (fun br94 => ?_)
            · skip
              refine q_blk (lv2 := [(0, vr t), (1, vi 2), (2, vi 0), (3, vi i), (4, vi (kd e9))]) (st2 := [vi (-9), vr t]) kX6_readTerm_70 rfl ?_
              refine AQ.callVv (av := [vi (-9)]) (st := []) (c_X6_addCodeF Xh83 (v := (-9))) lk_RX6_230 (by decide) rfl rfl (SF.ob Xh83) ⟨_, rfl, rfl⟩ (Nat.le_of_ble_eq_true rfl) eX6_readTerm_72 (fun h97 e96 => ?_)
              obtain ⟨Xh97, Fh97⟩ := e96
              refine q_blk (lv2 := [(0, vr t), (1, vi 2), (2, vi 0), (3, vi (i + 1)), (4, vi (kd e9))]) (st2 := []) kX6_readTerm_75 rfl ?_
              refine q_goto (tgt := 8) eX6_readTerm_78 (by decide) ?_
              refine q_sub (lv2 := [(0, vr t), (1, vi 2), (2, vi 0), (3, vi (i + 1))]) [0, 1, 2, 3] rfl ?_
              exact ih67 0 (i + 1) h97 L 0 0 cd (⟨⟨by omega, by omega⟩, hfr.tr (((am_fr.rf.tr (am_fr.st e75 (by omega) (by omega))).tr Fh83).tr Fh97), Or.inr ⟨rfl, _, _, hJ9.symm.trans (rJ_no (by omega) (by omega) qh83), Xh97⟩⟩) (by omega)
            · skip
              refine q_blk (lv2 := [(0, vr t), (1, vi 2), (2, vi 0), (3, vi i), (4, vi (kd e9))]) (st2 := [vi (-8), vr t]) kX6_readTerm_65 rfl ?_
              refine q_goto (tgt := 72) eX6_readTerm_67 (by decide) ?_
              refine AQ.callVv (av := [vi (-8)]) (st := []) (c_X6_addCodeF Xh83 (v := (-8))) lk_RX6_230 (by decide) rfl rfl (SF.ob Xh83) ⟨_, rfl, rfl⟩ (Nat.le_of_ble_eq_true rfl) eX6_readTerm_72 (fun h100 e99 => ?_)
              obtain ⟨Xh100, Fh100⟩ := e99
              refine q_blk (lv2 := [(0, vr t), (1, vi 2), (2, vi 0), (3, vi (i + 1)), (4, vi (kd e9))]) (st2 := []) kX6_readTerm_75 rfl ?_
              refine q_goto (tgt := 8) eX6_readTerm_78 (by decide) ?_
              refine q_sub (lv2 := [(0, vr t), (1, vi 2), (2, vi 0), (3, vi (i + 1))]) [0, 1, 2, 3] rfl ?_
              exact ih67 0 (i + 1) h100 L 0 0 cd (⟨⟨by omega, by omega⟩, hfr.tr (((am_fr.rf.tr (am_fr.st e75 (by omega) (by omega))).tr Fh83).tr Fh100), Or.inr ⟨rfl, _, _, hJ9.symm.trans (rJ_no (by omega) (by omega) qh83), Xh100⟩⟩) (by omega)
        · skip
          refine q_blk (lv2 := [(0, vr t), (1, vi 2), (2, vi g), (3, vi i), (4, vi (kd e9))]) (st2 := [vi 47, vi (kd e9)]) kX6_readTerm_32 rfl ?_
          refine AQ.ic_eq (tgt := 41) eX6_readTerm_36 (by decide) (by first | assumption | exact ⟨by omega, by omega⟩) ⟨by decide, by decide⟩ (fun br101 => ?_) (fun br101 => ?_)
          · skip
            refine q_blk (lv2 := [(0, vr t), (1, vi 2), (2, vi g), (3, vi i), (4, vi (kd e9))]) (st2 := [vr t, vr t]) kX6_readTerm_41 rfl ?_
            refine q_gi eX6_readTerm_43 fl_RX6_28 (Or.inl rfl) w0 (z := e9) rfl ?_
            refine q_blk (lv2 := [(0, vr t), (1, vi 2), (2, vi g), (3, vi i), (4, vi (kd e9))]) (st2 := [vi (e9 + 1), vr t]) kX6_readTerm_46 rfl ?_
            refine q_pi eX6_readTerm_48 fl_RX6_28 (fun q hq => by cases hq; exact Or.inl rfl) (Or.inl rfl) w0 (Nat.le_of_ble_eq_true rfl) (l2 := [0, 0, 0, 0, 0, 0, 0, wt, (e9 + 1), v9, px, (L9.length : Int), hs, er, ea]) rfl (fun h102 e103 => ?_)
            have k104 := am_at e103
            have k105 := (am_ne e103 (t + 1) (by omega)).trans w1
            have k106 := (am_ne e103 (t + 2) (by omega)).trans w2
            have k107 := (am_ne e103 (t + 3) (by omega)).trans w3
            have k108 := (am_ne e103 (t + 4) (by omega)).trans w4
            refine q_blk (lv2 := [(0, vr t), (1, vi 2), (2, vi g), (3, vi i), (4, vi (kd e9))]) (st2 := [vi 2, vr t]) kX6_readTerm_51 rfl ?_
            refine AQ.callVi (av := [vi 2]) (st := []) (c_X6_readFactor2 (L := L9) ⟨_, k104, k105, k106, k107, k108⟩ n0 kn (by omega) (by omega) kr vq hL9 (by omega)) lk_RX6_233 (by decide) rfl rfl ⟨_, _, _, k104⟩ ⟨_, rfl, rfl⟩ (Nat.le_of_ble_eq_true rfl) eX6_readTerm_53 (fun z109 h111 e110 => ?_)
            rcases e110 with ⟨⟨rfl, Lh111, hh111e, qh111, ⟨bh111a, bh111b, bh111c⟩, hh111n, hh111c, Xh111, Ch111⟩ | ⟨rfl, eh111, ah111, qh111, Xh111⟩, Fh111⟩
            · skip
              obtain ⟨g112t, g1120, g1121, g1122, g1123, g1124⟩ := id Xh111
              refine q_blk (lv2 := [(0, vr t), (1, vi 2), (2, vi 1), (3, vi i), (4, vi (kd e9))]) (st2 := [vi 42, vi (kd e9), vr t]) kX6_readTerm_56 rfl ?_
              refine AQ.ic_ne (tgt := 70) eX6_readTerm_62 (by decide) (by first | assumption | exact ⟨by omega, by omega⟩) ⟨by decide, by decide⟩ (fun br113 => ?_) (fun br113 => ?_)
              · skip
                refine q_blk (lv2 := [(0, vr t), (1, vi 2), (2, vi 1), (3, vi i), (4, vi (kd e9))]) (st2 := [vi (-9), vr t]) kX6_readTerm_70 rfl ?_
                refine AQ.callVv (av := [vi (-9)]) (st := []) (c_X6_addCode (v := (-9)) ⟨_, g1120, g1121, g1122, g1123, g1124⟩ (by omega) (by omega)) lk_RX6_230 (by decide) rfl rfl ⟨_, _, _, g1120⟩ ⟨_, rfl, rfl⟩ (Nat.le_of_ble_eq_true rfl) eX6_readTerm_72 (fun h116 e115 => ?_)
                obtain ⟨Xh116, Fh116⟩ := e115
                obtain ⟨g117t, g1170, g1171, g1172, g1173, g1174⟩ := id Xh116
                refine q_blk (lv2 := [(0, vr t), (1, vi 2), (2, vi 1), (3, vi (i + 1)), (4, vi (kd e9))]) (st2 := []) kX6_readTerm_75 rfl ?_
                refine q_goto (tgt := 8) eX6_readTerm_78 (by decide) ?_
                refine q_sub (lv2 := [(0, vr t), (1, vi 2), (2, vi 1), (3, vi (i + 1))]) [0, 1, 2, 3] rfl ?_
                exact ih67 1 (i + 1) h116 (Lh111 ++ [(5, 0)]) hh111e hh111n (am_uI hh111c (Lh111.length : Int) (-9)) (⟨⟨by omega, by omega⟩, hfr.tr (((am_fr.rf.tr (am_fr.st e103 (by omega) (by omega))).tr Fh111).tr Fh116), Or.inl ⟨rfl, ⟨by omega, by omega, by simp; omega⟩, by rw [show 800 - (i + 1).toNat = 800 - i.toNat - 1 by omega]; exact (rJ_go (o := 5) (by omega) (by omega) qh111).symm.trans hJ9, Ch111.add (by unfold gm_en; simp), SU.cast ⟨_, g1170, g1171, g1172, g1173, g1174⟩ (by simp)⟩⟩) (by omega)
              · skip
                refine q_blk (lv2 := [(0, vr t), (1, vi 2), (2, vi 1), (3, vi i), (4, vi (kd e9))]) (st2 := [vi (-8), vr t]) kX6_readTerm_65 rfl ?_
                refine q_goto (tgt := 72) eX6_readTerm_67 (by decide) ?_
                refine AQ.callVv (av := [vi (-8)]) (st := []) (c_X6_addCode (v := (-8)) ⟨_, g1120, g1121, g1122, g1123, g1124⟩ (by omega) (by omega)) lk_RX6_230 (by decide) rfl rfl ⟨_, _, _, g1120⟩ ⟨_, rfl, rfl⟩ (Nat.le_of_ble_eq_true rfl) eX6_readTerm_72 (fun h120 e119 => ?_)
                obtain ⟨Xh120, Fh120⟩ := e119
                obtain ⟨g121t, g1210, g1211, g1212, g1213, g1214⟩ := id Xh120
                refine q_blk (lv2 := [(0, vr t), (1, vi 2), (2, vi 1), (3, vi (i + 1)), (4, vi (kd e9))]) (st2 := []) kX6_readTerm_75 rfl ?_
                refine q_goto (tgt := 8) eX6_readTerm_78 (by decide) ?_
                refine q_sub (lv2 := [(0, vr t), (1, vi 2), (2, vi 1), (3, vi (i + 1))]) [0, 1, 2, 3] rfl ?_
                exact ih67 1 (i + 1) h120 (Lh111 ++ [(4, 0)]) hh111e hh111n (am_uI hh111c (Lh111.length : Int) (-8)) (⟨⟨by omega, by omega⟩, hfr.tr (((am_fr.rf.tr (am_fr.st e103 (by omega) (by omega))).tr Fh111).tr Fh120), Or.inl ⟨rfl, ⟨by omega, by omega, by simp; omega⟩, by rw [show 800 - (i + 1).toNat = 800 - i.toNat - 1 by omega]; exact (rJ_go (o := 4) (by omega) (by omega) qh111).symm.trans hJ9, Ch111.add (by unfold gm_en; simp), SU.cast ⟨_, g1210, g1211, g1212, g1213, g1214⟩ (by simp)⟩⟩) (by omega)
            · skip
              refine q_blk (lv2 := [(0, vr t), (1, vi 2), (2, vi 0), (3, vi i), (4, vi (kd e9))]) (st2 := [vi 42, vi (kd e9), vr t]) kX6_readTerm_56 rfl ?_
              refine AQ.ic_ne (tgt := 70) eX6_readTerm_62 (by decide) (by first | assumption | exact ⟨by omega, by omega⟩) ⟨by decide, by decide⟩ (fun br122 => ?_) (fun br122 => ?_)
              · skip
                refine q_blk (lv2 := [(0, vr t), (1, vi 2), (2, vi 0), (3, vi i), (4, vi (kd e9))]) (st2 := [vi (-9), vr t]) kX6_readTerm_70 rfl ?_
                refine AQ.callVv (av := [vi (-9)]) (st := []) (c_X6_addCodeF Xh111 (v := (-9))) lk_RX6_230 (by decide) rfl rfl (SF.ob Xh111) ⟨_, rfl, rfl⟩ (Nat.le_of_ble_eq_true rfl) eX6_readTerm_72 (fun h125 e124 => ?_)
                obtain ⟨Xh125, Fh125⟩ := e124
                refine q_blk (lv2 := [(0, vr t), (1, vi 2), (2, vi 0), (3, vi (i + 1)), (4, vi (kd e9))]) (st2 := []) kX6_readTerm_75 rfl ?_
                refine q_goto (tgt := 8) eX6_readTerm_78 (by decide) ?_
                refine q_sub (lv2 := [(0, vr t), (1, vi 2), (2, vi 0), (3, vi (i + 1))]) [0, 1, 2, 3] rfl ?_
                exact ih67 0 (i + 1) h125 L 0 0 cd (⟨⟨by omega, by omega⟩, hfr.tr (((am_fr.rf.tr (am_fr.st e103 (by omega) (by omega))).tr Fh111).tr Fh125), Or.inr ⟨rfl, _, _, hJ9.symm.trans (rJ_no (by omega) (by omega) qh111), Xh125⟩⟩) (by omega)
              · skip
                refine q_blk (lv2 := [(0, vr t), (1, vi 2), (2, vi 0), (3, vi i), (4, vi (kd e9))]) (st2 := [vi (-8), vr t]) kX6_readTerm_65 rfl ?_
                refine q_goto (tgt := 72) eX6_readTerm_67 (by decide) ?_
                refine AQ.callVv (av := [vi (-8)]) (st := []) (c_X6_addCodeF Xh111 (v := (-8))) lk_RX6_230 (by decide) rfl rfl (SF.ob Xh111) ⟨_, rfl, rfl⟩ (Nat.le_of_ble_eq_true rfl) eX6_readTerm_72 (fun h128 e127 => ?_)
                obtain ⟨Xh128, Fh128⟩ := e127
                refine q_blk (lv2 := [(0, vr t), (1, vi 2), (2, vi 0), (3, vi (i + 1)), (4, vi (kd e9))]) (st2 := []) kX6_readTerm_75 rfl ?_
                refine q_goto (tgt := 8) eX6_readTerm_78 (by decide) ?_
                refine q_sub (lv2 := [(0, vr t), (1, vi 2), (2, vi 0), (3, vi (i + 1))]) [0, 1, 2, 3] rfl ?_
                exact ih67 0 (i + 1) h128 L 0 0 cd (⟨⟨by omega, by omega⟩, hfr.tr (((am_fr.rf.tr (am_fr.st e103 (by omega) (by omega))).tr Fh111).tr Fh128), Or.inr ⟨rfl, _, _, hJ9.symm.trans (rJ_no (by omega) (by omega) qh111), Xh128⟩⟩) (by omega)
          · skip
            refine q_blk (lv2 := [(0, vr t), (1, vi 2), (2, vi g), (3, vi i), (4, vi (kd e9))]) (st2 := [vi 1]) kX6_readTerm_39 rfl ?_
            exact q_rz rfl eX6_readTerm_40 (by decide) ⟨1, rfl, Or.inl ⟨rfl, L9, e9, hJ9.symm.trans (rJ_end (Or.inr ⟨by omega, by omega⟩)), ⟨by omega, by omega, by omega⟩, _, _, ⟨_, w0, w1, w2, w3, w4⟩, hL9⟩, hfr.tr am_fr.rf⟩

set_option maxHeartbeats 1000000 in
theorem c_X6_readSum2 {w : am_w} {h : AH} {L : GL} {t u b j : Nat} {kd st vl : Int → Int} {he nu px hs er ea : Int} {cd : Int → Int} (hS : SU h t u b j kd st vl he nu px (L.length : Int) hs er ea cd) {n : Int} (n0 : n ≤ 800) (kn : kd n = 0) (he0 : 0 ≤ he) (he1 : he ≤ n) (kr : ∀ i, 0 ≤ i → i < 801 → -5 ≤ kd i ∧ kd i ≤ 100) (vq : ∀ i, 0 ≤ i → i < 801 → 0 ≤ vl i ∧ vl i ≤ 10000) (hL : CL cd L) (hl : (L.length : Int) ≤ he)  : AE w m_X6_readSum 12 [vr t, vi 2] h (am_int (fun z h1 => ((z = 1 ∧ ∃ L' he', rU kd st vl 2 L he = .inr (L', he') ∧ (he < he' ∧ he' ≤ n ∧ (L'.length : Int) ≤ (L.length : Int) + (he' - he)) ∧ ∃ nu' cd', SU h1 t u b j kd st vl he' nu' px (L'.length : Int) hs er ea cd' ∧ CL cd' L') ∨ (z = 0 ∧ ∃ e a, rU kd st vl 2 L he = .inl (e, a) ∧ SF h1 t u b j kd st vl e a)) ∧ am_fr h h1 t (t + 5))) := by
  refine AE.of wf_X6_readSum (Nat.le_of_ble_eq_true rfl) (am_ok_z (fun z h1 q => by rcases q.1 with q | q; exact Or.inr q.1; exact Or.inl q.1)) ?_
  obtain ⟨tc, c0, c1, c2, c3, c4⟩ := id hS
  have kr1 := kr he he0 (by omega)
  have vr1 := vq he he0 (by omega)
  have hen : kd he ≠ 0 → he ≠ n := fun q e9 => by rw [e9] at q; omega
  refine q_blk (lv2 := [(0, vr t), (1, vi 2)]) (st2 := [vi 2, vr t]) kX6_readSum_0 rfl ?_
  refine AQ.callVi (av := [vi 2]) (st := []) (c_X6_readTerm2 (L := L) ⟨_, c0, c1, c2, c3, c4⟩ n0 kn (by omega) (by omega) kr vq hL (by omega)) lk_RX6_227 (by decide) rfl rfl ⟨_, _, _, c0⟩ ⟨_, rfl, rfl⟩ (Nat.le_of_ble_eq_true rfl) eX6_readSum_2 (fun z1 h3 e2 => ?_)
  rcases e2 with ⟨⟨rfl, Lh3, hh3e, qh3, ⟨bh3a, bh3b, bh3c⟩, hh3n, hh3c, Xh3, Ch3⟩ | ⟨rfl, eh3, ah3, qh3, Xh3⟩, Fh3⟩
  · skip
    obtain ⟨g4t, g40, g41, g42, g43, g44⟩ := id Xh3
    refine q_blk (lv2 := [(0, vr t), (1, vi 2), (2, vi 1), (3, vi 0)]) (st2 := []) kX6_readSum_5 rfl ?_
    refine am_lp7 (I := fun (g : Int) (i : Int) (hh : AH) (L9 : GL) (e9 : Int) (v9 : Int) (c9 : Int → Int) => (0 ≤ i ∧ i ≤ 800) ∧ am_fr h hh t (t + 5) ∧ ((g = 1 ∧ (he < e9 ∧ e9 ≤ n ∧ (L9.length : Int) ≤ (L.length : Int) + (e9 - he)) ∧ rJ kd (rM kd st vl (some (rU kd st vl 1))) 43 45 2 3 (800 - i.toNat) L9 e9 = rU kd st vl 2 L he ∧ CL c9 L9 ∧ SU hh t u b j kd st vl e9 v9 px (L9.length : Int) hs er ea c9) ∨ (g = 0 ∧ ∃ e a, rU kd st vl 2 L he = .inl (e, a) ∧ SF hh t u b j kd st vl e a))) (μ := fun (g : Int) (i : Int) (hh : AH) (L9 : GL) (e9 : Int) (v9 : Int) (c9 : Int → Int) => (800 - i).toNat) (G := fun (g : Int) (i : Int) (hh : AH) (L9 : GL) (e9 : Int) (v9 : Int) (c9 : Int → Int) => AQ w m_X6_readSum 12 8 [(0, vr t), (1, vi 2), (2, vi g), (3, vi i)] [] hh (am_int (fun z h1 => ((z = 1 ∧ ∃ L' he', rU kd st vl 2 L he = .inr (L', he') ∧ (he < he' ∧ he' ≤ n ∧ (L'.length : Int) ≤ (L.length : Int) + (he' - he)) ∧ ∃ nu' cd', SU h1 t u b j kd st vl he' nu' px (L'.length : Int) hs er ea cd' ∧ CL cd' L') ∨ (z = 0 ∧ ∃ e a, rU kd st vl 2 L he = .inl (e, a) ∧ SF h1 t u b j kd st vl e a)) ∧ am_fr h h1 t (t + 5)))) ?_ 1 0 h3 Lh3 hh3e hh3n hh3c (⟨⟨by omega, by omega⟩, (am_fr.rf.tr Fh3), Or.inl ⟨rfl, ⟨by omega, by omega, by omega⟩, by rw [show (800 - (0 : Int).toNat : Nat) = 800 from rfl]; rw [rU_2]; rw [rB_r qh3], Ch3, ⟨_, g40, g41, g42, g43, g44⟩⟩⟩)
    intro g i hh L9 e9 v9 c9 hI6 ih5
    obtain ⟨⟨i0, i1⟩, hfr, hG⟩ := hI6
    have hg9 : g = 0 ∨ g = 1 := by rcases hG with q | q; exact Or.inr q.1; exact Or.inl q.1
    refine q_blk (lv2 := [(0, vr t), (1, vi 2), (2, vi g), (3, vi i)]) (st2 := [vi 800, vi i]) kX6_readSum_8 rfl ?_
    refine AQ.ic_ge (tgt := 81) eX6_readSum_12 (by decide) (by first | assumption | exact ⟨by omega, by omega⟩) ⟨by decide, by decide⟩ (fun br7 => ?_) (fun br7 => ?_)
    · skip
      refine q_blk (lv2 := [(0, vr t), (1, vi 2), (2, vi g), (3, vi i)]) (st2 := [vi g]) kX6_readSum_81 rfl ?_
      exact q_rz rfl eX6_readSum_82 (by omega) ⟨g, rfl, (by rcases hG with ⟨rfl, hb9, hJ9, hL9, hS9⟩ | hG; exact Or.inl ⟨rfl, L9, e9, hJ9.symm.trans (rJ_end (Or.inl (by omega))), hb9, _, _, hS9, hL9⟩; exact Or.inr hG), hfr⟩
    · skip
      refine q_blk (lv2 := [(0, vr t), (1, vi 2), (2, vi g), (3, vi i)]) (st2 := [vi g]) kX6_readSum_15 rfl ?_
      refine AQ.if_eq (tgt := 81) eX6_readSum_16 (by decide) (by first | assumption | exact ⟨by omega, by omega⟩) (fun br8 => ?_) (fun br8 => ?_)
      · skip
        refine q_blk (lv2 := [(0, vr t), (1, vi 2), (2, vi g), (3, vi i)]) (st2 := [vi g]) kX6_readSum_81 rfl ?_
        exact q_rz rfl eX6_readSum_82 (by omega) ⟨g, rfl, (by rcases hG with ⟨rfl, hb9, hJ9, hL9, hS9⟩ | hG; exact Or.inl ⟨rfl, L9, e9, hJ9.symm.trans (rJ_end (Or.inl (by omega))), hb9, _, _, hS9, hL9⟩; exact Or.inr hG), hfr⟩
      · skip
        obtain ⟨-, ⟨b9a, b9b, b9c⟩, hJ9, hL9, hS9⟩ := hG.resolve_right (fun q => absurd q.1 (by omega))
        obtain ⟨wt, w0, w1, w2, w3, w4⟩ := id hS9
        have kr9 := kr e9 (by omega) (by omega)
        have hen9 : kd e9 ≠ 0 → e9 ≠ n := fun q e => by rw [e] at q; omega
        refine q_blk (lv2 := [(0, vr t), (1, vi 2), (2, vi g), (3, vi i)]) (st2 := [vr t]) kX6_readSum_19 rfl ?_
        refine q_Vi (av := []) (st := []) (c_X6_kindHere ⟨_, w0, w1, w2, w3, w4⟩ (by omega) (by omega)) lk_RX6_70 (by decide) rfl rfl ⟨_, _, _, w0⟩ ⟨_, rfl, rfl⟩ (Nat.le_of_ble_eq_true rfl) eX6_readSum_20 (fun z9 e10 => ?_)
        subst e10
        refine q_blk (lv2 := [(0, vr t), (1, vi 2), (2, vi g), (3, vi i), (4, vi (kd e9))]) (st2 := [vi 43, vi (kd e9)]) kX6_readSum_23 rfl ?_
        refine AQ.ic_eq (tgt := 41) eX6_readSum_29 (by decide) (by first | assumption | exact ⟨by omega, by omega⟩) ⟨by decide, by decide⟩ (fun br11 => ?_) (fun br11 => ?_)
        · skip
          refine q_blk (lv2 := [(0, vr t), (1, vi 2), (2, vi g), (3, vi i), (4, vi (kd e9))]) (st2 := [vr t, vr t]) kX6_readSum_41 rfl ?_
          refine q_gi eX6_readSum_43 fl_RX6_28 (Or.inl rfl) w0 (z := e9) rfl ?_
          refine q_blk (lv2 := [(0, vr t), (1, vi 2), (2, vi g), (3, vi i), (4, vi (kd e9))]) (st2 := [vi (e9 + 1), vr t]) kX6_readSum_46 rfl ?_
          refine q_pi eX6_readSum_48 fl_RX6_28 (fun q hq => by cases hq; exact Or.inl rfl) (Or.inl rfl) w0 (Nat.le_of_ble_eq_true rfl) (l2 := [0, 0, 0, 0, 0, 0, 0, wt, (e9 + 1), v9, px, (L9.length : Int), hs, er, ea]) rfl (fun h12 e13 => ?_)
          have k14 := am_at e13
          have k15 := (am_ne e13 (t + 1) (by omega)).trans w1
          have k16 := (am_ne e13 (t + 2) (by omega)).trans w2
          have k17 := (am_ne e13 (t + 3) (by omega)).trans w3
          have k18 := (am_ne e13 (t + 4) (by omega)).trans w4
          refine q_blk (lv2 := [(0, vr t), (1, vi 2), (2, vi g), (3, vi i), (4, vi (kd e9))]) (st2 := [vi 2, vr t]) kX6_readSum_51 rfl ?_
          refine AQ.callVi (av := [vi 2]) (st := []) (c_X6_readTerm2 (L := L9) ⟨_, k14, k15, k16, k17, k18⟩ n0 kn (by omega) (by omega) kr vq hL9 (by omega)) lk_RX6_227 (by decide) rfl rfl ⟨_, _, _, k14⟩ ⟨_, rfl, rfl⟩ (Nat.le_of_ble_eq_true rfl) eX6_readSum_53 (fun z19 h21 e20 => ?_)
          rcases e20 with ⟨⟨rfl, Lh21, hh21e, qh21, ⟨bh21a, bh21b, bh21c⟩, hh21n, hh21c, Xh21, Ch21⟩ | ⟨rfl, eh21, ah21, qh21, Xh21⟩, Fh21⟩
          · skip
            obtain ⟨g22t, g220, g221, g222, g223, g224⟩ := id Xh21
            refine q_blk (lv2 := [(0, vr t), (1, vi 2), (2, vi 1), (3, vi i), (4, vi (kd e9))]) (st2 := [vi 43, vi (kd e9), vr t]) kX6_readSum_56 rfl ?_
            refine AQ.ic_ne (tgt := 70) eX6_readSum_62 (by decide) (by first | assumption | exact ⟨by omega, by omega⟩) ⟨by decide, by decide⟩ (fun br23 => ?_) (fun br23 => ?_)
            · skip
              refine q_blk (lv2 := [(0, vr t), (1, vi 2), (2, vi 1), (3, vi i), (4, vi (kd e9))]) (st2 := [vi (-7), vr t]) kX6_readSum_70 rfl ?_
              refine AQ.callVv (av := [vi (-7)]) (st := []) (c_X6_addCode (v := (-7)) ⟨_, g220, g221, g222, g223, g224⟩ (by omega) (by omega)) lk_RX6_230 (by decide) rfl rfl ⟨_, _, _, g220⟩ ⟨_, rfl, rfl⟩ (Nat.le_of_ble_eq_true rfl) eX6_readSum_72 (fun h26 e25 => ?_)
              obtain ⟨Xh26, Fh26⟩ := e25
              obtain ⟨g27t, g270, g271, g272, g273, g274⟩ := id Xh26
              refine q_blk (lv2 := [(0, vr t), (1, vi 2), (2, vi 1), (3, vi (i + 1)), (4, vi (kd e9))]) (st2 := []) kX6_readSum_75 rfl ?_
              refine q_goto (tgt := 8) eX6_readSum_78 (by decide) ?_
              refine q_sub (lv2 := [(0, vr t), (1, vi 2), (2, vi 1), (3, vi (i + 1))]) [0, 1, 2, 3] rfl ?_
              exact ih5 1 (i + 1) h26 (Lh21 ++ [(3, 0)]) hh21e hh21n (am_uI hh21c (Lh21.length : Int) (-7)) (⟨⟨by omega, by omega⟩, hfr.tr (((am_fr.rf.tr (am_fr.st e13 (by omega) (by omega))).tr Fh21).tr Fh26), Or.inl ⟨rfl, ⟨by omega, by omega, by simp; omega⟩, by rw [show 800 - (i + 1).toNat = 800 - i.toNat - 1 by omega]; exact (rJ_go (o := 3) (by omega) (by omega) qh21).symm.trans hJ9, Ch21.add (by unfold gm_en; simp), SU.cast ⟨_, g270, g271, g272, g273, g274⟩ (by simp)⟩⟩) (by omega)
            · skip
              refine q_blk (lv2 := [(0, vr t), (1, vi 2), (2, vi 1), (3, vi i), (4, vi (kd e9))]) (st2 := [vi (-6), vr t]) kX6_readSum_65 rfl ?_
              refine q_goto (tgt := 72) eX6_readSum_67 (by decide) ?_
              refine AQ.callVv (av := [vi (-6)]) (st := []) (c_X6_addCode (v := (-6)) ⟨_, g220, g221, g222, g223, g224⟩ (by omega) (by omega)) lk_RX6_230 (by decide) rfl rfl ⟨_, _, _, g220⟩ ⟨_, rfl, rfl⟩ (Nat.le_of_ble_eq_true rfl) eX6_readSum_72 (fun h30 e29 => ?_)
              obtain ⟨Xh30, Fh30⟩ := e29
              obtain ⟨g31t, g310, g311, g312, g313, g314⟩ := id Xh30
              refine q_blk (lv2 := [(0, vr t), (1, vi 2), (2, vi 1), (3, vi (i + 1)), (4, vi (kd e9))]) (st2 := []) kX6_readSum_75 rfl ?_
              refine q_goto (tgt := 8) eX6_readSum_78 (by decide) ?_
              refine q_sub (lv2 := [(0, vr t), (1, vi 2), (2, vi 1), (3, vi (i + 1))]) [0, 1, 2, 3] rfl ?_
              exact ih5 1 (i + 1) h30 (Lh21 ++ [(2, 0)]) hh21e hh21n (am_uI hh21c (Lh21.length : Int) (-6)) (⟨⟨by omega, by omega⟩, hfr.tr (((am_fr.rf.tr (am_fr.st e13 (by omega) (by omega))).tr Fh21).tr Fh30), Or.inl ⟨rfl, ⟨by omega, by omega, by simp; omega⟩, by rw [show 800 - (i + 1).toNat = 800 - i.toNat - 1 by omega]; exact (rJ_go (o := 2) (by omega) (by omega) qh21).symm.trans hJ9, Ch21.add (by unfold gm_en; simp), SU.cast ⟨_, g310, g311, g312, g313, g314⟩ (by simp)⟩⟩) (by omega)
          · skip
            refine q_blk (lv2 := [(0, vr t), (1, vi 2), (2, vi 0), (3, vi i), (4, vi (kd e9))]) (st2 := [vi 43, vi (kd e9), vr t]) kX6_readSum_56 rfl ?_
            refine AQ.ic_ne (tgt := 70) eX6_readSum_62 (by decide) (by first | assumption | exact ⟨by omega, by omega⟩) ⟨by decide, by decide⟩ (fun br32 => ?_) (fun br32 => ?_)
            · skip
              refine q_blk (lv2 := [(0, vr t), (1, vi 2), (2, vi 0), (3, vi i), (4, vi (kd e9))]) (st2 := [vi (-7), vr t]) kX6_readSum_70 rfl ?_
              refine AQ.callVv (av := [vi (-7)]) (st := []) (c_X6_addCodeF Xh21 (v := (-7))) lk_RX6_230 (by decide) rfl rfl (SF.ob Xh21) ⟨_, rfl, rfl⟩ (Nat.le_of_ble_eq_true rfl) eX6_readSum_72 (fun h35 e34 => ?_)
              obtain ⟨Xh35, Fh35⟩ := e34
              refine q_blk (lv2 := [(0, vr t), (1, vi 2), (2, vi 0), (3, vi (i + 1)), (4, vi (kd e9))]) (st2 := []) kX6_readSum_75 rfl ?_
              refine q_goto (tgt := 8) eX6_readSum_78 (by decide) ?_
              refine q_sub (lv2 := [(0, vr t), (1, vi 2), (2, vi 0), (3, vi (i + 1))]) [0, 1, 2, 3] rfl ?_
              exact ih5 0 (i + 1) h35 L 0 0 cd (⟨⟨by omega, by omega⟩, hfr.tr (((am_fr.rf.tr (am_fr.st e13 (by omega) (by omega))).tr Fh21).tr Fh35), Or.inr ⟨rfl, _, _, hJ9.symm.trans (rJ_no (by omega) (by omega) qh21), Xh35⟩⟩) (by omega)
            · skip
              refine q_blk (lv2 := [(0, vr t), (1, vi 2), (2, vi 0), (3, vi i), (4, vi (kd e9))]) (st2 := [vi (-6), vr t]) kX6_readSum_65 rfl ?_
              refine q_goto (tgt := 72) eX6_readSum_67 (by decide) ?_
              refine AQ.callVv (av := [vi (-6)]) (st := []) (c_X6_addCodeF Xh21 (v := (-6))) lk_RX6_230 (by decide) rfl rfl (SF.ob Xh21) ⟨_, rfl, rfl⟩ (Nat.le_of_ble_eq_true rfl) eX6_readSum_72 (fun h38 e37 => ?_)
              obtain ⟨Xh38, Fh38⟩ := e37
              refine q_blk (lv2 := [(0, vr t), (1, vi 2), (2, vi 0), (3, vi (i + 1)), (4, vi (kd e9))]) (st2 := []) kX6_readSum_75 rfl ?_
              refine q_goto (tgt := 8) eX6_readSum_78 (by decide) ?_
              refine q_sub (lv2 := [(0, vr t), (1, vi 2), (2, vi 0), (3, vi (i + 1))]) [0, 1, 2, 3] rfl ?_
              exact ih5 0 (i + 1) h38 L 0 0 cd (⟨⟨by omega, by omega⟩, hfr.tr (((am_fr.rf.tr (am_fr.st e13 (by omega) (by omega))).tr Fh21).tr Fh38), Or.inr ⟨rfl, _, _, hJ9.symm.trans (rJ_no (by omega) (by omega) qh21), Xh38⟩⟩) (by omega)
        · skip
          refine q_blk (lv2 := [(0, vr t), (1, vi 2), (2, vi g), (3, vi i), (4, vi (kd e9))]) (st2 := [vi 45, vi (kd e9)]) kX6_readSum_32 rfl ?_
          refine AQ.ic_eq (tgt := 41) eX6_readSum_36 (by decide) (by first | assumption | exact ⟨by omega, by omega⟩) ⟨by decide, by decide⟩ (fun br39 => ?_) (fun br39 => ?_)
          · skip
            refine q_blk (lv2 := [(0, vr t), (1, vi 2), (2, vi g), (3, vi i), (4, vi (kd e9))]) (st2 := [vr t, vr t]) kX6_readSum_41 rfl ?_
            refine q_gi eX6_readSum_43 fl_RX6_28 (Or.inl rfl) w0 (z := e9) rfl ?_
            refine q_blk (lv2 := [(0, vr t), (1, vi 2), (2, vi g), (3, vi i), (4, vi (kd e9))]) (st2 := [vi (e9 + 1), vr t]) kX6_readSum_46 rfl ?_
            refine q_pi eX6_readSum_48 fl_RX6_28 (fun q hq => by cases hq; exact Or.inl rfl) (Or.inl rfl) w0 (Nat.le_of_ble_eq_true rfl) (l2 := [0, 0, 0, 0, 0, 0, 0, wt, (e9 + 1), v9, px, (L9.length : Int), hs, er, ea]) rfl (fun h40 e41 => ?_)
            have k42 := am_at e41
            have k43 := (am_ne e41 (t + 1) (by omega)).trans w1
            have k44 := (am_ne e41 (t + 2) (by omega)).trans w2
            have k45 := (am_ne e41 (t + 3) (by omega)).trans w3
            have k46 := (am_ne e41 (t + 4) (by omega)).trans w4
            refine q_blk (lv2 := [(0, vr t), (1, vi 2), (2, vi g), (3, vi i), (4, vi (kd e9))]) (st2 := [vi 2, vr t]) kX6_readSum_51 rfl ?_
            refine AQ.callVi (av := [vi 2]) (st := []) (c_X6_readTerm2 (L := L9) ⟨_, k42, k43, k44, k45, k46⟩ n0 kn (by omega) (by omega) kr vq hL9 (by omega)) lk_RX6_227 (by decide) rfl rfl ⟨_, _, _, k42⟩ ⟨_, rfl, rfl⟩ (Nat.le_of_ble_eq_true rfl) eX6_readSum_53 (fun z47 h49 e48 => ?_)
            rcases e48 with ⟨⟨rfl, Lh49, hh49e, qh49, ⟨bh49a, bh49b, bh49c⟩, hh49n, hh49c, Xh49, Ch49⟩ | ⟨rfl, eh49, ah49, qh49, Xh49⟩, Fh49⟩
            · skip
              obtain ⟨g50t, g500, g501, g502, g503, g504⟩ := id Xh49
              refine q_blk (lv2 := [(0, vr t), (1, vi 2), (2, vi 1), (3, vi i), (4, vi (kd e9))]) (st2 := [vi 43, vi (kd e9), vr t]) kX6_readSum_56 rfl ?_
              refine AQ.ic_ne (tgt := 70) eX6_readSum_62 (by decide) (by first | assumption | exact ⟨by omega, by omega⟩) ⟨by decide, by decide⟩ (fun br51 => ?_) (fun br51 => ?_)
              · skip
                refine q_blk (lv2 := [(0, vr t), (1, vi 2), (2, vi 1), (3, vi i), (4, vi (kd e9))]) (st2 := [vi (-7), vr t]) kX6_readSum_70 rfl ?_
                refine AQ.callVv (av := [vi (-7)]) (st := []) (c_X6_addCode (v := (-7)) ⟨_, g500, g501, g502, g503, g504⟩ (by omega) (by omega)) lk_RX6_230 (by decide) rfl rfl ⟨_, _, _, g500⟩ ⟨_, rfl, rfl⟩ (Nat.le_of_ble_eq_true rfl) eX6_readSum_72 (fun h54 e53 => ?_)
                obtain ⟨Xh54, Fh54⟩ := e53
                obtain ⟨g55t, g550, g551, g552, g553, g554⟩ := id Xh54
                refine q_blk (lv2 := [(0, vr t), (1, vi 2), (2, vi 1), (3, vi (i + 1)), (4, vi (kd e9))]) (st2 := []) kX6_readSum_75 rfl ?_
                refine q_goto (tgt := 8) eX6_readSum_78 (by decide) ?_
                refine q_sub (lv2 := [(0, vr t), (1, vi 2), (2, vi 1), (3, vi (i + 1))]) [0, 1, 2, 3] rfl ?_
                exact ih5 1 (i + 1) h54 (Lh49 ++ [(3, 0)]) hh49e hh49n (am_uI hh49c (Lh49.length : Int) (-7)) (⟨⟨by omega, by omega⟩, hfr.tr (((am_fr.rf.tr (am_fr.st e41 (by omega) (by omega))).tr Fh49).tr Fh54), Or.inl ⟨rfl, ⟨by omega, by omega, by simp; omega⟩, by rw [show 800 - (i + 1).toNat = 800 - i.toNat - 1 by omega]; exact (rJ_go (o := 3) (by omega) (by omega) qh49).symm.trans hJ9, Ch49.add (by unfold gm_en; simp), SU.cast ⟨_, g550, g551, g552, g553, g554⟩ (by simp)⟩⟩) (by omega)
              · skip
                refine q_blk (lv2 := [(0, vr t), (1, vi 2), (2, vi 1), (3, vi i), (4, vi (kd e9))]) (st2 := [vi (-6), vr t]) kX6_readSum_65 rfl ?_
                refine q_goto (tgt := 72) eX6_readSum_67 (by decide) ?_
                refine AQ.callVv (av := [vi (-6)]) (st := []) (c_X6_addCode (v := (-6)) ⟨_, g500, g501, g502, g503, g504⟩ (by omega) (by omega)) lk_RX6_230 (by decide) rfl rfl ⟨_, _, _, g500⟩ ⟨_, rfl, rfl⟩ (Nat.le_of_ble_eq_true rfl) eX6_readSum_72 (fun h58 e57 => ?_)
                obtain ⟨Xh58, Fh58⟩ := e57
                obtain ⟨g59t, g590, g591, g592, g593, g594⟩ := id Xh58
                refine q_blk (lv2 := [(0, vr t), (1, vi 2), (2, vi 1), (3, vi (i + 1)), (4, vi (kd e9))]) (st2 := []) kX6_readSum_75 rfl ?_
                refine q_goto (tgt := 8) eX6_readSum_78 (by decide) ?_
                refine q_sub (lv2 := [(0, vr t), (1, vi 2), (2, vi 1), (3, vi (i + 1))]) [0, 1, 2, 3] rfl ?_
                exact ih5 1 (i + 1) h58 (Lh49 ++ [(2, 0)]) hh49e hh49n (am_uI hh49c (Lh49.length : Int) (-6)) (⟨⟨by omega, by omega⟩, hfr.tr (((am_fr.rf.tr (am_fr.st e41 (by omega) (by omega))).tr Fh49).tr Fh58), Or.inl ⟨rfl, ⟨by omega, by omega, by simp; omega⟩, by rw [show 800 - (i + 1).toNat = 800 - i.toNat - 1 by omega]; exact (rJ_go (o := 2) (by omega) (by omega) qh49).symm.trans hJ9, Ch49.add (by unfold gm_en; simp), SU.cast ⟨_, g590, g591, g592, g593, g594⟩ (by simp)⟩⟩) (by omega)
            · skip
              refine q_blk (lv2 := [(0, vr t), (1, vi 2), (2, vi 0), (3, vi i), (4, vi (kd e9))]) (st2 := [vi 43, vi (kd e9), vr t]) kX6_readSum_56 rfl ?_
              refine AQ.ic_ne (tgt := 70) eX6_readSum_62 (by decide) (by first | assumption | exact ⟨by omega, by omega⟩) ⟨by decide, by decide⟩ (fun br60 => ?_) (fun br60 => ?_)
              · skip
                refine q_blk (lv2 := [(0, vr t), (1, vi 2), (2, vi 0), (3, vi i), (4, vi (kd e9))]) (st2 := [vi (-7), vr t]) kX6_readSum_70 rfl ?_
                refine AQ.callVv (av := [vi (-7)]) (st := []) (c_X6_addCodeF Xh49 (v := (-7))) lk_RX6_230 (by decide) rfl rfl (SF.ob Xh49) ⟨_, rfl, rfl⟩ (Nat.le_of_ble_eq_true rfl) eX6_readSum_72 (fun h63 e62 => ?_)
                obtain ⟨Xh63, Fh63⟩ := e62
                refine q_blk (lv2 := [(0, vr t), (1, vi 2), (2, vi 0), (3, vi (i + 1)), (4, vi (kd e9))]) (st2 := []) kX6_readSum_75 rfl ?_
                refine q_goto (tgt := 8) eX6_readSum_78 (by decide) ?_
                refine q_sub (lv2 := [(0, vr t), (1, vi 2), (2, vi 0), (3, vi (i + 1))]) [0, 1, 2, 3] rfl ?_
                exact ih5 0 (i + 1) h63 L 0 0 cd (⟨⟨by omega, by omega⟩, hfr.tr (((am_fr.rf.tr (am_fr.st e41 (by omega) (by omega))).tr Fh49).tr Fh63), Or.inr ⟨rfl, _, _, hJ9.symm.trans (rJ_no (by omega) (by omega) qh49), Xh63⟩⟩) (by omega)
              · skip
                refine q_blk (lv2 := [(0, vr t), (1, vi 2), (2, vi 0), (3, vi i), (4, vi (kd e9))]) (st2 := [vi (-6), vr t]) kX6_readSum_65 rfl ?_
                refine q_goto (tgt := 72) eX6_readSum_67 (by decide) ?_
                refine AQ.callVv (av := [vi (-6)]) (st := []) (c_X6_addCodeF Xh49 (v := (-6))) lk_RX6_230 (by decide) rfl rfl (SF.ob Xh49) ⟨_, rfl, rfl⟩ (Nat.le_of_ble_eq_true rfl) eX6_readSum_72 (fun h66 e65 => ?_)
                obtain ⟨Xh66, Fh66⟩ := e65
                refine q_blk (lv2 := [(0, vr t), (1, vi 2), (2, vi 0), (3, vi (i + 1)), (4, vi (kd e9))]) (st2 := []) kX6_readSum_75 rfl ?_
                refine q_goto (tgt := 8) eX6_readSum_78 (by decide) ?_
                refine q_sub (lv2 := [(0, vr t), (1, vi 2), (2, vi 0), (3, vi (i + 1))]) [0, 1, 2, 3] rfl ?_
                exact ih5 0 (i + 1) h66 L 0 0 cd (⟨⟨by omega, by omega⟩, hfr.tr (((am_fr.rf.tr (am_fr.st e41 (by omega) (by omega))).tr Fh49).tr Fh66), Or.inr ⟨rfl, _, _, hJ9.symm.trans (rJ_no (by omega) (by omega) qh49), Xh66⟩⟩) (by omega)
          · skip
            refine q_blk (lv2 := [(0, vr t), (1, vi 2), (2, vi g), (3, vi i), (4, vi (kd e9))]) (st2 := [vi 1]) kX6_readSum_39 rfl ?_
            exact q_rz rfl eX6_readSum_40 (by decide) ⟨1, rfl, Or.inl ⟨rfl, L9, e9, hJ9.symm.trans (rJ_end (Or.inr ⟨by omega, by omega⟩)), ⟨by omega, by omega, by omega⟩, _, _, ⟨_, w0, w1, w2, w3, w4⟩, hL9⟩, hfr.tr am_fr.rf⟩
  · skip
    refine q_blk (lv2 := [(0, vr t), (1, vi 2), (2, vi 0), (3, vi 0)]) (st2 := []) kX6_readSum_5 rfl ?_
    refine am_lp7 (I := fun (g : Int) (i : Int) (hh : AH) (L9 : GL) (e9 : Int) (v9 : Int) (c9 : Int → Int) => (0 ≤ i ∧ i ≤ 800) ∧ am_fr h hh t (t + 5) ∧ ((g = 1 ∧ (he < e9 ∧ e9 ≤ n ∧ (L9.length : Int) ≤ (L.length : Int) + (e9 - he)) ∧ rJ kd (rM kd st vl (some (rU kd st vl 1))) 43 45 2 3 (800 - i.toNat) L9 e9 = rU kd st vl 2 L he ∧ CL c9 L9 ∧ SU hh t u b j kd st vl e9 v9 px (L9.length : Int) hs er ea c9) ∨ (g = 0 ∧ ∃ e a, rU kd st vl 2 L he = .inl (e, a) ∧ SF hh t u b j kd st vl e a))) (μ := fun (g : Int) (i : Int) (hh : AH) (L9 : GL) (e9 : Int) (v9 : Int) (c9 : Int → Int) => (800 - i).toNat) (G := fun (g : Int) (i : Int) (hh : AH) (L9 : GL) (e9 : Int) (v9 : Int) (c9 : Int → Int) => AQ w m_X6_readSum 12 8 [(0, vr t), (1, vi 2), (2, vi g), (3, vi i)] [] hh (am_int (fun z h1 => ((z = 1 ∧ ∃ L' he', rU kd st vl 2 L he = .inr (L', he') ∧ (he < he' ∧ he' ≤ n ∧ (L'.length : Int) ≤ (L.length : Int) + (he' - he)) ∧ ∃ nu' cd', SU h1 t u b j kd st vl he' nu' px (L'.length : Int) hs er ea cd' ∧ CL cd' L') ∨ (z = 0 ∧ ∃ e a, rU kd st vl 2 L he = .inl (e, a) ∧ SF h1 t u b j kd st vl e a)) ∧ am_fr h h1 t (t + 5)))) ?_ 0 0 h3 L 0 0 cd (⟨⟨by omega, by omega⟩, (am_fr.rf.tr Fh3), Or.inr ⟨rfl, _, _, by rw [rU_2]; exact rB_l qh3 _, Xh3⟩⟩)
    intro g i hh L9 e9 v9 c9 hI68 ih67
    obtain ⟨⟨i0, i1⟩, hfr, hG⟩ := hI68
    have hg9 : g = 0 ∨ g = 1 := by rcases hG with q | q; exact Or.inr q.1; exact Or.inl q.1
    refine q_blk (lv2 := [(0, vr t), (1, vi 2), (2, vi g), (3, vi i)]) (st2 := [vi 800, vi i]) kX6_readSum_8 rfl ?_
    refine AQ.ic_ge (tgt := 81) eX6_readSum_12 (by decide) (by first | assumption | exact ⟨by omega, by omega⟩) ⟨by decide, by decide⟩ (fun br69 => ?_) (fun br69 => ?_)
    · skip
      refine q_blk (lv2 := [(0, vr t), (1, vi 2), (2, vi g), (3, vi i)]) (st2 := [vi g]) kX6_readSum_81 rfl ?_
      exact q_rz rfl eX6_readSum_82 (by omega) ⟨g, rfl, (by rcases hG with ⟨rfl, hb9, hJ9, hL9, hS9⟩ | hG; exact Or.inl ⟨rfl, L9, e9, hJ9.symm.trans (rJ_end (Or.inl (by omega))), hb9, _, _, hS9, hL9⟩; exact Or.inr hG), hfr⟩
    · skip
      refine q_blk (lv2 := [(0, vr t), (1, vi 2), (2, vi g), (3, vi i)]) (st2 := [vi g]) kX6_readSum_15 rfl ?_
      refine AQ.if_eq (tgt := 81) eX6_readSum_16 (by decide) (by first | assumption | exact ⟨by omega, by omega⟩) (fun br70 => ?_) (fun br70 => ?_)
      · skip
        refine q_blk (lv2 := [(0, vr t), (1, vi 2), (2, vi g), (3, vi i)]) (st2 := [vi g]) kX6_readSum_81 rfl ?_
        exact q_rz rfl eX6_readSum_82 (by omega) ⟨g, rfl, (by rcases hG with ⟨rfl, hb9, hJ9, hL9, hS9⟩ | hG; exact Or.inl ⟨rfl, L9, e9, hJ9.symm.trans (rJ_end (Or.inl (by omega))), hb9, _, _, hS9, hL9⟩; exact Or.inr hG), hfr⟩
      · skip
        obtain ⟨-, ⟨b9a, b9b, b9c⟩, hJ9, hL9, hS9⟩ := hG.resolve_right (fun q => absurd q.1 (by omega))
        obtain ⟨wt, w0, w1, w2, w3, w4⟩ := id hS9
        have kr9 := kr e9 (by omega) (by omega)
        have hen9 : kd e9 ≠ 0 → e9 ≠ n := fun q e => by rw [e] at q; omega
        refine q_blk (lv2 := [(0, vr t), (1, vi 2), (2, vi g), (3, vi i)]) (st2 := [vr t]) kX6_readSum_19 rfl ?_
        refine q_Vi (av := []) (st := []) (c_X6_kindHere ⟨_, w0, w1, w2, w3, w4⟩ (by omega) (by omega)) lk_RX6_70 (by decide) rfl rfl ⟨_, _, _, w0⟩ ⟨_, rfl, rfl⟩ (Nat.le_of_ble_eq_true rfl) eX6_readSum_20 (fun z71 e72 => ?_)
        subst e72
        refine q_blk (lv2 := [(0, vr t), (1, vi 2), (2, vi g), (3, vi i), (4, vi (kd e9))]) (st2 := [vi 43, vi (kd e9)]) kX6_readSum_23 rfl ?_
        refine AQ.ic_eq (tgt := 41) eX6_readSum_29 (by decide) (by first | assumption | exact ⟨by omega, by omega⟩) ⟨by decide, by decide⟩ (fun br73 => ?_) (fun br73 => ?_)
        · skip
          refine q_blk (lv2 := [(0, vr t), (1, vi 2), (2, vi g), (3, vi i), (4, vi (kd e9))]) (st2 := [vr t, vr t]) kX6_readSum_41 rfl ?_
          refine q_gi eX6_readSum_43 fl_RX6_28 (Or.inl rfl) w0 (z := e9) rfl ?_
          refine q_blk (lv2 := [(0, vr t), (1, vi 2), (2, vi g), (3, vi i), (4, vi (kd e9))]) (st2 := [vi (e9 + 1), vr t]) kX6_readSum_46 rfl ?_
          refine q_pi eX6_readSum_48 fl_RX6_28 (fun q hq => by cases hq; exact Or.inl rfl) (Or.inl rfl) w0 (Nat.le_of_ble_eq_true rfl) (l2 := [0, 0, 0, 0, 0, 0, 0, wt, (e9 + 1), v9, px, (L9.length : Int), hs, er, ea]) rfl (fun h74 e75 => ?_)
          have k76 := am_at e75
          have k77 := (am_ne e75 (t + 1) (by omega)).trans w1
          have k78 := (am_ne e75 (t + 2) (by omega)).trans w2
          have k79 := (am_ne e75 (t + 3) (by omega)).trans w3
          have k80 := (am_ne e75 (t + 4) (by omega)).trans w4
          refine q_blk (lv2 := [(0, vr t), (1, vi 2), (2, vi g), (3, vi i), (4, vi (kd e9))]) (st2 := [vi 2, vr t]) kX6_readSum_51 rfl ?_
          refine AQ.callVi (av := [vi 2]) (st := []) (c_X6_readTerm2 (L := L9) ⟨_, k76, k77, k78, k79, k80⟩ n0 kn (by omega) (by omega) kr vq hL9 (by omega)) lk_RX6_227 (by decide) rfl rfl ⟨_, _, _, k76⟩ ⟨_, rfl, rfl⟩ (Nat.le_of_ble_eq_true rfl) eX6_readSum_53 (fun z81 h83 e82 => ?_)
          rcases e82 with ⟨⟨rfl, Lh83, hh83e, qh83, ⟨bh83a, bh83b, bh83c⟩, hh83n, hh83c, Xh83, Ch83⟩ | ⟨rfl, eh83, ah83, qh83, Xh83⟩, Fh83⟩
          · skip
            obtain ⟨g84t, g840, g841, g842, g843, g844⟩ := id Xh83
            refine q_blk (lv2 := [(0, vr t), (1, vi 2), (2, vi 1), (3, vi i), (4, vi (kd e9))]) (st2 := [vi 43, vi (kd e9), vr t]) kX6_readSum_56 rfl ?_
            refine AQ.ic_ne (tgt := 70) eX6_readSum_62 (by decide) (by first | assumption | exact ⟨by omega, by omega⟩) ⟨by decide, by decide⟩ (fun br85 => ?_) (fun br85 => ?_)
            · skip
              refine q_blk (lv2 := [(0, vr t), (1, vi 2), (2, vi 1), (3, vi i), (4, vi (kd e9))]) (st2 := [vi (-7), vr t]) kX6_readSum_70 rfl ?_
              refine AQ.callVv (av := [vi (-7)]) (st := []) (c_X6_addCode (v := (-7)) ⟨_, g840, g841, g842, g843, g844⟩ (by omega) (by omega)) lk_RX6_230 (by decide) rfl rfl ⟨_, _, _, g840⟩ ⟨_, rfl, rfl⟩ (Nat.le_of_ble_eq_true rfl) eX6_readSum_72 (fun h88 e87 => ?_)
              obtain ⟨Xh88, Fh88⟩ := e87
              obtain ⟨g89t, g890, g891, g892, g893, g894⟩ := id Xh88
              refine q_blk (lv2 := [(0, vr t), (1, vi 2), (2, vi 1), (3, vi (i + 1)), (4, vi (kd e9))]) (st2 := []) kX6_readSum_75 rfl ?_
              refine q_goto (tgt := 8) eX6_readSum_78 (by decide) ?_
              refine q_sub (lv2 := [(0, vr t), (1, vi 2), (2, vi 1), (3, vi (i + 1))]) [0, 1, 2, 3] rfl ?_
              exact ih67 1 (i + 1) h88 (Lh83 ++ [(3, 0)]) hh83e hh83n (am_uI hh83c (Lh83.length : Int) (-7)) (⟨⟨by omega, by omega⟩, hfr.tr (((am_fr.rf.tr (am_fr.st e75 (by omega) (by omega))).tr Fh83).tr Fh88), Or.inl ⟨rfl, ⟨by omega, by omega, by simp; omega⟩, by rw [show 800 - (i + 1).toNat = 800 - i.toNat - 1 by omega]; exact (rJ_go (o := 3) (by omega) (by omega) qh83).symm.trans hJ9, Ch83.add (by unfold gm_en; simp), SU.cast ⟨_, g890, g891, g892, g893, g894⟩ (by simp)⟩⟩) (by omega)
            · skip
              refine q_blk (lv2 := [(0, vr t), (1, vi 2), (2, vi 1), (3, vi i), (4, vi (kd e9))]) (st2 := [vi (-6), vr t]) kX6_readSum_65 rfl ?_
              refine q_goto (tgt := 72) eX6_readSum_67 (by decide) ?_
              refine AQ.callVv (av := [vi (-6)]) (st := []) (c_X6_addCode (v := (-6)) ⟨_, g840, g841, g842, g843, g844⟩ (by omega) (by omega)) lk_RX6_230 (by decide) rfl rfl ⟨_, _, _, g840⟩ ⟨_, rfl, rfl⟩ (Nat.le_of_ble_eq_true rfl) eX6_readSum_72 (fun h92 e91 => ?_)
              obtain ⟨Xh92, Fh92⟩ := e91
              obtain ⟨g93t, g930, g931, g932, g933, g934⟩ := id Xh92
              refine q_blk (lv2 := [(0, vr t), (1, vi 2), (2, vi 1), (3, vi (i + 1)), (4, vi (kd e9))]) (st2 := []) kX6_readSum_75 rfl ?_
              refine q_goto (tgt := 8) eX6_readSum_78 (by decide) ?_
              refine q_sub (lv2 := [(0, vr t), (1, vi 2), (2, vi 1), (3, vi (i + 1))]) [0, 1, 2, 3] rfl ?_
              exact ih67 1 (i + 1) h92 (Lh83 ++ [(2, 0)]) hh83e hh83n (am_uI hh83c (Lh83.length : Int) (-6)) (⟨⟨by omega, by omega⟩, hfr.tr (((am_fr.rf.tr (am_fr.st e75 (by omega) (by omega))).tr Fh83).tr Fh92), Or.inl ⟨rfl, ⟨by omega, by omega, by simp; omega⟩, by rw [show 800 - (i + 1).toNat = 800 - i.toNat - 1 by omega]; exact (rJ_go (o := 2) (by omega) (by omega) qh83).symm.trans hJ9, Ch83.add (by unfold gm_en; simp), SU.cast ⟨_, g930, g931, g932, g933, g934⟩ (by simp)⟩⟩) (by omega)
          · skip
            refine q_blk (lv2 := [(0, vr t), (1, vi 2), (2, vi 0), (3, vi i), (4, vi (kd e9))]) (st2 := [vi 43, vi (kd e9), vr t]) kX6_readSum_56 rfl ?_
            refine AQ.ic_ne (tgt := 70) eX6_readSum_62 (by decide) (by first | assumption | exact ⟨by omega, by omega⟩) ⟨by decide, by decide⟩ (fun br94 => ?_) (fun br94 => ?_)
            · skip
              refine q_blk (lv2 := [(0, vr t), (1, vi 2), (2, vi 0), (3, vi i), (4, vi (kd e9))]) (st2 := [vi (-7), vr t]) kX6_readSum_70 rfl ?_
              refine AQ.callVv (av := [vi (-7)]) (st := []) (c_X6_addCodeF Xh83 (v := (-7))) lk_RX6_230 (by decide) rfl rfl (SF.ob Xh83) ⟨_, rfl, rfl⟩ (Nat.le_of_ble_eq_true rfl) eX6_readSum_72 (fun h97 e96 => ?_)
              obtain ⟨Xh97, Fh97⟩ := e96
              refine q_blk (lv2 := [(0, vr t), (1, vi 2), (2, vi 0), (3, vi (i + 1)), (4, vi (kd e9))]) (st2 := []) kX6_readSum_75 rfl ?_
              refine q_goto (tgt := 8) eX6_readSum_78 (by decide) ?_
              refine q_sub (lv2 := [(0, vr t), (1, vi 2), (2, vi 0), (3, vi (i + 1))]) [0, 1, 2, 3] rfl ?_
              exact ih67 0 (i + 1) h97 L 0 0 cd (⟨⟨by omega, by omega⟩, hfr.tr (((am_fr.rf.tr (am_fr.st e75 (by omega) (by omega))).tr Fh83).tr Fh97), Or.inr ⟨rfl, _, _, hJ9.symm.trans (rJ_no (by omega) (by omega) qh83), Xh97⟩⟩) (by omega)
            · skip
              refine q_blk (lv2 := [(0, vr t), (1, vi 2), (2, vi 0), (3, vi i), (4, vi (kd e9))]) (st2 := [vi (-6), vr t]) kX6_readSum_65 rfl ?_
              refine q_goto (tgt := 72) eX6_readSum_67 (by decide) ?_
              refine AQ.callVv (av := [vi (-6)]) (st := []) (c_X6_addCodeF Xh83 (v := (-6))) lk_RX6_230 (by decide) rfl rfl (SF.ob Xh83) ⟨_, rfl, rfl⟩ (Nat.le_of_ble_eq_true rfl) eX6_readSum_72 (fun h100 e99 => ?_)
              obtain ⟨Xh100, Fh100⟩ := e99
              refine q_blk (lv2 := [(0, vr t), (1, vi 2), (2, vi 0), (3, vi (i + 1)), (4, vi (kd e9))]) (st2 := []) kX6_readSum_75 rfl ?_
              refine q_goto (tgt := 8) eX6_readSum_78 (by decide) ?_
              refine q_sub (lv2 := [(0, vr t), (1, vi 2), (2, vi 0), (3, vi (i + 1))]) [0, 1, 2, 3] rfl ?_
              exact ih67 0 (i + 1) h100 L 0 0 cd (⟨⟨by omega, by omega⟩, hfr.tr (((am_fr.rf.tr (am_fr.st e75 (by omega) (by omega))).tr Fh83).tr Fh100), Or.inr ⟨rfl, _, _, hJ9.symm.trans (rJ_no (by omega) (by omega) qh83), Xh100⟩⟩) (by omega)
        · skip
          refine q_blk (lv2 := [(0, vr t), (1, vi 2), (2, vi g), (3, vi i), (4, vi (kd e9))]) (st2 := [vi 45, vi (kd e9)]) kX6_readSum_32 rfl ?_
          refine AQ.ic_eq (tgt := 41) eX6_readSum_36 (by decide) (by first | assumption | exact ⟨by omega, by omega⟩) ⟨by decide, by decide⟩ (fun br101 => ?_) (fun br101 => ?_)
          · skip
            refine q_blk (lv2 := [(0, vr t), (1, vi 2), (2, vi g), (3, vi i), (4, vi (kd e9))]) (st2 := [vr t, vr t]) kX6_readSum_41 rfl ?_
            refine q_gi eX6_readSum_43 fl_RX6_28 (Or.inl rfl) w0 (z := e9) rfl ?_
            refine q_blk (lv2 := [(0, vr t), (1, vi 2), (2, vi g), (3, vi i), (4, vi (kd e9))]) (st2 := [vi (e9 + 1), vr t]) kX6_readSum_46 rfl ?_
            refine q_pi eX6_readSum_48 fl_RX6_28 (fun q hq => by cases hq; exact Or.inl rfl) (Or.inl rfl) w0 (Nat.le_of_ble_eq_true rfl) (l2 := [0, 0, 0, 0, 0, 0, 0, wt, (e9 + 1), v9, px, (L9.length : Int), hs, er, ea]) rfl (fun h102 e103 => ?_)
            have k104 := am_at e103
            have k105 := (am_ne e103 (t + 1) (by omega)).trans w1
            have k106 := (am_ne e103 (t + 2) (by omega)).trans w2
            have k107 := (am_ne e103 (t + 3) (by omega)).trans w3
            have k108 := (am_ne e103 (t + 4) (by omega)).trans w4
            refine q_blk (lv2 := [(0, vr t), (1, vi 2), (2, vi g), (3, vi i), (4, vi (kd e9))]) (st2 := [vi 2, vr t]) kX6_readSum_51 rfl ?_
            refine AQ.callVi (av := [vi 2]) (st := []) (c_X6_readTerm2 (L := L9) ⟨_, k104, k105, k106, k107, k108⟩ n0 kn (by omega) (by omega) kr vq hL9 (by omega)) lk_RX6_227 (by decide) rfl rfl ⟨_, _, _, k104⟩ ⟨_, rfl, rfl⟩ (Nat.le_of_ble_eq_true rfl) eX6_readSum_53 (fun z109 h111 e110 => ?_)
            rcases e110 with ⟨⟨rfl, Lh111, hh111e, qh111, ⟨bh111a, bh111b, bh111c⟩, hh111n, hh111c, Xh111, Ch111⟩ | ⟨rfl, eh111, ah111, qh111, Xh111⟩, Fh111⟩
            · skip
              obtain ⟨g112t, g1120, g1121, g1122, g1123, g1124⟩ := id Xh111
              refine q_blk (lv2 := [(0, vr t), (1, vi 2), (2, vi 1), (3, vi i), (4, vi (kd e9))]) (st2 := [vi 43, vi (kd e9), vr t]) kX6_readSum_56 rfl ?_
              refine AQ.ic_ne (tgt := 70) eX6_readSum_62 (by decide) (by first | assumption | exact ⟨by omega, by omega⟩) ⟨by decide, by decide⟩ (fun br113 => ?_) (fun br113 => ?_)
              · skip
                refine q_blk (lv2 := [(0, vr t), (1, vi 2), (2, vi 1), (3, vi i), (4, vi (kd e9))]) (st2 := [vi (-7), vr t]) kX6_readSum_70 rfl ?_
                refine AQ.callVv (av := [vi (-7)]) (st := []) (c_X6_addCode (v := (-7)) ⟨_, g1120, g1121, g1122, g1123, g1124⟩ (by omega) (by omega)) lk_RX6_230 (by decide) rfl rfl ⟨_, _, _, g1120⟩ ⟨_, rfl, rfl⟩ (Nat.le_of_ble_eq_true rfl) eX6_readSum_72 (fun h116 e115 => ?_)
                obtain ⟨Xh116, Fh116⟩ := e115
                obtain ⟨g117t, g1170, g1171, g1172, g1173, g1174⟩ := id Xh116
                refine q_blk (lv2 := [(0, vr t), (1, vi 2), (2, vi 1), (3, vi (i + 1)), (4, vi (kd e9))]) (st2 := []) kX6_readSum_75 rfl ?_
                refine q_goto (tgt := 8) eX6_readSum_78 (by decide) ?_
                refine q_sub (lv2 := [(0, vr t), (1, vi 2), (2, vi 1), (3, vi (i + 1))]) [0, 1, 2, 3] rfl ?_
                exact ih67 1 (i + 1) h116 (Lh111 ++ [(3, 0)]) hh111e hh111n (am_uI hh111c (Lh111.length : Int) (-7)) (⟨⟨by omega, by omega⟩, hfr.tr (((am_fr.rf.tr (am_fr.st e103 (by omega) (by omega))).tr Fh111).tr Fh116), Or.inl ⟨rfl, ⟨by omega, by omega, by simp; omega⟩, by rw [show 800 - (i + 1).toNat = 800 - i.toNat - 1 by omega]; exact (rJ_go (o := 3) (by omega) (by omega) qh111).symm.trans hJ9, Ch111.add (by unfold gm_en; simp), SU.cast ⟨_, g1170, g1171, g1172, g1173, g1174⟩ (by simp)⟩⟩) (by omega)
              · skip
                refine q_blk (lv2 := [(0, vr t), (1, vi 2), (2, vi 1), (3, vi i), (4, vi (kd e9))]) (st2 := [vi (-6), vr t]) kX6_readSum_65 rfl ?_
                refine q_goto (tgt := 72) eX6_readSum_67 (by decide) ?_
                refine AQ.callVv (av := [vi (-6)]) (st := []) (c_X6_addCode (v := (-6)) ⟨_, g1120, g1121, g1122, g1123, g1124⟩ (by omega) (by omega)) lk_RX6_230 (by decide) rfl rfl ⟨_, _, _, g1120⟩ ⟨_, rfl, rfl⟩ (Nat.le_of_ble_eq_true rfl) eX6_readSum_72 (fun h120 e119 => ?_)
                obtain ⟨Xh120, Fh120⟩ := e119
                obtain ⟨g121t, g1210, g1211, g1212, g1213, g1214⟩ := id Xh120
                refine q_blk (lv2 := [(0, vr t), (1, vi 2), (2, vi 1), (3, vi (i + 1)), (4, vi (kd e9))]) (st2 := []) kX6_readSum_75 rfl ?_
                refine q_goto (tgt := 8) eX6_readSum_78 (by decide) ?_
                refine q_sub (lv2 := [(0, vr t), (1, vi 2), (2, vi 1), (3, vi (i + 1))]) [0, 1, 2, 3] rfl ?_
                exact ih67 1 (i + 1) h120 (Lh111 ++ [(2, 0)]) hh111e hh111n (am_uI hh111c (Lh111.length : Int) (-6)) (⟨⟨by omega, by omega⟩, hfr.tr (((am_fr.rf.tr (am_fr.st e103 (by omega) (by omega))).tr Fh111).tr Fh120), Or.inl ⟨rfl, ⟨by omega, by omega, by simp; omega⟩, by rw [show 800 - (i + 1).toNat = 800 - i.toNat - 1 by omega]; exact (rJ_go (o := 2) (by omega) (by omega) qh111).symm.trans hJ9, Ch111.add (by unfold gm_en; simp), SU.cast ⟨_, g1210, g1211, g1212, g1213, g1214⟩ (by simp)⟩⟩) (by omega)
            · skip
              refine q_blk (lv2 := [(0, vr t), (1, vi 2), (2, vi 0), (3, vi i), (4, vi (kd e9))]) (st2 := [vi 43, vi (kd e9), vr t]) kX6_readSum_56 rfl ?_
              refine AQ.ic_ne (tgt := 70) eX6_readSum_62 (by decide) (by first | assumption | exact ⟨by omega, by omega⟩) ⟨by decide, by decide⟩ (fun br122 => ?_) (fun br122 => ?_)
              · skip
                refine q_blk (lv2 := [(0, vr t), (1, vi 2), (2, vi 0), (3, vi i), (4, vi (kd e9))]) (st2 := [vi (-7), vr t]) kX6_readSum_70 rfl ?_
                refine AQ.callVv (av := [vi (-7)]) (st := []) (c_X6_addCodeF Xh111 (v := (-7))) lk_RX6_230 (by decide) rfl rfl (SF.ob Xh111) ⟨_, rfl, rfl⟩ (Nat.le_of_ble_eq_true rfl) eX6_readSum_72 (fun h125 e124 => ?_)
                obtain ⟨Xh125, Fh125⟩ := e124
                refine q_blk (lv2 := [(0, vr t), (1, vi 2), (2, vi 0), (3, vi (i + 1)), (4, vi (kd e9))]) (st2 := []) kX6_readSum_75 rfl ?_
                refine q_goto (tgt := 8) eX6_readSum_78 (by decide) ?_
                refine q_sub (lv2 := [(0, vr t), (1, vi 2), (2, vi 0), (3, vi (i + 1))]) [0, 1, 2, 3] rfl ?_
                exact ih67 0 (i + 1) h125 L 0 0 cd (⟨⟨by omega, by omega⟩, hfr.tr (((am_fr.rf.tr (am_fr.st e103 (by omega) (by omega))).tr Fh111).tr Fh125), Or.inr ⟨rfl, _, _, hJ9.symm.trans (rJ_no (by omega) (by omega) qh111), Xh125⟩⟩) (by omega)
              · skip
                refine q_blk (lv2 := [(0, vr t), (1, vi 2), (2, vi 0), (3, vi i), (4, vi (kd e9))]) (st2 := [vi (-6), vr t]) kX6_readSum_65 rfl ?_
                refine q_goto (tgt := 72) eX6_readSum_67 (by decide) ?_
                refine AQ.callVv (av := [vi (-6)]) (st := []) (c_X6_addCodeF Xh111 (v := (-6))) lk_RX6_230 (by decide) rfl rfl (SF.ob Xh111) ⟨_, rfl, rfl⟩ (Nat.le_of_ble_eq_true rfl) eX6_readSum_72 (fun h128 e127 => ?_)
                obtain ⟨Xh128, Fh128⟩ := e127
                refine q_blk (lv2 := [(0, vr t), (1, vi 2), (2, vi 0), (3, vi (i + 1)), (4, vi (kd e9))]) (st2 := []) kX6_readSum_75 rfl ?_
                refine q_goto (tgt := 8) eX6_readSum_78 (by decide) ?_
                refine q_sub (lv2 := [(0, vr t), (1, vi 2), (2, vi 0), (3, vi (i + 1))]) [0, 1, 2, 3] rfl ?_
                exact ih67 0 (i + 1) h128 L 0 0 cd (⟨⟨by omega, by omega⟩, hfr.tr (((am_fr.rf.tr (am_fr.st e103 (by omega) (by omega))).tr Fh111).tr Fh128), Or.inr ⟨rfl, _, _, hJ9.symm.trans (rJ_no (by omega) (by omega) qh111), Xh128⟩⟩) (by omega)
          · skip
            refine q_blk (lv2 := [(0, vr t), (1, vi 2), (2, vi g), (3, vi i), (4, vi (kd e9))]) (st2 := [vi 1]) kX6_readSum_39 rfl ?_
            exact q_rz rfl eX6_readSum_40 (by decide) ⟨1, rfl, Or.inl ⟨rfl, L9, e9, hJ9.symm.trans (rJ_end (Or.inr ⟨by omega, by omega⟩)), ⟨by omega, by omega, by omega⟩, _, _, ⟨_, w0, w1, w2, w3, w4⟩, hL9⟩, hfr.tr am_fr.rf⟩

set_option maxHeartbeats 1000000 in
theorem c_X6_readFactor1 {w : am_w} {h : AH} {L : GL} {t u b j : Nat} {kd st vl : Int → Int} {he nu px hs er ea : Int} {cd : Int → Int} (hS : SU h t u b j kd st vl he nu px (L.length : Int) hs er ea cd) {n : Int} (n0 : n ≤ 800) (kn : kd n = 0) (he0 : 0 ≤ he) (he1 : he ≤ n) (kr : ∀ i, 0 ≤ i → i < 801 → -5 ≤ kd i ∧ kd i ≤ 100) (vq : ∀ i, 0 ≤ i → i < 801 → 0 ≤ vl i ∧ vl i ≤ 10000) (hL : CL cd L) (hl : (L.length : Int) ≤ he)  : AE w m_X6_readFactor 13 [vr t, vi 1] h (am_int (fun z h1 => ((z = 1 ∧ ∃ L' he', rA kd st vl (some (rU kd st vl 2)) L he = .inr (L', he') ∧ (he < he' ∧ he' ≤ n ∧ (L'.length : Int) ≤ (L.length : Int) + (he' - he)) ∧ ∃ nu' cd', SU h1 t u b j kd st vl he' nu' px (L'.length : Int) hs er ea cd' ∧ CL cd' L') ∨ (z = 0 ∧ ∃ e a, rA kd st vl (some (rU kd st vl 2)) L he = .inl (e, a) ∧ SF h1 t u b j kd st vl e a)) ∧ am_fr h h1 t (t + 5))) := by
  refine AE.of wf_X6_readFactor (Nat.le_of_ble_eq_true rfl) (am_ok_z (fun z h1 q => by rcases q.1 with q | q; exact Or.inr q.1; exact Or.inl q.1)) ?_
  obtain ⟨tc, c0, c1, c2, c3, c4⟩ := id hS
  have kr1 := kr he he0 (by omega)
  have vr1 := vq he he0 (by omega)
  have hen : kd he ≠ 0 → he ≠ n := fun q e9 => by rw [e9] at q; omega
  refine q_blk (lv2 := [(0, vr t), (1, vi 1)]) (st2 := [vr t]) kX6_readFactor_0 rfl ?_
  refine q_Vi (av := []) (st := []) (c_X6_kindHere ⟨_, c0, c1, c2, c3, c4⟩ (by omega) (by omega)) lk_RX6_70 (by decide) rfl rfl ⟨_, _, _, c0⟩ ⟨_, rfl, rfl⟩ (Nat.le_of_ble_eq_true rfl) eX6_readFactor_1 (fun z1 e2 => ?_)
  subst e2
  refine q_blk (lv2 := [(0, vr t), (1, vi 1), (2, vi (kd he))]) (st2 := [vi 40, vi (kd he)]) kX6_readFactor_4 rfl ?_
  refine AQ.ic_ne (tgt := 58) eX6_readFactor_8 (by decide) (by first | assumption | exact ⟨by omega, by omega⟩) ⟨by decide, by decide⟩ (fun br3 => ?_) (fun br3 => ?_)
  · skip
    refine q_blk (lv2 := [(0, vr t), (1, vi 1), (2, vi (kd he))]) (st2 := [vi (kd he)]) kX6_readFactor_58 rfl ?_
    refine AQ.if_ge (tgt := 79) eX6_readFactor_59 (by decide) (by first | assumption | exact ⟨by omega, by omega⟩) (fun br4 => ?_) (fun br4 => ?_)
    · skip
      refine q_blk (lv2 := [(0, vr t), (1, vi 1), (2, vi (kd he))]) (st2 := [vi 2, vi (kd he)]) kX6_readFactor_79 rfl ?_
      refine AQ.ic_eq (tgt := 91) eX6_readFactor_81 (by decide) (by first | assumption | exact ⟨by omega, by omega⟩) ⟨by decide, by decide⟩ (fun br5 => ?_) (fun br5 => ?_)
      · skip
        refine q_blk (lv2 := [(0, vr t), (1, vi 1), (2, vi (kd he))]) (st2 := [vr t, vr t]) kX6_readFactor_91 rfl ?_
        refine q_Vi (av := []) (st := [vr t]) (c_X6_valueHere ⟨_, c0, c1, c2, c3, c4⟩ (by omega) (by omega)) lk_RX6_148 (by decide) rfl rfl ⟨_, _, _, c0⟩ ⟨_, rfl, rfl⟩ (Nat.le_of_ble_eq_true rfl) eX6_readFactor_93 (fun z6 e7 => ?_)
        subst e7
        refine q_pi eX6_readFactor_96 fl_RX6_31 (fun q hq => by cases hq; exact Or.inl rfl) (Or.inl rfl) c0 (Nat.le_of_ble_eq_true rfl) (l2 := [0, 0, 0, 0, 0, 0, 0, tc, he, (vl he), px, (L.length : Int), hs, er, ea]) rfl (fun h8 e9 => ?_)
        have k10 := am_at e9
        have k11 := (am_ne e9 (t + 1) (by omega)).trans c1
        have k12 := (am_ne e9 (t + 2) (by omega)).trans c2
        have k13 := (am_ne e9 (t + 3) (by omega)).trans c3
        have k14 := (am_ne e9 (t + 4) (by omega)).trans c4
        refine q_blk (lv2 := [(0, vr t), (1, vi 1), (2, vi (kd he))]) (st2 := [vr t]) kX6_readFactor_99 rfl ?_
        refine q_gi eX6_readFactor_100 fl_RX6_31 (Or.inl rfl) k10 (z := (vl he)) rfl ?_
        refine q_blk (lv2 := [(0, vr t), (1, vi 1), (2, vi (kd he))]) (st2 := [vi 9999, vi (vl he)]) kX6_readFactor_103 rfl ?_
        refine AQ.ic_le (tgt := 116) eX6_readFactor_106 (by decide) (by first | assumption | exact ⟨by omega, by omega⟩) ⟨by decide, by decide⟩ (fun br15 => ?_) (fun br15 => ?_)
        · skip
          refine q_blk (lv2 := [(0, vr t), (1, vi 1), (2, vi (kd he))]) (st2 := [vr t, vr t]) kX6_readFactor_116 rfl ?_
          refine q_gi eX6_readFactor_118 fl_RX6_28 (Or.inl rfl) k10 (z := he) rfl ?_
          refine q_blk (lv2 := [(0, vr t), (1, vi 1), (2, vi (kd he))]) (st2 := [vi (he + 1), vr t]) kX6_readFactor_121 rfl ?_
          refine q_pi eX6_readFactor_123 fl_RX6_28 (fun q hq => by cases hq; exact Or.inl rfl) (Or.inl rfl) k10 (Nat.le_of_ble_eq_true rfl) (l2 := [0, 0, 0, 0, 0, 0, 0, tc, (he + 1), (vl he), px, (L.length : Int), hs, er, ea]) rfl (fun h16 e17 => ?_)
          have k18 := am_at e17
          have k19 := (am_ne e17 (t + 1) (by omega)).trans k11
          have k20 := (am_ne e17 (t + 2) (by omega)).trans k12
          have k21 := (am_ne e17 (t + 3) (by omega)).trans k13
          have k22 := (am_ne e17 (t + 4) (by omega)).trans k14
          refine q_blk (lv2 := [(0, vr t), (1, vi 1), (2, vi (kd he))]) (st2 := [vr t, vr t]) kX6_readFactor_126 rfl ?_
          refine q_gi eX6_readFactor_128 fl_RX6_31 (Or.inl rfl) k18 (z := (vl he)) rfl ?_
          refine AQ.callVv (av := [vi (vl he)]) (st := []) (c_X6_addCode (v := (vl he)) ⟨_, k18, k19, k20, k21, k22⟩ (by omega) (by omega)) lk_RX6_230 (by decide) rfl rfl ⟨_, _, _, k18⟩ ⟨_, rfl, rfl⟩ (Nat.le_of_ble_eq_true rfl) eX6_readFactor_131 (fun h25 e24 => ?_)
          obtain ⟨Xh25, Fh25⟩ := e24
          obtain ⟨g26t, g260, g261, g262, g263, g264⟩ := id Xh25
          refine q_blk (lv2 := [(0, vr t), (1, vi 1), (2, vi (kd he))]) (st2 := [vi 1]) kX6_readFactor_134 rfl ?_
          exact q_rz rfl eX6_readFactor_135 (by decide) ⟨1, rfl, Or.inl ⟨rfl, L ++ [(0, vl he)], he + 1, by unfold rA; rw [if_neg (by omega), if_neg (by omega), if_pos (by omega), if_pos (by omega)], ⟨by omega, by omega, by simp; omega⟩, (vl he), (am_uI cd (L.length : Int) (vl he)), SU.cast ⟨_, g260, g261, g262, g263, g264⟩ (by simp), hL.add (by unfold gm_en; (try simp); (try omega))⟩, ((am_fr.rf.tr ((am_fr.st e9 (by omega) (by omega)).tr (am_fr.st e17 (by omega) (by omega)))).tr Fh25)⟩
        · skip
          refine q_blk (lv2 := [(0, vr t), (1, vi 1), (2, vi (kd he))]) (st2 := [vi (-3), vr t]) kX6_readFactor_109 rfl ?_
          refine AQ.callVi (av := [vi (-3)]) (st := []) (c_X6_fail (e := (-3)) ⟨_, k10, k11, k12, k13, k14⟩ (by omega) (by omega)) lk_RX6_83 (by decide) rfl rfl ⟨_, _, _, k10⟩ ⟨_, rfl, rfl⟩ (Nat.le_of_ble_eq_true rfl) eX6_readFactor_112 (fun z27 h29 e28 => ?_)
          obtain ⟨z270, Xh29, Fh29⟩ := e28
          subst z270
          obtain ⟨g30t, g300, g301, g302, g303, g304⟩ := id Xh29
          exact q_rz rfl eX6_readFactor_115 (by decide) ⟨0, rfl, Or.inr ⟨rfl, _, _, by unfold rA; rw [if_neg (by omega), if_neg (by omega), if_pos (by omega), if_neg (by omega)], ⟨_, _, _, _, _, _, ⟨_, g300, g301, g302, g303, g304⟩, by omega, by omega⟩⟩, ((am_fr.rf.tr (am_fr.st e9 (by omega) (by omega))).tr Fh29)⟩
      · skip
        refine q_blk (lv2 := [(0, vr t), (1, vi 1), (2, vi (kd he))]) (st2 := [vi (-2), vr t]) kX6_readFactor_84 rfl ?_
        refine AQ.callVi (av := [vi (-2)]) (st := []) (c_X6_fail (e := (-2)) ⟨_, c0, c1, c2, c3, c4⟩ (by omega) (by omega)) lk_RX6_83 (by decide) rfl rfl ⟨_, _, _, c0⟩ ⟨_, rfl, rfl⟩ (Nat.le_of_ble_eq_true rfl) eX6_readFactor_87 (fun z31 h33 e32 => ?_)
        obtain ⟨z310, Xh33, Fh33⟩ := e32
        subst z310
        obtain ⟨g34t, g340, g341, g342, g343, g344⟩ := id Xh33
        exact q_rz rfl eX6_readFactor_90 (by decide) ⟨0, rfl, Or.inr ⟨rfl, _, _, by unfold rA; rw [if_neg (by omega), if_neg (by omega), if_neg (by omega)], ⟨_, _, _, _, _, _, ⟨_, g340, g341, g342, g343, g344⟩, by omega, by omega⟩⟩, (am_fr.rf.tr Fh33)⟩
    · skip
      refine q_blk (lv2 := [(0, vr t), (1, vi 1), (2, vi (kd he))]) (st2 := [vr t, vr t]) kX6_readFactor_62 rfl ?_
      refine q_gi eX6_readFactor_64 fl_RX6_28 (Or.inl rfl) c0 (z := he) rfl ?_
      refine q_blk (lv2 := [(0, vr t), (1, vi 1), (2, vi (kd he))]) (st2 := [vi (he + 1), vr t]) kX6_readFactor_67 rfl ?_
      refine q_pi eX6_readFactor_69 fl_RX6_28 (fun q hq => by cases hq; exact Or.inl rfl) (Or.inl rfl) c0 (Nat.le_of_ble_eq_true rfl) (l2 := [0, 0, 0, 0, 0, 0, 0, tc, (he + 1), nu, px, (L.length : Int), hs, er, ea]) rfl (fun h35 e36 => ?_)
      have k37 := am_at e36
      have k38 := (am_ne e36 (t + 1) (by omega)).trans c1
      have k39 := (am_ne e36 (t + 2) (by omega)).trans c2
      have k40 := (am_ne e36 (t + 3) (by omega)).trans c3
      have k41 := (am_ne e36 (t + 4) (by omega)).trans c4
      refine q_blk (lv2 := [(0, vr t), (1, vi 1), (2, vi (kd he))]) (st2 := [vi (kd he), vr t]) kX6_readFactor_72 rfl ?_
      refine AQ.callVv (av := [vi (kd he)]) (st := []) (c_X6_addCode (v := (kd he)) ⟨_, k37, k38, k39, k40, k41⟩ (by omega) (by omega)) lk_RX6_230 (by decide) rfl rfl ⟨_, _, _, k37⟩ ⟨_, rfl, rfl⟩ (Nat.le_of_ble_eq_true rfl) eX6_readFactor_74 (fun h44 e43 => ?_)
      obtain ⟨Xh44, Fh44⟩ := e43
      obtain ⟨g45t, g450, g451, g452, g453, g454⟩ := id Xh44
      refine q_blk (lv2 := [(0, vr t), (1, vi 1), (2, vi (kd he))]) (st2 := [vi 1]) kX6_readFactor_77 rfl ?_
      exact q_rz rfl eX6_readFactor_78 (by decide) ⟨1, rfl, Or.inl ⟨rfl, L ++ [(1, -1 - kd he)], he + 1, by unfold rA; rw [if_neg (by omega), if_pos (by omega)], ⟨by omega, by omega, by simp; omega⟩, nu, (am_uI cd (L.length : Int) (kd he)), SU.cast ⟨_, g450, g451, g452, g453, g454⟩ (by simp), hL.add (by unfold gm_en; (try simp); (try omega))⟩, ((am_fr.rf.tr (am_fr.st e36 (by omega) (by omega))).tr Fh44)⟩
  · skip
    refine q_blk (lv2 := [(0, vr t), (1, vi 1), (2, vi (kd he))]) (st2 := [vi 4, vi 1]) kX6_readFactor_11 rfl ?_
    refine AQ.of (AS.ic_lt_t (tgt := 23) eX6_readFactor_13 (by decide) ⟨by decide, by decide⟩ ⟨by decide, by decide⟩ (by decide)) ?_
    refine q_blk (lv2 := [(0, vr t), (1, vi 1), (2, vi (kd he))]) (st2 := [vr t, vr t]) kX6_readFactor_23 rfl ?_
    refine q_gi eX6_readFactor_25 fl_RX6_28 (Or.inl rfl) c0 (z := he) rfl ?_
    refine q_blk (lv2 := [(0, vr t), (1, vi 1), (2, vi (kd he))]) (st2 := [vi (he + 1), vr t]) kX6_readFactor_28 rfl ?_
    refine q_pi eX6_readFactor_30 fl_RX6_28 (fun q hq => by cases hq; exact Or.inl rfl) (Or.inl rfl) c0 (Nat.le_of_ble_eq_true rfl) (l2 := [0, 0, 0, 0, 0, 0, 0, tc, (he + 1), nu, px, (L.length : Int), hs, er, ea]) rfl (fun h46 e47 => ?_)
    have k48 := am_at e47
    have k49 := (am_ne e47 (t + 1) (by omega)).trans c1
    have k50 := (am_ne e47 (t + 2) (by omega)).trans c2
    have k51 := (am_ne e47 (t + 3) (by omega)).trans c3
    have k52 := (am_ne e47 (t + 4) (by omega)).trans c4
    refine q_blk (lv2 := [(0, vr t), (1, vi 1), (2, vi (kd he))]) (st2 := [vi (1 + 1), vr t]) kX6_readFactor_33 rfl ?_
    refine AQ.callVi (av := [vi (1 + 1)]) (st := []) (c_X6_readSum2 (L := L) ⟨_, k48, k49, k50, k51, k52⟩ n0 kn (by omega) (by omega) kr vq hL (by omega)) lk_RX6_215 (by decide) rfl rfl ⟨_, _, _, k48⟩ ⟨_, rfl, rfl⟩ (Nat.le_of_ble_eq_true rfl) eX6_readFactor_37 (fun z53 h55 e54 => ?_)
    rcases e54 with ⟨⟨rfl, Lh55, hh55e, qh55, ⟨bh55a, bh55b, bh55c⟩, hh55n, hh55c, Xh55, Ch55⟩ | ⟨rfl, eh55, ah55, qh55, Xh55⟩, Fh55⟩
    · skip
      obtain ⟨g56t, g560, g561, g562, g563, g564⟩ := id Xh55
      refine AQ.of (AS.if_eq_f eX6_readFactor_40 ⟨by decide, by decide⟩ (by decide) (by decide)) ?_
      refine q_blk (lv2 := [(0, vr t), (1, vi 1), (2, vi (kd he))]) (st2 := [vi 41, vr t]) kX6_readFactor_43 rfl ?_
      refine AQ.callVi (av := [vi 41]) (st := []) (c_X6_take ⟨_, g560, g561, g562, g563, g564⟩ (by omega) (by omega) kr vq (k := 41) (by omega) (by omega)) lk_RX6_166 (by decide) rfl rfl ⟨_, _, _, g560⟩ ⟨_, rfl, rfl⟩ (Nat.le_of_ble_eq_true rfl) eX6_readFactor_46 (fun z57 h59 e58 => ?_)
      rcases e58 with ⟨⟨rfl, qh59, Xh59⟩ | ⟨rfl, qh59, Xh59⟩, Fh59⟩
      · skip
        obtain ⟨g60t, g600, g601, g602, g603, g604⟩ := id Xh59
        have nh59 : hh55e ≠ n := fun e9 => by rw [e9] at qh59; omega
        refine AQ.of (AS.if_eq_f eX6_readFactor_49 ⟨by decide, by decide⟩ (by decide) (by decide)) ?_
        refine q_blk (lv2 := [(0, vr t), (1, vi 1), (2, vi (kd he))]) (st2 := [vi 1]) kX6_readFactor_52 rfl ?_
        refine q_goto (tgt := 57) eX6_readFactor_53 (by decide) ?_
        exact q_rz rfl eX6_readFactor_57 (by decide) ⟨1, rfl, Or.inl ⟨rfl, _, _, by unfold rA; rw [if_pos (by omega)]; exact (rB_r qh55 _).trans (rB_r (show rT kd st 41 hh55e = .inr () by unfold rT; rw [if_pos qh59]) _), ⟨by omega, by omega, by omega⟩, _, _, ⟨_, g600, g601, g602, g603, g604⟩, Ch55⟩, (((am_fr.rf.tr (am_fr.st e47 (by omega) (by omega))).tr Fh55).tr Fh59)⟩
      · skip
        obtain ⟨g61t, g610, g611, g612, g613, g614⟩ := id Xh59
        refine AQ.of (AS.if_eq_t (tgt := 56) eX6_readFactor_49 (by decide) ⟨by decide, by decide⟩ (by decide)) ?_
        refine q_blk (lv2 := [(0, vr t), (1, vi 1), (2, vi (kd he))]) (st2 := [vi 0]) kX6_readFactor_56 rfl ?_
        exact q_rz rfl eX6_readFactor_57 (by decide) ⟨0, rfl, Or.inr ⟨rfl, _, _, by unfold rA; rw [if_pos (by omega)]; exact (rB_r qh55 _).trans (rB_l (show rT kd st 41 hh55e = .inl (-2, st hh55e) by unfold rT; rw [if_neg qh59]) _), ⟨_, _, _, _, _, _, ⟨_, g610, g611, g612, g613, g614⟩, by omega, by omega⟩⟩, (((am_fr.rf.tr (am_fr.st e47 (by omega) (by omega))).tr Fh55).tr Fh59)⟩
    · skip
      refine AQ.of (AS.if_eq_t (tgt := 56) eX6_readFactor_40 (by decide) ⟨by decide, by decide⟩ (by decide)) ?_
      refine q_blk (lv2 := [(0, vr t), (1, vi 1), (2, vi (kd he))]) (st2 := [vi 0]) kX6_readFactor_56 rfl ?_
      exact q_rz rfl eX6_readFactor_57 (by decide) ⟨0, rfl, Or.inr ⟨rfl, _, _, by unfold rA; rw [if_pos (by omega)]; exact rB_l qh55 _, Xh55⟩, ((am_fr.rf.tr (am_fr.st e47 (by omega) (by omega))).tr Fh55)⟩

set_option maxHeartbeats 1000000 in
theorem c_X6_readTerm1 {w : am_w} {h : AH} {L : GL} {t u b j : Nat} {kd st vl : Int → Int} {he nu px hs er ea : Int} {cd : Int → Int} (hS : SU h t u b j kd st vl he nu px (L.length : Int) hs er ea cd) {n : Int} (n0 : n ≤ 800) (kn : kd n = 0) (he0 : 0 ≤ he) (he1 : he ≤ n) (kr : ∀ i, 0 ≤ i → i < 801 → -5 ≤ kd i ∧ kd i ≤ 100) (vq : ∀ i, 0 ≤ i → i < 801 → 0 ≤ vl i ∧ vl i ≤ 10000) (hL : CL cd L) (hl : (L.length : Int) ≤ he)  : AE w m_X6_readTerm 14 [vr t, vi 1] h (am_int (fun z h1 => ((z = 1 ∧ ∃ L' he', rM kd st vl (some (rU kd st vl 2)) L he = .inr (L', he') ∧ (he < he' ∧ he' ≤ n ∧ (L'.length : Int) ≤ (L.length : Int) + (he' - he)) ∧ ∃ nu' cd', SU h1 t u b j kd st vl he' nu' px (L'.length : Int) hs er ea cd' ∧ CL cd' L') ∨ (z = 0 ∧ ∃ e a, rM kd st vl (some (rU kd st vl 2)) L he = .inl (e, a) ∧ SF h1 t u b j kd st vl e a)) ∧ am_fr h h1 t (t + 5))) := by
  refine AE.of wf_X6_readTerm (Nat.le_of_ble_eq_true rfl) (am_ok_z (fun z h1 q => by rcases q.1 with q | q; exact Or.inr q.1; exact Or.inl q.1)) ?_
  obtain ⟨tc, c0, c1, c2, c3, c4⟩ := id hS
  have kr1 := kr he he0 (by omega)
  have vr1 := vq he he0 (by omega)
  have hen : kd he ≠ 0 → he ≠ n := fun q e9 => by rw [e9] at q; omega
  refine q_blk (lv2 := [(0, vr t), (1, vi 1)]) (st2 := [vi 1, vr t]) kX6_readTerm_0 rfl ?_
  refine AQ.callVi (av := [vi 1]) (st := []) (c_X6_readFactor1 (L := L) ⟨_, c0, c1, c2, c3, c4⟩ n0 kn (by omega) (by omega) kr vq hL (by omega)) lk_RX6_233 (by decide) rfl rfl ⟨_, _, _, c0⟩ ⟨_, rfl, rfl⟩ (Nat.le_of_ble_eq_true rfl) eX6_readTerm_2 (fun z1 h3 e2 => ?_)
  rcases e2 with ⟨⟨rfl, Lh3, hh3e, qh3, ⟨bh3a, bh3b, bh3c⟩, hh3n, hh3c, Xh3, Ch3⟩ | ⟨rfl, eh3, ah3, qh3, Xh3⟩, Fh3⟩
  · skip
    obtain ⟨g4t, g40, g41, g42, g43, g44⟩ := id Xh3
    refine q_blk (lv2 := [(0, vr t), (1, vi 1), (2, vi 1), (3, vi 0)]) (st2 := []) kX6_readTerm_5 rfl ?_
    refine am_lp7 (I := fun (g : Int) (i : Int) (hh : AH) (L9 : GL) (e9 : Int) (v9 : Int) (c9 : Int → Int) => (0 ≤ i ∧ i ≤ 800) ∧ am_fr h hh t (t + 5) ∧ ((g = 1 ∧ (he < e9 ∧ e9 ≤ n ∧ (L9.length : Int) ≤ (L.length : Int) + (e9 - he)) ∧ rJ kd (rA kd st vl (some (rU kd st vl 2))) 42 47 4 5 (800 - i.toNat) L9 e9 = rM kd st vl (some (rU kd st vl 2)) L he ∧ CL c9 L9 ∧ SU hh t u b j kd st vl e9 v9 px (L9.length : Int) hs er ea c9) ∨ (g = 0 ∧ ∃ e a, rM kd st vl (some (rU kd st vl 2)) L he = .inl (e, a) ∧ SF hh t u b j kd st vl e a))) (μ := fun (g : Int) (i : Int) (hh : AH) (L9 : GL) (e9 : Int) (v9 : Int) (c9 : Int → Int) => (800 - i).toNat) (G := fun (g : Int) (i : Int) (hh : AH) (L9 : GL) (e9 : Int) (v9 : Int) (c9 : Int → Int) => AQ w m_X6_readTerm 14 8 [(0, vr t), (1, vi 1), (2, vi g), (3, vi i)] [] hh (am_int (fun z h1 => ((z = 1 ∧ ∃ L' he', rM kd st vl (some (rU kd st vl 2)) L he = .inr (L', he') ∧ (he < he' ∧ he' ≤ n ∧ (L'.length : Int) ≤ (L.length : Int) + (he' - he)) ∧ ∃ nu' cd', SU h1 t u b j kd st vl he' nu' px (L'.length : Int) hs er ea cd' ∧ CL cd' L') ∨ (z = 0 ∧ ∃ e a, rM kd st vl (some (rU kd st vl 2)) L he = .inl (e, a) ∧ SF h1 t u b j kd st vl e a)) ∧ am_fr h h1 t (t + 5)))) ?_ 1 0 h3 Lh3 hh3e hh3n hh3c (⟨⟨by omega, by omega⟩, (am_fr.rf.tr Fh3), Or.inl ⟨rfl, ⟨by omega, by omega, by omega⟩, by rw [show (800 - (0 : Int).toNat : Nat) = 800 from rfl]; unfold rM; rw [rB_r qh3], Ch3, ⟨_, g40, g41, g42, g43, g44⟩⟩⟩)
    intro g i hh L9 e9 v9 c9 hI6 ih5
    obtain ⟨⟨i0, i1⟩, hfr, hG⟩ := hI6
    have hg9 : g = 0 ∨ g = 1 := by rcases hG with q | q; exact Or.inr q.1; exact Or.inl q.1
    refine q_blk (lv2 := [(0, vr t), (1, vi 1), (2, vi g), (3, vi i)]) (st2 := [vi 800, vi i]) kX6_readTerm_8 rfl ?_
    refine AQ.ic_ge (tgt := 81) eX6_readTerm_12 (by decide) (by first | assumption | exact ⟨by omega, by omega⟩) ⟨by decide, by decide⟩ (fun br7 => ?_) (fun br7 => ?_)
    · skip
      refine q_blk (lv2 := [(0, vr t), (1, vi 1), (2, vi g), (3, vi i)]) (st2 := [vi g]) kX6_readTerm_81 rfl ?_
      exact q_rz rfl eX6_readTerm_82 (by omega) ⟨g, rfl, (by rcases hG with ⟨rfl, hb9, hJ9, hL9, hS9⟩ | hG; exact Or.inl ⟨rfl, L9, e9, hJ9.symm.trans (rJ_end (Or.inl (by omega))), hb9, _, _, hS9, hL9⟩; exact Or.inr hG), hfr⟩
    · skip
      refine q_blk (lv2 := [(0, vr t), (1, vi 1), (2, vi g), (3, vi i)]) (st2 := [vi g]) kX6_readTerm_15 rfl ?_
      refine AQ.if_eq (tgt := 81) eX6_readTerm_16 (by decide) (by first | assumption | exact ⟨by omega, by omega⟩) (fun br8 => ?_) (fun br8 => ?_)
      · skip
        refine q_blk (lv2 := [(0, vr t), (1, vi 1), (2, vi g), (3, vi i)]) (st2 := [vi g]) kX6_readTerm_81 rfl ?_
        exact q_rz rfl eX6_readTerm_82 (by omega) ⟨g, rfl, (by rcases hG with ⟨rfl, hb9, hJ9, hL9, hS9⟩ | hG; exact Or.inl ⟨rfl, L9, e9, hJ9.symm.trans (rJ_end (Or.inl (by omega))), hb9, _, _, hS9, hL9⟩; exact Or.inr hG), hfr⟩
      · skip
        obtain ⟨-, ⟨b9a, b9b, b9c⟩, hJ9, hL9, hS9⟩ := hG.resolve_right (fun q => absurd q.1 (by omega))
        obtain ⟨wt, w0, w1, w2, w3, w4⟩ := id hS9
        have kr9 := kr e9 (by omega) (by omega)
        have hen9 : kd e9 ≠ 0 → e9 ≠ n := fun q e => by rw [e] at q; omega
        refine q_blk (lv2 := [(0, vr t), (1, vi 1), (2, vi g), (3, vi i)]) (st2 := [vr t]) kX6_readTerm_19 rfl ?_
        refine q_Vi (av := []) (st := []) (c_X6_kindHere ⟨_, w0, w1, w2, w3, w4⟩ (by omega) (by omega)) lk_RX6_70 (by decide) rfl rfl ⟨_, _, _, w0⟩ ⟨_, rfl, rfl⟩ (Nat.le_of_ble_eq_true rfl) eX6_readTerm_20 (fun z9 e10 => ?_)
        subst e10
        refine q_blk (lv2 := [(0, vr t), (1, vi 1), (2, vi g), (3, vi i), (4, vi (kd e9))]) (st2 := [vi 42, vi (kd e9)]) kX6_readTerm_23 rfl ?_
        refine AQ.ic_eq (tgt := 41) eX6_readTerm_29 (by decide) (by first | assumption | exact ⟨by omega, by omega⟩) ⟨by decide, by decide⟩ (fun br11 => ?_) (fun br11 => ?_)
        · skip
          refine q_blk (lv2 := [(0, vr t), (1, vi 1), (2, vi g), (3, vi i), (4, vi (kd e9))]) (st2 := [vr t, vr t]) kX6_readTerm_41 rfl ?_
          refine q_gi eX6_readTerm_43 fl_RX6_28 (Or.inl rfl) w0 (z := e9) rfl ?_
          refine q_blk (lv2 := [(0, vr t), (1, vi 1), (2, vi g), (3, vi i), (4, vi (kd e9))]) (st2 := [vi (e9 + 1), vr t]) kX6_readTerm_46 rfl ?_
          refine q_pi eX6_readTerm_48 fl_RX6_28 (fun q hq => by cases hq; exact Or.inl rfl) (Or.inl rfl) w0 (Nat.le_of_ble_eq_true rfl) (l2 := [0, 0, 0, 0, 0, 0, 0, wt, (e9 + 1), v9, px, (L9.length : Int), hs, er, ea]) rfl (fun h12 e13 => ?_)
          have k14 := am_at e13
          have k15 := (am_ne e13 (t + 1) (by omega)).trans w1
          have k16 := (am_ne e13 (t + 2) (by omega)).trans w2
          have k17 := (am_ne e13 (t + 3) (by omega)).trans w3
          have k18 := (am_ne e13 (t + 4) (by omega)).trans w4
          refine q_blk (lv2 := [(0, vr t), (1, vi 1), (2, vi g), (3, vi i), (4, vi (kd e9))]) (st2 := [vi 1, vr t]) kX6_readTerm_51 rfl ?_
          refine AQ.callVi (av := [vi 1]) (st := []) (c_X6_readFactor1 (L := L9) ⟨_, k14, k15, k16, k17, k18⟩ n0 kn (by omega) (by omega) kr vq hL9 (by omega)) lk_RX6_233 (by decide) rfl rfl ⟨_, _, _, k14⟩ ⟨_, rfl, rfl⟩ (Nat.le_of_ble_eq_true rfl) eX6_readTerm_53 (fun z19 h21 e20 => ?_)
          rcases e20 with ⟨⟨rfl, Lh21, hh21e, qh21, ⟨bh21a, bh21b, bh21c⟩, hh21n, hh21c, Xh21, Ch21⟩ | ⟨rfl, eh21, ah21, qh21, Xh21⟩, Fh21⟩
          · skip
            obtain ⟨g22t, g220, g221, g222, g223, g224⟩ := id Xh21
            refine q_blk (lv2 := [(0, vr t), (1, vi 1), (2, vi 1), (3, vi i), (4, vi (kd e9))]) (st2 := [vi 42, vi (kd e9), vr t]) kX6_readTerm_56 rfl ?_
            refine AQ.ic_ne (tgt := 70) eX6_readTerm_62 (by decide) (by first | assumption | exact ⟨by omega, by omega⟩) ⟨by decide, by decide⟩ (fun br23 => ?_) (fun br23 => ?_)
            · skip
              refine q_blk (lv2 := [(0, vr t), (1, vi 1), (2, vi 1), (3, vi i), (4, vi (kd e9))]) (st2 := [vi (-9), vr t]) kX6_readTerm_70 rfl ?_
              refine AQ.callVv (av := [vi (-9)]) (st := []) (c_X6_addCode (v := (-9)) ⟨_, g220, g221, g222, g223, g224⟩ (by omega) (by omega)) lk_RX6_230 (by decide) rfl rfl ⟨_, _, _, g220⟩ ⟨_, rfl, rfl⟩ (Nat.le_of_ble_eq_true rfl) eX6_readTerm_72 (fun h26 e25 => ?_)
              obtain ⟨Xh26, Fh26⟩ := e25
              obtain ⟨g27t, g270, g271, g272, g273, g274⟩ := id Xh26
              refine q_blk (lv2 := [(0, vr t), (1, vi 1), (2, vi 1), (3, vi (i + 1)), (4, vi (kd e9))]) (st2 := []) kX6_readTerm_75 rfl ?_
              refine q_goto (tgt := 8) eX6_readTerm_78 (by decide) ?_
              refine q_sub (lv2 := [(0, vr t), (1, vi 1), (2, vi 1), (3, vi (i + 1))]) [0, 1, 2, 3] rfl ?_
              exact ih5 1 (i + 1) h26 (Lh21 ++ [(5, 0)]) hh21e hh21n (am_uI hh21c (Lh21.length : Int) (-9)) (⟨⟨by omega, by omega⟩, hfr.tr (((am_fr.rf.tr (am_fr.st e13 (by omega) (by omega))).tr Fh21).tr Fh26), Or.inl ⟨rfl, ⟨by omega, by omega, by simp; omega⟩, by rw [show 800 - (i + 1).toNat = 800 - i.toNat - 1 by omega]; exact (rJ_go (o := 5) (by omega) (by omega) qh21).symm.trans hJ9, Ch21.add (by unfold gm_en; simp), SU.cast ⟨_, g270, g271, g272, g273, g274⟩ (by simp)⟩⟩) (by omega)
            · skip
              refine q_blk (lv2 := [(0, vr t), (1, vi 1), (2, vi 1), (3, vi i), (4, vi (kd e9))]) (st2 := [vi (-8), vr t]) kX6_readTerm_65 rfl ?_
              refine q_goto (tgt := 72) eX6_readTerm_67 (by decide) ?_
              refine AQ.callVv (av := [vi (-8)]) (st := []) (c_X6_addCode (v := (-8)) ⟨_, g220, g221, g222, g223, g224⟩ (by omega) (by omega)) lk_RX6_230 (by decide) rfl rfl ⟨_, _, _, g220⟩ ⟨_, rfl, rfl⟩ (Nat.le_of_ble_eq_true rfl) eX6_readTerm_72 (fun h30 e29 => ?_)
              obtain ⟨Xh30, Fh30⟩ := e29
              obtain ⟨g31t, g310, g311, g312, g313, g314⟩ := id Xh30
              refine q_blk (lv2 := [(0, vr t), (1, vi 1), (2, vi 1), (3, vi (i + 1)), (4, vi (kd e9))]) (st2 := []) kX6_readTerm_75 rfl ?_
              refine q_goto (tgt := 8) eX6_readTerm_78 (by decide) ?_
              refine q_sub (lv2 := [(0, vr t), (1, vi 1), (2, vi 1), (3, vi (i + 1))]) [0, 1, 2, 3] rfl ?_
              exact ih5 1 (i + 1) h30 (Lh21 ++ [(4, 0)]) hh21e hh21n (am_uI hh21c (Lh21.length : Int) (-8)) (⟨⟨by omega, by omega⟩, hfr.tr (((am_fr.rf.tr (am_fr.st e13 (by omega) (by omega))).tr Fh21).tr Fh30), Or.inl ⟨rfl, ⟨by omega, by omega, by simp; omega⟩, by rw [show 800 - (i + 1).toNat = 800 - i.toNat - 1 by omega]; exact (rJ_go (o := 4) (by omega) (by omega) qh21).symm.trans hJ9, Ch21.add (by unfold gm_en; simp), SU.cast ⟨_, g310, g311, g312, g313, g314⟩ (by simp)⟩⟩) (by omega)
          · skip
            refine q_blk (lv2 := [(0, vr t), (1, vi 1), (2, vi 0), (3, vi i), (4, vi (kd e9))]) (st2 := [vi 42, vi (kd e9), vr t]) kX6_readTerm_56 rfl ?_
            refine AQ.ic_ne (tgt := 70) eX6_readTerm_62 (by decide) (by first | assumption | exact ⟨by omega, by omega⟩) ⟨by decide, by decide⟩ (fun br32 => ?_) (fun br32 => ?_)
            · skip
              refine q_blk (lv2 := [(0, vr t), (1, vi 1), (2, vi 0), (3, vi i), (4, vi (kd e9))]) (st2 := [vi (-9), vr t]) kX6_readTerm_70 rfl ?_
              refine AQ.callVv (av := [vi (-9)]) (st := []) (c_X6_addCodeF Xh21 (v := (-9))) lk_RX6_230 (by decide) rfl rfl (SF.ob Xh21) ⟨_, rfl, rfl⟩ (Nat.le_of_ble_eq_true rfl) eX6_readTerm_72 (fun h35 e34 => ?_)
              obtain ⟨Xh35, Fh35⟩ := e34
              refine q_blk (lv2 := [(0, vr t), (1, vi 1), (2, vi 0), (3, vi (i + 1)), (4, vi (kd e9))]) (st2 := []) kX6_readTerm_75 rfl ?_
              refine q_goto (tgt := 8) eX6_readTerm_78 (by decide) ?_
              refine q_sub (lv2 := [(0, vr t), (1, vi 1), (2, vi 0), (3, vi (i + 1))]) [0, 1, 2, 3] rfl ?_
              exact ih5 0 (i + 1) h35 L 0 0 cd (⟨⟨by omega, by omega⟩, hfr.tr (((am_fr.rf.tr (am_fr.st e13 (by omega) (by omega))).tr Fh21).tr Fh35), Or.inr ⟨rfl, _, _, hJ9.symm.trans (rJ_no (by omega) (by omega) qh21), Xh35⟩⟩) (by omega)
            · skip
              refine q_blk (lv2 := [(0, vr t), (1, vi 1), (2, vi 0), (3, vi i), (4, vi (kd e9))]) (st2 := [vi (-8), vr t]) kX6_readTerm_65 rfl ?_
              refine q_goto (tgt := 72) eX6_readTerm_67 (by decide) ?_
              refine AQ.callVv (av := [vi (-8)]) (st := []) (c_X6_addCodeF Xh21 (v := (-8))) lk_RX6_230 (by decide) rfl rfl (SF.ob Xh21) ⟨_, rfl, rfl⟩ (Nat.le_of_ble_eq_true rfl) eX6_readTerm_72 (fun h38 e37 => ?_)
              obtain ⟨Xh38, Fh38⟩ := e37
              refine q_blk (lv2 := [(0, vr t), (1, vi 1), (2, vi 0), (3, vi (i + 1)), (4, vi (kd e9))]) (st2 := []) kX6_readTerm_75 rfl ?_
              refine q_goto (tgt := 8) eX6_readTerm_78 (by decide) ?_
              refine q_sub (lv2 := [(0, vr t), (1, vi 1), (2, vi 0), (3, vi (i + 1))]) [0, 1, 2, 3] rfl ?_
              exact ih5 0 (i + 1) h38 L 0 0 cd (⟨⟨by omega, by omega⟩, hfr.tr (((am_fr.rf.tr (am_fr.st e13 (by omega) (by omega))).tr Fh21).tr Fh38), Or.inr ⟨rfl, _, _, hJ9.symm.trans (rJ_no (by omega) (by omega) qh21), Xh38⟩⟩) (by omega)
        · skip
          refine q_blk (lv2 := [(0, vr t), (1, vi 1), (2, vi g), (3, vi i), (4, vi (kd e9))]) (st2 := [vi 47, vi (kd e9)]) kX6_readTerm_32 rfl ?_
          refine AQ.ic_eq (tgt := 41) eX6_readTerm_36 (by decide) (by first | assumption | exact ⟨by omega, by omega⟩) ⟨by decide, by decide⟩ (fun br39 => ?_) (fun br39 => ?_)
          · skip
            refine q_blk (lv2 := [(0, vr t), (1, vi 1), (2, vi g), (3, vi i), (4, vi (kd e9))]) (st2 := [vr t, vr t]) kX6_readTerm_41 rfl ?_
            refine q_gi eX6_readTerm_43 fl_RX6_28 (Or.inl rfl) w0 (z := e9) rfl ?_
            refine q_blk (lv2 := [(0, vr t), (1, vi 1), (2, vi g), (3, vi i), (4, vi (kd e9))]) (st2 := [vi (e9 + 1), vr t]) kX6_readTerm_46 rfl ?_
            refine q_pi eX6_readTerm_48 fl_RX6_28 (fun q hq => by cases hq; exact Or.inl rfl) (Or.inl rfl) w0 (Nat.le_of_ble_eq_true rfl) (l2 := [0, 0, 0, 0, 0, 0, 0, wt, (e9 + 1), v9, px, (L9.length : Int), hs, er, ea]) rfl (fun h40 e41 => ?_)
            have k42 := am_at e41
            have k43 := (am_ne e41 (t + 1) (by omega)).trans w1
            have k44 := (am_ne e41 (t + 2) (by omega)).trans w2
            have k45 := (am_ne e41 (t + 3) (by omega)).trans w3
            have k46 := (am_ne e41 (t + 4) (by omega)).trans w4
            refine q_blk (lv2 := [(0, vr t), (1, vi 1), (2, vi g), (3, vi i), (4, vi (kd e9))]) (st2 := [vi 1, vr t]) kX6_readTerm_51 rfl ?_
            refine AQ.callVi (av := [vi 1]) (st := []) (c_X6_readFactor1 (L := L9) ⟨_, k42, k43, k44, k45, k46⟩ n0 kn (by omega) (by omega) kr vq hL9 (by omega)) lk_RX6_233 (by decide) rfl rfl ⟨_, _, _, k42⟩ ⟨_, rfl, rfl⟩ (Nat.le_of_ble_eq_true rfl) eX6_readTerm_53 (fun z47 h49 e48 => ?_)
            rcases e48 with ⟨⟨rfl, Lh49, hh49e, qh49, ⟨bh49a, bh49b, bh49c⟩, hh49n, hh49c, Xh49, Ch49⟩ | ⟨rfl, eh49, ah49, qh49, Xh49⟩, Fh49⟩
            · skip
              obtain ⟨g50t, g500, g501, g502, g503, g504⟩ := id Xh49
              refine q_blk (lv2 := [(0, vr t), (1, vi 1), (2, vi 1), (3, vi i), (4, vi (kd e9))]) (st2 := [vi 42, vi (kd e9), vr t]) kX6_readTerm_56 rfl ?_
              refine AQ.ic_ne (tgt := 70) eX6_readTerm_62 (by decide) (by first | assumption | exact ⟨by omega, by omega⟩) ⟨by decide, by decide⟩ (fun br51 => ?_) (fun br51 => ?_)
              · skip
                refine q_blk (lv2 := [(0, vr t), (1, vi 1), (2, vi 1), (3, vi i), (4, vi (kd e9))]) (st2 := [vi (-9), vr t]) kX6_readTerm_70 rfl ?_
                refine AQ.callVv (av := [vi (-9)]) (st := []) (c_X6_addCode (v := (-9)) ⟨_, g500, g501, g502, g503, g504⟩ (by omega) (by omega)) lk_RX6_230 (by decide) rfl rfl ⟨_, _, _, g500⟩ ⟨_, rfl, rfl⟩ (Nat.le_of_ble_eq_true rfl) eX6_readTerm_72 (fun h54 e53 => ?_)
                obtain ⟨Xh54, Fh54⟩ := e53
                obtain ⟨g55t, g550, g551, g552, g553, g554⟩ := id Xh54
                refine q_blk (lv2 := [(0, vr t), (1, vi 1), (2, vi 1), (3, vi (i + 1)), (4, vi (kd e9))]) (st2 := []) kX6_readTerm_75 rfl ?_
                refine q_goto (tgt := 8) eX6_readTerm_78 (by decide) ?_
                refine q_sub (lv2 := [(0, vr t), (1, vi 1), (2, vi 1), (3, vi (i + 1))]) [0, 1, 2, 3] rfl ?_
                exact ih5 1 (i + 1) h54 (Lh49 ++ [(5, 0)]) hh49e hh49n (am_uI hh49c (Lh49.length : Int) (-9)) (⟨⟨by omega, by omega⟩, hfr.tr (((am_fr.rf.tr (am_fr.st e41 (by omega) (by omega))).tr Fh49).tr Fh54), Or.inl ⟨rfl, ⟨by omega, by omega, by simp; omega⟩, by rw [show 800 - (i + 1).toNat = 800 - i.toNat - 1 by omega]; exact (rJ_go (o := 5) (by omega) (by omega) qh49).symm.trans hJ9, Ch49.add (by unfold gm_en; simp), SU.cast ⟨_, g550, g551, g552, g553, g554⟩ (by simp)⟩⟩) (by omega)
              · skip
                refine q_blk (lv2 := [(0, vr t), (1, vi 1), (2, vi 1), (3, vi i), (4, vi (kd e9))]) (st2 := [vi (-8), vr t]) kX6_readTerm_65 rfl ?_
                refine q_goto (tgt := 72) eX6_readTerm_67 (by decide) ?_
                refine AQ.callVv (av := [vi (-8)]) (st := []) (c_X6_addCode (v := (-8)) ⟨_, g500, g501, g502, g503, g504⟩ (by omega) (by omega)) lk_RX6_230 (by decide) rfl rfl ⟨_, _, _, g500⟩ ⟨_, rfl, rfl⟩ (Nat.le_of_ble_eq_true rfl) eX6_readTerm_72 (fun h58 e57 => ?_)
                obtain ⟨Xh58, Fh58⟩ := e57
                obtain ⟨g59t, g590, g591, g592, g593, g594⟩ := id Xh58
                refine q_blk (lv2 := [(0, vr t), (1, vi 1), (2, vi 1), (3, vi (i + 1)), (4, vi (kd e9))]) (st2 := []) kX6_readTerm_75 rfl ?_
                refine q_goto (tgt := 8) eX6_readTerm_78 (by decide) ?_
                refine q_sub (lv2 := [(0, vr t), (1, vi 1), (2, vi 1), (3, vi (i + 1))]) [0, 1, 2, 3] rfl ?_
                exact ih5 1 (i + 1) h58 (Lh49 ++ [(4, 0)]) hh49e hh49n (am_uI hh49c (Lh49.length : Int) (-8)) (⟨⟨by omega, by omega⟩, hfr.tr (((am_fr.rf.tr (am_fr.st e41 (by omega) (by omega))).tr Fh49).tr Fh58), Or.inl ⟨rfl, ⟨by omega, by omega, by simp; omega⟩, by rw [show 800 - (i + 1).toNat = 800 - i.toNat - 1 by omega]; exact (rJ_go (o := 4) (by omega) (by omega) qh49).symm.trans hJ9, Ch49.add (by unfold gm_en; simp), SU.cast ⟨_, g590, g591, g592, g593, g594⟩ (by simp)⟩⟩) (by omega)
            · skip
              refine q_blk (lv2 := [(0, vr t), (1, vi 1), (2, vi 0), (3, vi i), (4, vi (kd e9))]) (st2 := [vi 42, vi (kd e9), vr t]) kX6_readTerm_56 rfl ?_
              refine AQ.ic_ne (tgt := 70) eX6_readTerm_62 (by decide) (by first | assumption | exact ⟨by omega, by omega⟩) ⟨by decide, by decide⟩ (fun br60 => ?_) (fun br60 => ?_)
              · skip
                refine q_blk (lv2 := [(0, vr t), (1, vi 1), (2, vi 0), (3, vi i), (4, vi (kd e9))]) (st2 := [vi (-9), vr t]) kX6_readTerm_70 rfl ?_
                refine AQ.callVv (av := [vi (-9)]) (st := []) (c_X6_addCodeF Xh49 (v := (-9))) lk_RX6_230 (by decide) rfl rfl (SF.ob Xh49) ⟨_, rfl, rfl⟩ (Nat.le_of_ble_eq_true rfl) eX6_readTerm_72 (fun h63 e62 => ?_)
                obtain ⟨Xh63, Fh63⟩ := e62
                refine q_blk (lv2 := [(0, vr t), (1, vi 1), (2, vi 0), (3, vi (i + 1)), (4, vi (kd e9))]) (st2 := []) kX6_readTerm_75 rfl ?_
                refine q_goto (tgt := 8) eX6_readTerm_78 (by decide) ?_
                refine q_sub (lv2 := [(0, vr t), (1, vi 1), (2, vi 0), (3, vi (i + 1))]) [0, 1, 2, 3] rfl ?_
                exact ih5 0 (i + 1) h63 L 0 0 cd (⟨⟨by omega, by omega⟩, hfr.tr (((am_fr.rf.tr (am_fr.st e41 (by omega) (by omega))).tr Fh49).tr Fh63), Or.inr ⟨rfl, _, _, hJ9.symm.trans (rJ_no (by omega) (by omega) qh49), Xh63⟩⟩) (by omega)
              · skip
                refine q_blk (lv2 := [(0, vr t), (1, vi 1), (2, vi 0), (3, vi i), (4, vi (kd e9))]) (st2 := [vi (-8), vr t]) kX6_readTerm_65 rfl ?_
                refine q_goto (tgt := 72) eX6_readTerm_67 (by decide) ?_
                refine AQ.callVv (av := [vi (-8)]) (st := []) (c_X6_addCodeF Xh49 (v := (-8))) lk_RX6_230 (by decide) rfl rfl (SF.ob Xh49) ⟨_, rfl, rfl⟩ (Nat.le_of_ble_eq_true rfl) eX6_readTerm_72 (fun h66 e65 => ?_)
                obtain ⟨Xh66, Fh66⟩ := e65
                refine q_blk (lv2 := [(0, vr t), (1, vi 1), (2, vi 0), (3, vi (i + 1)), (4, vi (kd e9))]) (st2 := []) kX6_readTerm_75 rfl ?_
                refine q_goto (tgt := 8) eX6_readTerm_78 (by decide) ?_
                refine q_sub (lv2 := [(0, vr t), (1, vi 1), (2, vi 0), (3, vi (i + 1))]) [0, 1, 2, 3] rfl ?_
                exact ih5 0 (i + 1) h66 L 0 0 cd (⟨⟨by omega, by omega⟩, hfr.tr (((am_fr.rf.tr (am_fr.st e41 (by omega) (by omega))).tr Fh49).tr Fh66), Or.inr ⟨rfl, _, _, hJ9.symm.trans (rJ_no (by omega) (by omega) qh49), Xh66⟩⟩) (by omega)
          · skip
            refine q_blk (lv2 := [(0, vr t), (1, vi 1), (2, vi g), (3, vi i), (4, vi (kd e9))]) (st2 := [vi 1]) kX6_readTerm_39 rfl ?_
            exact q_rz rfl eX6_readTerm_40 (by decide) ⟨1, rfl, Or.inl ⟨rfl, L9, e9, hJ9.symm.trans (rJ_end (Or.inr ⟨by omega, by omega⟩)), ⟨by omega, by omega, by omega⟩, _, _, ⟨_, w0, w1, w2, w3, w4⟩, hL9⟩, hfr.tr am_fr.rf⟩
  · skip
    refine q_blk (lv2 := [(0, vr t), (1, vi 1), (2, vi 0), (3, vi 0)]) (st2 := []) kX6_readTerm_5 rfl ?_
    refine am_lp7 (I := fun (g : Int) (i : Int) (hh : AH) (L9 : GL) (e9 : Int) (v9 : Int) (c9 : Int → Int) => (0 ≤ i ∧ i ≤ 800) ∧ am_fr h hh t (t + 5) ∧ ((g = 1 ∧ (he < e9 ∧ e9 ≤ n ∧ (L9.length : Int) ≤ (L.length : Int) + (e9 - he)) ∧ rJ kd (rA kd st vl (some (rU kd st vl 2))) 42 47 4 5 (800 - i.toNat) L9 e9 = rM kd st vl (some (rU kd st vl 2)) L he ∧ CL c9 L9 ∧ SU hh t u b j kd st vl e9 v9 px (L9.length : Int) hs er ea c9) ∨ (g = 0 ∧ ∃ e a, rM kd st vl (some (rU kd st vl 2)) L he = .inl (e, a) ∧ SF hh t u b j kd st vl e a))) (μ := fun (g : Int) (i : Int) (hh : AH) (L9 : GL) (e9 : Int) (v9 : Int) (c9 : Int → Int) => (800 - i).toNat) (G := fun (g : Int) (i : Int) (hh : AH) (L9 : GL) (e9 : Int) (v9 : Int) (c9 : Int → Int) => AQ w m_X6_readTerm 14 8 [(0, vr t), (1, vi 1), (2, vi g), (3, vi i)] [] hh (am_int (fun z h1 => ((z = 1 ∧ ∃ L' he', rM kd st vl (some (rU kd st vl 2)) L he = .inr (L', he') ∧ (he < he' ∧ he' ≤ n ∧ (L'.length : Int) ≤ (L.length : Int) + (he' - he)) ∧ ∃ nu' cd', SU h1 t u b j kd st vl he' nu' px (L'.length : Int) hs er ea cd' ∧ CL cd' L') ∨ (z = 0 ∧ ∃ e a, rM kd st vl (some (rU kd st vl 2)) L he = .inl (e, a) ∧ SF h1 t u b j kd st vl e a)) ∧ am_fr h h1 t (t + 5)))) ?_ 0 0 h3 L 0 0 cd (⟨⟨by omega, by omega⟩, (am_fr.rf.tr Fh3), Or.inr ⟨rfl, _, _, by unfold rM; exact rB_l qh3 _, Xh3⟩⟩)
    intro g i hh L9 e9 v9 c9 hI68 ih67
    obtain ⟨⟨i0, i1⟩, hfr, hG⟩ := hI68
    have hg9 : g = 0 ∨ g = 1 := by rcases hG with q | q; exact Or.inr q.1; exact Or.inl q.1
    refine q_blk (lv2 := [(0, vr t), (1, vi 1), (2, vi g), (3, vi i)]) (st2 := [vi 800, vi i]) kX6_readTerm_8 rfl ?_
    refine AQ.ic_ge (tgt := 81) eX6_readTerm_12 (by decide) (by first | assumption | exact ⟨by omega, by omega⟩) ⟨by decide, by decide⟩ (fun br69 => ?_) (fun br69 => ?_)
    · skip
      refine q_blk (lv2 := [(0, vr t), (1, vi 1), (2, vi g), (3, vi i)]) (st2 := [vi g]) kX6_readTerm_81 rfl ?_
      exact q_rz rfl eX6_readTerm_82 (by omega) ⟨g, rfl, (by rcases hG with ⟨rfl, hb9, hJ9, hL9, hS9⟩ | hG; exact Or.inl ⟨rfl, L9, e9, hJ9.symm.trans (rJ_end (Or.inl (by omega))), hb9, _, _, hS9, hL9⟩; exact Or.inr hG), hfr⟩
    · skip
      refine q_blk (lv2 := [(0, vr t), (1, vi 1), (2, vi g), (3, vi i)]) (st2 := [vi g]) kX6_readTerm_15 rfl ?_
      refine AQ.if_eq (tgt := 81) eX6_readTerm_16 (by decide) (by first | assumption | exact ⟨by omega, by omega⟩) (fun br70 => ?_) (fun br70 => ?_)
      · skip
        refine q_blk (lv2 := [(0, vr t), (1, vi 1), (2, vi g), (3, vi i)]) (st2 := [vi g]) kX6_readTerm_81 rfl ?_
        exact q_rz rfl eX6_readTerm_82 (by omega) ⟨g, rfl, (by rcases hG with ⟨rfl, hb9, hJ9, hL9, hS9⟩ | hG; exact Or.inl ⟨rfl, L9, e9, hJ9.symm.trans (rJ_end (Or.inl (by omega))), hb9, _, _, hS9, hL9⟩; exact Or.inr hG), hfr⟩
      · skip
        obtain ⟨-, ⟨b9a, b9b, b9c⟩, hJ9, hL9, hS9⟩ := hG.resolve_right (fun q => absurd q.1 (by omega))
        obtain ⟨wt, w0, w1, w2, w3, w4⟩ := id hS9
        have kr9 := kr e9 (by omega) (by omega)
        have hen9 : kd e9 ≠ 0 → e9 ≠ n := fun q e => by rw [e] at q; omega
        refine q_blk (lv2 := [(0, vr t), (1, vi 1), (2, vi g), (3, vi i)]) (st2 := [vr t]) kX6_readTerm_19 rfl ?_
        refine q_Vi (av := []) (st := []) (c_X6_kindHere ⟨_, w0, w1, w2, w3, w4⟩ (by omega) (by omega)) lk_RX6_70 (by decide) rfl rfl ⟨_, _, _, w0⟩ ⟨_, rfl, rfl⟩ (Nat.le_of_ble_eq_true rfl) eX6_readTerm_20 (fun z71 e72 => ?_)
        subst e72
        refine q_blk (lv2 := [(0, vr t), (1, vi 1), (2, vi g), (3, vi i), (4, vi (kd e9))]) (st2 := [vi 42, vi (kd e9)]) kX6_readTerm_23 rfl ?_
        refine AQ.ic_eq (tgt := 41) eX6_readTerm_29 (by decide) (by first | assumption | exact ⟨by omega, by omega⟩) ⟨by decide, by decide⟩ (fun br73 => ?_) (fun br73 => ?_)
        · skip
          refine q_blk (lv2 := [(0, vr t), (1, vi 1), (2, vi g), (3, vi i), (4, vi (kd e9))]) (st2 := [vr t, vr t]) kX6_readTerm_41 rfl ?_
          refine q_gi eX6_readTerm_43 fl_RX6_28 (Or.inl rfl) w0 (z := e9) rfl ?_
          refine q_blk (lv2 := [(0, vr t), (1, vi 1), (2, vi g), (3, vi i), (4, vi (kd e9))]) (st2 := [vi (e9 + 1), vr t]) kX6_readTerm_46 rfl ?_
          refine q_pi eX6_readTerm_48 fl_RX6_28 (fun q hq => by cases hq; exact Or.inl rfl) (Or.inl rfl) w0 (Nat.le_of_ble_eq_true rfl) (l2 := [0, 0, 0, 0, 0, 0, 0, wt, (e9 + 1), v9, px, (L9.length : Int), hs, er, ea]) rfl (fun h74 e75 => ?_)
          have k76 := am_at e75
          have k77 := (am_ne e75 (t + 1) (by omega)).trans w1
          have k78 := (am_ne e75 (t + 2) (by omega)).trans w2
          have k79 := (am_ne e75 (t + 3) (by omega)).trans w3
          have k80 := (am_ne e75 (t + 4) (by omega)).trans w4
          refine q_blk (lv2 := [(0, vr t), (1, vi 1), (2, vi g), (3, vi i), (4, vi (kd e9))]) (st2 := [vi 1, vr t]) kX6_readTerm_51 rfl ?_
          refine AQ.callVi (av := [vi 1]) (st := []) (c_X6_readFactor1 (L := L9) ⟨_, k76, k77, k78, k79, k80⟩ n0 kn (by omega) (by omega) kr vq hL9 (by omega)) lk_RX6_233 (by decide) rfl rfl ⟨_, _, _, k76⟩ ⟨_, rfl, rfl⟩ (Nat.le_of_ble_eq_true rfl) eX6_readTerm_53 (fun z81 h83 e82 => ?_)
          rcases e82 with ⟨⟨rfl, Lh83, hh83e, qh83, ⟨bh83a, bh83b, bh83c⟩, hh83n, hh83c, Xh83, Ch83⟩ | ⟨rfl, eh83, ah83, qh83, Xh83⟩, Fh83⟩
          · skip
            obtain ⟨g84t, g840, g841, g842, g843, g844⟩ := id Xh83
            refine q_blk (lv2 := [(0, vr t), (1, vi 1), (2, vi 1), (3, vi i), (4, vi (kd e9))]) (st2 := [vi 42, vi (kd e9), vr t]) kX6_readTerm_56 rfl ?_
            refine AQ.ic_ne (tgt := 70) eX6_readTerm_62 (by decide) (by first | assumption | exact ⟨by omega, by omega⟩) ⟨by decide, by decide⟩ (fun br85 => ?_) (fun br85 => ?_)
            · skip
              refine q_blk (lv2 := [(0, vr t), (1, vi 1), (2, vi 1), (3, vi i), (4, vi (kd e9))]) (st2 := [vi (-9), vr t]) kX6_readTerm_70 rfl ?_
              refine AQ.callVv (av := [vi (-9)]) (st := []) (c_X6_addCode (v := (-9)) ⟨_, g840, g841, g842, g843, g844⟩ (by omega) (by omega)) lk_RX6_230 (by decide) rfl rfl ⟨_, _, _, g840⟩ ⟨_, rfl, rfl⟩ (Nat.le_of_ble_eq_true rfl) eX6_readTerm_72 (fun h88 e87 => ?_)
              obtain ⟨Xh88, Fh88⟩ := e87
              obtain ⟨g89t, g890, g891, g892, g893, g894⟩ := id Xh88
              refine q_blk (lv2 := [(0, vr t), (1, vi 1), (2, vi 1), (3, vi (i + 1)), (4, vi (kd e9))]) (st2 := []) kX6_readTerm_75 rfl ?_
              refine q_goto (tgt := 8) eX6_readTerm_78 (by decide) ?_
              refine q_sub (lv2 := [(0, vr t), (1, vi 1), (2, vi 1), (3, vi (i + 1))]) [0, 1, 2, 3] rfl ?_
              exact ih67 1 (i + 1) h88 (Lh83 ++ [(5, 0)]) hh83e hh83n (am_uI hh83c (Lh83.length : Int) (-9)) (⟨⟨by omega, by omega⟩, hfr.tr (((am_fr.rf.tr (am_fr.st e75 (by omega) (by omega))).tr Fh83).tr Fh88), Or.inl ⟨rfl, ⟨by omega, by omega, by simp; omega⟩, by rw [show 800 - (i + 1).toNat = 800 - i.toNat - 1 by omega]; exact (rJ_go (o := 5) (by omega) (by omega) qh83).symm.trans hJ9, Ch83.add (by unfold gm_en; simp), SU.cast ⟨_, g890, g891, g892, g893, g894⟩ (by simp)⟩⟩) (by omega)
            · skip
              refine q_blk (lv2 := [(0, vr t), (1, vi 1), (2, vi 1), (3, vi i), (4, vi (kd e9))]) (st2 := [vi (-8), vr t]) kX6_readTerm_65 rfl ?_
              refine q_goto (tgt := 72) eX6_readTerm_67 (by decide) ?_
              refine AQ.callVv (av := [vi (-8)]) (st := []) (c_X6_addCode (v := (-8)) ⟨_, g840, g841, g842, g843, g844⟩ (by omega) (by omega)) lk_RX6_230 (by decide) rfl rfl ⟨_, _, _, g840⟩ ⟨_, rfl, rfl⟩ (Nat.le_of_ble_eq_true rfl) eX6_readTerm_72 (fun h92 e91 => ?_)
              obtain ⟨Xh92, Fh92⟩ := e91
              obtain ⟨g93t, g930, g931, g932, g933, g934⟩ := id Xh92
              refine q_blk (lv2 := [(0, vr t), (1, vi 1), (2, vi 1), (3, vi (i + 1)), (4, vi (kd e9))]) (st2 := []) kX6_readTerm_75 rfl ?_
              refine q_goto (tgt := 8) eX6_readTerm_78 (by decide) ?_
              refine q_sub (lv2 := [(0, vr t), (1, vi 1), (2, vi 1), (3, vi (i + 1))]) [0, 1, 2, 3] rfl ?_
              exact ih67 1 (i + 1) h92 (Lh83 ++ [(4, 0)]) hh83e hh83n (am_uI hh83c (Lh83.length : Int) (-8)) (⟨⟨by omega, by omega⟩, hfr.tr (((am_fr.rf.tr (am_fr.st e75 (by omega) (by omega))).tr Fh83).tr Fh92), Or.inl ⟨rfl, ⟨by omega, by omega, by simp; omega⟩, by rw [show 800 - (i + 1).toNat = 800 - i.toNat - 1 by omega]; exact (rJ_go (o := 4) (by omega) (by omega) qh83).symm.trans hJ9, Ch83.add (by unfold gm_en; simp), SU.cast ⟨_, g930, g931, g932, g933, g934⟩ (by simp)⟩⟩) (by omega)
          · skip
            refine q_blk (lv2 := [(0, vr t), (1, vi 1), (2, vi 0), (3, vi i), (4, vi (kd e9))]) (st2 := [vi 42, vi (kd e9), vr t]) kX6_readTerm_56 rfl ?_
            refine AQ.ic_ne (tgt := 70) eX6_readTerm_62 (by decide) (by first | assumption | exact ⟨by omega, by omega⟩) ⟨by decide, by decide⟩ (fun br94 => ?_) (fun br94 => ?_)
            · skip
              refine q_blk (lv2 := [(0, vr t), (1, vi 1), (2, vi 0), (3, vi i), (4, vi (kd e9))]) (st2 := [vi (-9), vr t]) kX6_readTerm_70 rfl ?_
              refine AQ.callVv (av := [vi (-9)]) (st := []) (c_X6_addCodeF Xh83 (v := (-9))) lk_RX6_230 (by decide) rfl rfl (SF.ob Xh83) ⟨_, rfl, rfl⟩ (Nat.le_of_ble_eq_true rfl) eX6_readTerm_72 (fun h97 e96 => ?_)
              obtain ⟨Xh97, Fh97⟩ := e96
              refine q_blk (lv2 := [(0, vr t), (1, vi 1), (2, vi 0), (3, vi (i + 1)), (4, vi (kd e9))]) (st2 := []) kX6_readTerm_75 rfl ?_
              refine q_goto (tgt := 8) eX6_readTerm_78 (by decide) ?_
              refine q_sub (lv2 := [(0, vr t), (1, vi 1), (2, vi 0), (3, vi (i + 1))]) [0, 1, 2, 3] rfl ?_
              exact ih67 0 (i + 1) h97 L 0 0 cd (⟨⟨by omega, by omega⟩, hfr.tr (((am_fr.rf.tr (am_fr.st e75 (by omega) (by omega))).tr Fh83).tr Fh97), Or.inr ⟨rfl, _, _, hJ9.symm.trans (rJ_no (by omega) (by omega) qh83), Xh97⟩⟩) (by omega)
            · skip
              refine q_blk (lv2 := [(0, vr t), (1, vi 1), (2, vi 0), (3, vi i), (4, vi (kd e9))]) (st2 := [vi (-8), vr t]) kX6_readTerm_65 rfl ?_
              refine q_goto (tgt := 72) eX6_readTerm_67 (by decide) ?_
              refine AQ.callVv (av := [vi (-8)]) (st := []) (c_X6_addCodeF Xh83 (v := (-8))) lk_RX6_230 (by decide) rfl rfl (SF.ob Xh83) ⟨_, rfl, rfl⟩ (Nat.le_of_ble_eq_true rfl) eX6_readTerm_72 (fun h100 e99 => ?_)
              obtain ⟨Xh100, Fh100⟩ := e99
              refine q_blk (lv2 := [(0, vr t), (1, vi 1), (2, vi 0), (3, vi (i + 1)), (4, vi (kd e9))]) (st2 := []) kX6_readTerm_75 rfl ?_
              refine q_goto (tgt := 8) eX6_readTerm_78 (by decide) ?_
              refine q_sub (lv2 := [(0, vr t), (1, vi 1), (2, vi 0), (3, vi (i + 1))]) [0, 1, 2, 3] rfl ?_
              exact ih67 0 (i + 1) h100 L 0 0 cd (⟨⟨by omega, by omega⟩, hfr.tr (((am_fr.rf.tr (am_fr.st e75 (by omega) (by omega))).tr Fh83).tr Fh100), Or.inr ⟨rfl, _, _, hJ9.symm.trans (rJ_no (by omega) (by omega) qh83), Xh100⟩⟩) (by omega)
        · skip
          refine q_blk (lv2 := [(0, vr t), (1, vi 1), (2, vi g), (3, vi i), (4, vi (kd e9))]) (st2 := [vi 47, vi (kd e9)]) kX6_readTerm_32 rfl ?_
          refine AQ.ic_eq (tgt := 41) eX6_readTerm_36 (by decide) (by first | assumption | exact ⟨by omega, by omega⟩) ⟨by decide, by decide⟩ (fun br101 => ?_) (fun br101 => ?_)
          · skip
            refine q_blk (lv2 := [(0, vr t), (1, vi 1), (2, vi g), (3, vi i), (4, vi (kd e9))]) (st2 := [vr t, vr t]) kX6_readTerm_41 rfl ?_
            refine q_gi eX6_readTerm_43 fl_RX6_28 (Or.inl rfl) w0 (z := e9) rfl ?_
            refine q_blk (lv2 := [(0, vr t), (1, vi 1), (2, vi g), (3, vi i), (4, vi (kd e9))]) (st2 := [vi (e9 + 1), vr t]) kX6_readTerm_46 rfl ?_
            refine q_pi eX6_readTerm_48 fl_RX6_28 (fun q hq => by cases hq; exact Or.inl rfl) (Or.inl rfl) w0 (Nat.le_of_ble_eq_true rfl) (l2 := [0, 0, 0, 0, 0, 0, 0, wt, (e9 + 1), v9, px, (L9.length : Int), hs, er, ea]) rfl (fun h102 e103 => ?_)
            have k104 := am_at e103
            have k105 := (am_ne e103 (t + 1) (by omega)).trans w1
            have k106 := (am_ne e103 (t + 2) (by omega)).trans w2
            have k107 := (am_ne e103 (t + 3) (by omega)).trans w3
            have k108 := (am_ne e103 (t + 4) (by omega)).trans w4
            refine q_blk (lv2 := [(0, vr t), (1, vi 1), (2, vi g), (3, vi i), (4, vi (kd e9))]) (st2 := [vi 1, vr t]) kX6_readTerm_51 rfl ?_
            refine AQ.callVi (av := [vi 1]) (st := []) (c_X6_readFactor1 (L := L9) ⟨_, k104, k105, k106, k107, k108⟩ n0 kn (by omega) (by omega) kr vq hL9 (by omega)) lk_RX6_233 (by decide) rfl rfl ⟨_, _, _, k104⟩ ⟨_, rfl, rfl⟩ (Nat.le_of_ble_eq_true rfl) eX6_readTerm_53 (fun z109 h111 e110 => ?_)
            rcases e110 with ⟨⟨rfl, Lh111, hh111e, qh111, ⟨bh111a, bh111b, bh111c⟩, hh111n, hh111c, Xh111, Ch111⟩ | ⟨rfl, eh111, ah111, qh111, Xh111⟩, Fh111⟩
            · skip
              obtain ⟨g112t, g1120, g1121, g1122, g1123, g1124⟩ := id Xh111
              refine q_blk (lv2 := [(0, vr t), (1, vi 1), (2, vi 1), (3, vi i), (4, vi (kd e9))]) (st2 := [vi 42, vi (kd e9), vr t]) kX6_readTerm_56 rfl ?_
              refine AQ.ic_ne (tgt := 70) eX6_readTerm_62 (by decide) (by first | assumption | exact ⟨by omega, by omega⟩) ⟨by decide, by decide⟩ (fun br113 => ?_) (fun br113 => ?_)
              · skip
                refine q_blk (lv2 := [(0, vr t), (1, vi 1), (2, vi 1), (3, vi i), (4, vi (kd e9))]) (st2 := [vi (-9), vr t]) kX6_readTerm_70 rfl ?_
                refine AQ.callVv (av := [vi (-9)]) (st := []) (c_X6_addCode (v := (-9)) ⟨_, g1120, g1121, g1122, g1123, g1124⟩ (by omega) (by omega)) lk_RX6_230 (by decide) rfl rfl ⟨_, _, _, g1120⟩ ⟨_, rfl, rfl⟩ (Nat.le_of_ble_eq_true rfl) eX6_readTerm_72 (fun h116 e115 => ?_)
                obtain ⟨Xh116, Fh116⟩ := e115
                obtain ⟨g117t, g1170, g1171, g1172, g1173, g1174⟩ := id Xh116
                refine q_blk (lv2 := [(0, vr t), (1, vi 1), (2, vi 1), (3, vi (i + 1)), (4, vi (kd e9))]) (st2 := []) kX6_readTerm_75 rfl ?_
                refine q_goto (tgt := 8) eX6_readTerm_78 (by decide) ?_
                refine q_sub (lv2 := [(0, vr t), (1, vi 1), (2, vi 1), (3, vi (i + 1))]) [0, 1, 2, 3] rfl ?_
                exact ih67 1 (i + 1) h116 (Lh111 ++ [(5, 0)]) hh111e hh111n (am_uI hh111c (Lh111.length : Int) (-9)) (⟨⟨by omega, by omega⟩, hfr.tr (((am_fr.rf.tr (am_fr.st e103 (by omega) (by omega))).tr Fh111).tr Fh116), Or.inl ⟨rfl, ⟨by omega, by omega, by simp; omega⟩, by rw [show 800 - (i + 1).toNat = 800 - i.toNat - 1 by omega]; exact (rJ_go (o := 5) (by omega) (by omega) qh111).symm.trans hJ9, Ch111.add (by unfold gm_en; simp), SU.cast ⟨_, g1170, g1171, g1172, g1173, g1174⟩ (by simp)⟩⟩) (by omega)
              · skip
                refine q_blk (lv2 := [(0, vr t), (1, vi 1), (2, vi 1), (3, vi i), (4, vi (kd e9))]) (st2 := [vi (-8), vr t]) kX6_readTerm_65 rfl ?_
                refine q_goto (tgt := 72) eX6_readTerm_67 (by decide) ?_
                refine AQ.callVv (av := [vi (-8)]) (st := []) (c_X6_addCode (v := (-8)) ⟨_, g1120, g1121, g1122, g1123, g1124⟩ (by omega) (by omega)) lk_RX6_230 (by decide) rfl rfl ⟨_, _, _, g1120⟩ ⟨_, rfl, rfl⟩ (Nat.le_of_ble_eq_true rfl) eX6_readTerm_72 (fun h120 e119 => ?_)
                obtain ⟨Xh120, Fh120⟩ := e119
                obtain ⟨g121t, g1210, g1211, g1212, g1213, g1214⟩ := id Xh120
                refine q_blk (lv2 := [(0, vr t), (1, vi 1), (2, vi 1), (3, vi (i + 1)), (4, vi (kd e9))]) (st2 := []) kX6_readTerm_75 rfl ?_
                refine q_goto (tgt := 8) eX6_readTerm_78 (by decide) ?_
                refine q_sub (lv2 := [(0, vr t), (1, vi 1), (2, vi 1), (3, vi (i + 1))]) [0, 1, 2, 3] rfl ?_
                exact ih67 1 (i + 1) h120 (Lh111 ++ [(4, 0)]) hh111e hh111n (am_uI hh111c (Lh111.length : Int) (-8)) (⟨⟨by omega, by omega⟩, hfr.tr (((am_fr.rf.tr (am_fr.st e103 (by omega) (by omega))).tr Fh111).tr Fh120), Or.inl ⟨rfl, ⟨by omega, by omega, by simp; omega⟩, by rw [show 800 - (i + 1).toNat = 800 - i.toNat - 1 by omega]; exact (rJ_go (o := 4) (by omega) (by omega) qh111).symm.trans hJ9, Ch111.add (by unfold gm_en; simp), SU.cast ⟨_, g1210, g1211, g1212, g1213, g1214⟩ (by simp)⟩⟩) (by omega)
            · skip
              refine q_blk (lv2 := [(0, vr t), (1, vi 1), (2, vi 0), (3, vi i), (4, vi (kd e9))]) (st2 := [vi 42, vi (kd e9), vr t]) kX6_readTerm_56 rfl ?_
              refine AQ.ic_ne (tgt := 70) eX6_readTerm_62 (by decide) (by first | assumption | exact ⟨by omega, by omega⟩) ⟨by decide, by decide⟩ (fun br122 => ?_) (fun br122 => ?_)
              · skip
                refine q_blk (lv2 := [(0, vr t), (1, vi 1), (2, vi 0), (3, vi i), (4, vi (kd e9))]) (st2 := [vi (-9), vr t]) kX6_readTerm_70 rfl ?_
                refine AQ.callVv (av := [vi (-9)]) (st := []) (c_X6_addCodeF Xh111 (v := (-9))) lk_RX6_230 (by decide) rfl rfl (SF.ob Xh111) ⟨_, rfl, rfl⟩ (Nat.le_of_ble_eq_true rfl) eX6_readTerm_72 (fun h125 e124 => ?_)
                obtain ⟨Xh125, Fh125⟩ := e124
                refine q_blk (lv2 := [(0, vr t), (1, vi 1), (2, vi 0), (3, vi (i + 1)), (4, vi (kd e9))]) (st2 := []) kX6_readTerm_75 rfl ?_
                refine q_goto (tgt := 8) eX6_readTerm_78 (by decide) ?_
                refine q_sub (lv2 := [(0, vr t), (1, vi 1), (2, vi 0), (3, vi (i + 1))]) [0, 1, 2, 3] rfl ?_
                exact ih67 0 (i + 1) h125 L 0 0 cd (⟨⟨by omega, by omega⟩, hfr.tr (((am_fr.rf.tr (am_fr.st e103 (by omega) (by omega))).tr Fh111).tr Fh125), Or.inr ⟨rfl, _, _, hJ9.symm.trans (rJ_no (by omega) (by omega) qh111), Xh125⟩⟩) (by omega)
              · skip
                refine q_blk (lv2 := [(0, vr t), (1, vi 1), (2, vi 0), (3, vi i), (4, vi (kd e9))]) (st2 := [vi (-8), vr t]) kX6_readTerm_65 rfl ?_
                refine q_goto (tgt := 72) eX6_readTerm_67 (by decide) ?_
                refine AQ.callVv (av := [vi (-8)]) (st := []) (c_X6_addCodeF Xh111 (v := (-8))) lk_RX6_230 (by decide) rfl rfl (SF.ob Xh111) ⟨_, rfl, rfl⟩ (Nat.le_of_ble_eq_true rfl) eX6_readTerm_72 (fun h128 e127 => ?_)
                obtain ⟨Xh128, Fh128⟩ := e127
                refine q_blk (lv2 := [(0, vr t), (1, vi 1), (2, vi 0), (3, vi (i + 1)), (4, vi (kd e9))]) (st2 := []) kX6_readTerm_75 rfl ?_
                refine q_goto (tgt := 8) eX6_readTerm_78 (by decide) ?_
                refine q_sub (lv2 := [(0, vr t), (1, vi 1), (2, vi 0), (3, vi (i + 1))]) [0, 1, 2, 3] rfl ?_
                exact ih67 0 (i + 1) h128 L 0 0 cd (⟨⟨by omega, by omega⟩, hfr.tr (((am_fr.rf.tr (am_fr.st e103 (by omega) (by omega))).tr Fh111).tr Fh128), Or.inr ⟨rfl, _, _, hJ9.symm.trans (rJ_no (by omega) (by omega) qh111), Xh128⟩⟩) (by omega)
          · skip
            refine q_blk (lv2 := [(0, vr t), (1, vi 1), (2, vi g), (3, vi i), (4, vi (kd e9))]) (st2 := [vi 1]) kX6_readTerm_39 rfl ?_
            exact q_rz rfl eX6_readTerm_40 (by decide) ⟨1, rfl, Or.inl ⟨rfl, L9, e9, hJ9.symm.trans (rJ_end (Or.inr ⟨by omega, by omega⟩)), ⟨by omega, by omega, by omega⟩, _, _, ⟨_, w0, w1, w2, w3, w4⟩, hL9⟩, hfr.tr am_fr.rf⟩

set_option maxHeartbeats 1000000 in
theorem c_X6_readSum1 {w : am_w} {h : AH} {L : GL} {t u b j : Nat} {kd st vl : Int → Int} {he nu px hs er ea : Int} {cd : Int → Int} (hS : SU h t u b j kd st vl he nu px (L.length : Int) hs er ea cd) {n : Int} (n0 : n ≤ 800) (kn : kd n = 0) (he0 : 0 ≤ he) (he1 : he ≤ n) (kr : ∀ i, 0 ≤ i → i < 801 → -5 ≤ kd i ∧ kd i ≤ 100) (vq : ∀ i, 0 ≤ i → i < 801 → 0 ≤ vl i ∧ vl i ≤ 10000) (hL : CL cd L) (hl : (L.length : Int) ≤ he)  : AE w m_X6_readSum 15 [vr t, vi 1] h (am_int (fun z h1 => ((z = 1 ∧ ∃ L' he', rU kd st vl 3 L he = .inr (L', he') ∧ (he < he' ∧ he' ≤ n ∧ (L'.length : Int) ≤ (L.length : Int) + (he' - he)) ∧ ∃ nu' cd', SU h1 t u b j kd st vl he' nu' px (L'.length : Int) hs er ea cd' ∧ CL cd' L') ∨ (z = 0 ∧ ∃ e a, rU kd st vl 3 L he = .inl (e, a) ∧ SF h1 t u b j kd st vl e a)) ∧ am_fr h h1 t (t + 5))) := by
  refine AE.of wf_X6_readSum (Nat.le_of_ble_eq_true rfl) (am_ok_z (fun z h1 q => by rcases q.1 with q | q; exact Or.inr q.1; exact Or.inl q.1)) ?_
  obtain ⟨tc, c0, c1, c2, c3, c4⟩ := id hS
  have kr1 := kr he he0 (by omega)
  have vr1 := vq he he0 (by omega)
  have hen : kd he ≠ 0 → he ≠ n := fun q e9 => by rw [e9] at q; omega
  refine q_blk (lv2 := [(0, vr t), (1, vi 1)]) (st2 := [vi 1, vr t]) kX6_readSum_0 rfl ?_
  refine AQ.callVi (av := [vi 1]) (st := []) (c_X6_readTerm1 (L := L) ⟨_, c0, c1, c2, c3, c4⟩ n0 kn (by omega) (by omega) kr vq hL (by omega)) lk_RX6_227 (by decide) rfl rfl ⟨_, _, _, c0⟩ ⟨_, rfl, rfl⟩ (Nat.le_of_ble_eq_true rfl) eX6_readSum_2 (fun z1 h3 e2 => ?_)
  rcases e2 with ⟨⟨rfl, Lh3, hh3e, qh3, ⟨bh3a, bh3b, bh3c⟩, hh3n, hh3c, Xh3, Ch3⟩ | ⟨rfl, eh3, ah3, qh3, Xh3⟩, Fh3⟩
  · skip
    obtain ⟨g4t, g40, g41, g42, g43, g44⟩ := id Xh3
    refine q_blk (lv2 := [(0, vr t), (1, vi 1), (2, vi 1), (3, vi 0)]) (st2 := []) kX6_readSum_5 rfl ?_
    refine am_lp7 (I := fun (g : Int) (i : Int) (hh : AH) (L9 : GL) (e9 : Int) (v9 : Int) (c9 : Int → Int) => (0 ≤ i ∧ i ≤ 800) ∧ am_fr h hh t (t + 5) ∧ ((g = 1 ∧ (he < e9 ∧ e9 ≤ n ∧ (L9.length : Int) ≤ (L.length : Int) + (e9 - he)) ∧ rJ kd (rM kd st vl (some (rU kd st vl 2))) 43 45 2 3 (800 - i.toNat) L9 e9 = rU kd st vl 3 L he ∧ CL c9 L9 ∧ SU hh t u b j kd st vl e9 v9 px (L9.length : Int) hs er ea c9) ∨ (g = 0 ∧ ∃ e a, rU kd st vl 3 L he = .inl (e, a) ∧ SF hh t u b j kd st vl e a))) (μ := fun (g : Int) (i : Int) (hh : AH) (L9 : GL) (e9 : Int) (v9 : Int) (c9 : Int → Int) => (800 - i).toNat) (G := fun (g : Int) (i : Int) (hh : AH) (L9 : GL) (e9 : Int) (v9 : Int) (c9 : Int → Int) => AQ w m_X6_readSum 15 8 [(0, vr t), (1, vi 1), (2, vi g), (3, vi i)] [] hh (am_int (fun z h1 => ((z = 1 ∧ ∃ L' he', rU kd st vl 3 L he = .inr (L', he') ∧ (he < he' ∧ he' ≤ n ∧ (L'.length : Int) ≤ (L.length : Int) + (he' - he)) ∧ ∃ nu' cd', SU h1 t u b j kd st vl he' nu' px (L'.length : Int) hs er ea cd' ∧ CL cd' L') ∨ (z = 0 ∧ ∃ e a, rU kd st vl 3 L he = .inl (e, a) ∧ SF h1 t u b j kd st vl e a)) ∧ am_fr h h1 t (t + 5)))) ?_ 1 0 h3 Lh3 hh3e hh3n hh3c (⟨⟨by omega, by omega⟩, (am_fr.rf.tr Fh3), Or.inl ⟨rfl, ⟨by omega, by omega, by omega⟩, by rw [show (800 - (0 : Int).toNat : Nat) = 800 from rfl]; rw [rU_3]; rw [rB_r qh3], Ch3, ⟨_, g40, g41, g42, g43, g44⟩⟩⟩)
    intro g i hh L9 e9 v9 c9 hI6 ih5
    obtain ⟨⟨i0, i1⟩, hfr, hG⟩ := hI6
    have hg9 : g = 0 ∨ g = 1 := by rcases hG with q | q; exact Or.inr q.1; exact Or.inl q.1
    refine q_blk (lv2 := [(0, vr t), (1, vi 1), (2, vi g), (3, vi i)]) (st2 := [vi 800, vi i]) kX6_readSum_8 rfl ?_
    refine AQ.ic_ge (tgt := 81) eX6_readSum_12 (by decide) (by first | assumption | exact ⟨by omega, by omega⟩) ⟨by decide, by decide⟩ (fun br7 => ?_) (fun br7 => ?_)
    · skip
      refine q_blk (lv2 := [(0, vr t), (1, vi 1), (2, vi g), (3, vi i)]) (st2 := [vi g]) kX6_readSum_81 rfl ?_
      exact q_rz rfl eX6_readSum_82 (by omega) ⟨g, rfl, (by rcases hG with ⟨rfl, hb9, hJ9, hL9, hS9⟩ | hG; exact Or.inl ⟨rfl, L9, e9, hJ9.symm.trans (rJ_end (Or.inl (by omega))), hb9, _, _, hS9, hL9⟩; exact Or.inr hG), hfr⟩
    · skip
      refine q_blk (lv2 := [(0, vr t), (1, vi 1), (2, vi g), (3, vi i)]) (st2 := [vi g]) kX6_readSum_15 rfl ?_
      refine AQ.if_eq (tgt := 81) eX6_readSum_16 (by decide) (by first | assumption | exact ⟨by omega, by omega⟩) (fun br8 => ?_) (fun br8 => ?_)
      · skip
        refine q_blk (lv2 := [(0, vr t), (1, vi 1), (2, vi g), (3, vi i)]) (st2 := [vi g]) kX6_readSum_81 rfl ?_
        exact q_rz rfl eX6_readSum_82 (by omega) ⟨g, rfl, (by rcases hG with ⟨rfl, hb9, hJ9, hL9, hS9⟩ | hG; exact Or.inl ⟨rfl, L9, e9, hJ9.symm.trans (rJ_end (Or.inl (by omega))), hb9, _, _, hS9, hL9⟩; exact Or.inr hG), hfr⟩
      · skip
        obtain ⟨-, ⟨b9a, b9b, b9c⟩, hJ9, hL9, hS9⟩ := hG.resolve_right (fun q => absurd q.1 (by omega))
        obtain ⟨wt, w0, w1, w2, w3, w4⟩ := id hS9
        have kr9 := kr e9 (by omega) (by omega)
        have hen9 : kd e9 ≠ 0 → e9 ≠ n := fun q e => by rw [e] at q; omega
        refine q_blk (lv2 := [(0, vr t), (1, vi 1), (2, vi g), (3, vi i)]) (st2 := [vr t]) kX6_readSum_19 rfl ?_
        refine q_Vi (av := []) (st := []) (c_X6_kindHere ⟨_, w0, w1, w2, w3, w4⟩ (by omega) (by omega)) lk_RX6_70 (by decide) rfl rfl ⟨_, _, _, w0⟩ ⟨_, rfl, rfl⟩ (Nat.le_of_ble_eq_true rfl) eX6_readSum_20 (fun z9 e10 => ?_)
        subst e10
        refine q_blk (lv2 := [(0, vr t), (1, vi 1), (2, vi g), (3, vi i), (4, vi (kd e9))]) (st2 := [vi 43, vi (kd e9)]) kX6_readSum_23 rfl ?_
        refine AQ.ic_eq (tgt := 41) eX6_readSum_29 (by decide) (by first | assumption | exact ⟨by omega, by omega⟩) ⟨by decide, by decide⟩ (fun br11 => ?_) (fun br11 => ?_)
        · skip
          refine q_blk (lv2 := [(0, vr t), (1, vi 1), (2, vi g), (3, vi i), (4, vi (kd e9))]) (st2 := [vr t, vr t]) kX6_readSum_41 rfl ?_
          refine q_gi eX6_readSum_43 fl_RX6_28 (Or.inl rfl) w0 (z := e9) rfl ?_
          refine q_blk (lv2 := [(0, vr t), (1, vi 1), (2, vi g), (3, vi i), (4, vi (kd e9))]) (st2 := [vi (e9 + 1), vr t]) kX6_readSum_46 rfl ?_
          refine q_pi eX6_readSum_48 fl_RX6_28 (fun q hq => by cases hq; exact Or.inl rfl) (Or.inl rfl) w0 (Nat.le_of_ble_eq_true rfl) (l2 := [0, 0, 0, 0, 0, 0, 0, wt, (e9 + 1), v9, px, (L9.length : Int), hs, er, ea]) rfl (fun h12 e13 => ?_)
          have k14 := am_at e13
          have k15 := (am_ne e13 (t + 1) (by omega)).trans w1
          have k16 := (am_ne e13 (t + 2) (by omega)).trans w2
          have k17 := (am_ne e13 (t + 3) (by omega)).trans w3
          have k18 := (am_ne e13 (t + 4) (by omega)).trans w4
          refine q_blk (lv2 := [(0, vr t), (1, vi 1), (2, vi g), (3, vi i), (4, vi (kd e9))]) (st2 := [vi 1, vr t]) kX6_readSum_51 rfl ?_
          refine AQ.callVi (av := [vi 1]) (st := []) (c_X6_readTerm1 (L := L9) ⟨_, k14, k15, k16, k17, k18⟩ n0 kn (by omega) (by omega) kr vq hL9 (by omega)) lk_RX6_227 (by decide) rfl rfl ⟨_, _, _, k14⟩ ⟨_, rfl, rfl⟩ (Nat.le_of_ble_eq_true rfl) eX6_readSum_53 (fun z19 h21 e20 => ?_)
          rcases e20 with ⟨⟨rfl, Lh21, hh21e, qh21, ⟨bh21a, bh21b, bh21c⟩, hh21n, hh21c, Xh21, Ch21⟩ | ⟨rfl, eh21, ah21, qh21, Xh21⟩, Fh21⟩
          · skip
            obtain ⟨g22t, g220, g221, g222, g223, g224⟩ := id Xh21
            refine q_blk (lv2 := [(0, vr t), (1, vi 1), (2, vi 1), (3, vi i), (4, vi (kd e9))]) (st2 := [vi 43, vi (kd e9), vr t]) kX6_readSum_56 rfl ?_
            refine AQ.ic_ne (tgt := 70) eX6_readSum_62 (by decide) (by first | assumption | exact ⟨by omega, by omega⟩) ⟨by decide, by decide⟩ (fun br23 => ?_) (fun br23 => ?_)
            · skip
              refine q_blk (lv2 := [(0, vr t), (1, vi 1), (2, vi 1), (3, vi i), (4, vi (kd e9))]) (st2 := [vi (-7), vr t]) kX6_readSum_70 rfl ?_
              refine AQ.callVv (av := [vi (-7)]) (st := []) (c_X6_addCode (v := (-7)) ⟨_, g220, g221, g222, g223, g224⟩ (by omega) (by omega)) lk_RX6_230 (by decide) rfl rfl ⟨_, _, _, g220⟩ ⟨_, rfl, rfl⟩ (Nat.le_of_ble_eq_true rfl) eX6_readSum_72 (fun h26 e25 => ?_)
              obtain ⟨Xh26, Fh26⟩ := e25
              obtain ⟨g27t, g270, g271, g272, g273, g274⟩ := id Xh26
              refine q_blk (lv2 := [(0, vr t), (1, vi 1), (2, vi 1), (3, vi (i + 1)), (4, vi (kd e9))]) (st2 := []) kX6_readSum_75 rfl ?_
              refine q_goto (tgt := 8) eX6_readSum_78 (by decide) ?_
              refine q_sub (lv2 := [(0, vr t), (1, vi 1), (2, vi 1), (3, vi (i + 1))]) [0, 1, 2, 3] rfl ?_
              exact ih5 1 (i + 1) h26 (Lh21 ++ [(3, 0)]) hh21e hh21n (am_uI hh21c (Lh21.length : Int) (-7)) (⟨⟨by omega, by omega⟩, hfr.tr (((am_fr.rf.tr (am_fr.st e13 (by omega) (by omega))).tr Fh21).tr Fh26), Or.inl ⟨rfl, ⟨by omega, by omega, by simp; omega⟩, by rw [show 800 - (i + 1).toNat = 800 - i.toNat - 1 by omega]; exact (rJ_go (o := 3) (by omega) (by omega) qh21).symm.trans hJ9, Ch21.add (by unfold gm_en; simp), SU.cast ⟨_, g270, g271, g272, g273, g274⟩ (by simp)⟩⟩) (by omega)
            · skip
              refine q_blk (lv2 := [(0, vr t), (1, vi 1), (2, vi 1), (3, vi i), (4, vi (kd e9))]) (st2 := [vi (-6), vr t]) kX6_readSum_65 rfl ?_
              refine q_goto (tgt := 72) eX6_readSum_67 (by decide) ?_
              refine AQ.callVv (av := [vi (-6)]) (st := []) (c_X6_addCode (v := (-6)) ⟨_, g220, g221, g222, g223, g224⟩ (by omega) (by omega)) lk_RX6_230 (by decide) rfl rfl ⟨_, _, _, g220⟩ ⟨_, rfl, rfl⟩ (Nat.le_of_ble_eq_true rfl) eX6_readSum_72 (fun h30 e29 => ?_)
              obtain ⟨Xh30, Fh30⟩ := e29
              obtain ⟨g31t, g310, g311, g312, g313, g314⟩ := id Xh30
              refine q_blk (lv2 := [(0, vr t), (1, vi 1), (2, vi 1), (3, vi (i + 1)), (4, vi (kd e9))]) (st2 := []) kX6_readSum_75 rfl ?_
              refine q_goto (tgt := 8) eX6_readSum_78 (by decide) ?_
              refine q_sub (lv2 := [(0, vr t), (1, vi 1), (2, vi 1), (3, vi (i + 1))]) [0, 1, 2, 3] rfl ?_
              exact ih5 1 (i + 1) h30 (Lh21 ++ [(2, 0)]) hh21e hh21n (am_uI hh21c (Lh21.length : Int) (-6)) (⟨⟨by omega, by omega⟩, hfr.tr (((am_fr.rf.tr (am_fr.st e13 (by omega) (by omega))).tr Fh21).tr Fh30), Or.inl ⟨rfl, ⟨by omega, by omega, by simp; omega⟩, by rw [show 800 - (i + 1).toNat = 800 - i.toNat - 1 by omega]; exact (rJ_go (o := 2) (by omega) (by omega) qh21).symm.trans hJ9, Ch21.add (by unfold gm_en; simp), SU.cast ⟨_, g310, g311, g312, g313, g314⟩ (by simp)⟩⟩) (by omega)
          · skip
            refine q_blk (lv2 := [(0, vr t), (1, vi 1), (2, vi 0), (3, vi i), (4, vi (kd e9))]) (st2 := [vi 43, vi (kd e9), vr t]) kX6_readSum_56 rfl ?_
            refine AQ.ic_ne (tgt := 70) eX6_readSum_62 (by decide) (by first | assumption | exact ⟨by omega, by omega⟩) ⟨by decide, by decide⟩ (fun br32 => ?_) (fun br32 => ?_)
            · skip
              refine q_blk (lv2 := [(0, vr t), (1, vi 1), (2, vi 0), (3, vi i), (4, vi (kd e9))]) (st2 := [vi (-7), vr t]) kX6_readSum_70 rfl ?_
              refine AQ.callVv (av := [vi (-7)]) (st := []) (c_X6_addCodeF Xh21 (v := (-7))) lk_RX6_230 (by decide) rfl rfl (SF.ob Xh21) ⟨_, rfl, rfl⟩ (Nat.le_of_ble_eq_true rfl) eX6_readSum_72 (fun h35 e34 => ?_)
              obtain ⟨Xh35, Fh35⟩ := e34
              refine q_blk (lv2 := [(0, vr t), (1, vi 1), (2, vi 0), (3, vi (i + 1)), (4, vi (kd e9))]) (st2 := []) kX6_readSum_75 rfl ?_
              refine q_goto (tgt := 8) eX6_readSum_78 (by decide) ?_
              refine q_sub (lv2 := [(0, vr t), (1, vi 1), (2, vi 0), (3, vi (i + 1))]) [0, 1, 2, 3] rfl ?_
              exact ih5 0 (i + 1) h35 L 0 0 cd (⟨⟨by omega, by omega⟩, hfr.tr (((am_fr.rf.tr (am_fr.st e13 (by omega) (by omega))).tr Fh21).tr Fh35), Or.inr ⟨rfl, _, _, hJ9.symm.trans (rJ_no (by omega) (by omega) qh21), Xh35⟩⟩) (by omega)
            · skip
              refine q_blk (lv2 := [(0, vr t), (1, vi 1), (2, vi 0), (3, vi i), (4, vi (kd e9))]) (st2 := [vi (-6), vr t]) kX6_readSum_65 rfl ?_
              refine q_goto (tgt := 72) eX6_readSum_67 (by decide) ?_
              refine AQ.callVv (av := [vi (-6)]) (st := []) (c_X6_addCodeF Xh21 (v := (-6))) lk_RX6_230 (by decide) rfl rfl (SF.ob Xh21) ⟨_, rfl, rfl⟩ (Nat.le_of_ble_eq_true rfl) eX6_readSum_72 (fun h38 e37 => ?_)
              obtain ⟨Xh38, Fh38⟩ := e37
              refine q_blk (lv2 := [(0, vr t), (1, vi 1), (2, vi 0), (3, vi (i + 1)), (4, vi (kd e9))]) (st2 := []) kX6_readSum_75 rfl ?_
              refine q_goto (tgt := 8) eX6_readSum_78 (by decide) ?_
              refine q_sub (lv2 := [(0, vr t), (1, vi 1), (2, vi 0), (3, vi (i + 1))]) [0, 1, 2, 3] rfl ?_
              exact ih5 0 (i + 1) h38 L 0 0 cd (⟨⟨by omega, by omega⟩, hfr.tr (((am_fr.rf.tr (am_fr.st e13 (by omega) (by omega))).tr Fh21).tr Fh38), Or.inr ⟨rfl, _, _, hJ9.symm.trans (rJ_no (by omega) (by omega) qh21), Xh38⟩⟩) (by omega)
        · skip
          refine q_blk (lv2 := [(0, vr t), (1, vi 1), (2, vi g), (3, vi i), (4, vi (kd e9))]) (st2 := [vi 45, vi (kd e9)]) kX6_readSum_32 rfl ?_
          refine AQ.ic_eq (tgt := 41) eX6_readSum_36 (by decide) (by first | assumption | exact ⟨by omega, by omega⟩) ⟨by decide, by decide⟩ (fun br39 => ?_) (fun br39 => ?_)
          · skip
            refine q_blk (lv2 := [(0, vr t), (1, vi 1), (2, vi g), (3, vi i), (4, vi (kd e9))]) (st2 := [vr t, vr t]) kX6_readSum_41 rfl ?_
            refine q_gi eX6_readSum_43 fl_RX6_28 (Or.inl rfl) w0 (z := e9) rfl ?_
            refine q_blk (lv2 := [(0, vr t), (1, vi 1), (2, vi g), (3, vi i), (4, vi (kd e9))]) (st2 := [vi (e9 + 1), vr t]) kX6_readSum_46 rfl ?_
            refine q_pi eX6_readSum_48 fl_RX6_28 (fun q hq => by cases hq; exact Or.inl rfl) (Or.inl rfl) w0 (Nat.le_of_ble_eq_true rfl) (l2 := [0, 0, 0, 0, 0, 0, 0, wt, (e9 + 1), v9, px, (L9.length : Int), hs, er, ea]) rfl (fun h40 e41 => ?_)
            have k42 := am_at e41
            have k43 := (am_ne e41 (t + 1) (by omega)).trans w1
            have k44 := (am_ne e41 (t + 2) (by omega)).trans w2
            have k45 := (am_ne e41 (t + 3) (by omega)).trans w3
            have k46 := (am_ne e41 (t + 4) (by omega)).trans w4
            refine q_blk (lv2 := [(0, vr t), (1, vi 1), (2, vi g), (3, vi i), (4, vi (kd e9))]) (st2 := [vi 1, vr t]) kX6_readSum_51 rfl ?_
            refine AQ.callVi (av := [vi 1]) (st := []) (c_X6_readTerm1 (L := L9) ⟨_, k42, k43, k44, k45, k46⟩ n0 kn (by omega) (by omega) kr vq hL9 (by omega)) lk_RX6_227 (by decide) rfl rfl ⟨_, _, _, k42⟩ ⟨_, rfl, rfl⟩ (Nat.le_of_ble_eq_true rfl) eX6_readSum_53 (fun z47 h49 e48 => ?_)
            rcases e48 with ⟨⟨rfl, Lh49, hh49e, qh49, ⟨bh49a, bh49b, bh49c⟩, hh49n, hh49c, Xh49, Ch49⟩ | ⟨rfl, eh49, ah49, qh49, Xh49⟩, Fh49⟩
            · skip
              obtain ⟨g50t, g500, g501, g502, g503, g504⟩ := id Xh49
              refine q_blk (lv2 := [(0, vr t), (1, vi 1), (2, vi 1), (3, vi i), (4, vi (kd e9))]) (st2 := [vi 43, vi (kd e9), vr t]) kX6_readSum_56 rfl ?_
              refine AQ.ic_ne (tgt := 70) eX6_readSum_62 (by decide) (by first | assumption | exact ⟨by omega, by omega⟩) ⟨by decide, by decide⟩ (fun br51 => ?_) (fun br51 => ?_)
              · skip
                refine q_blk (lv2 := [(0, vr t), (1, vi 1), (2, vi 1), (3, vi i), (4, vi (kd e9))]) (st2 := [vi (-7), vr t]) kX6_readSum_70 rfl ?_
                refine AQ.callVv (av := [vi (-7)]) (st := []) (c_X6_addCode (v := (-7)) ⟨_, g500, g501, g502, g503, g504⟩ (by omega) (by omega)) lk_RX6_230 (by decide) rfl rfl ⟨_, _, _, g500⟩ ⟨_, rfl, rfl⟩ (Nat.le_of_ble_eq_true rfl) eX6_readSum_72 (fun h54 e53 => ?_)
                obtain ⟨Xh54, Fh54⟩ := e53
                obtain ⟨g55t, g550, g551, g552, g553, g554⟩ := id Xh54
                refine q_blk (lv2 := [(0, vr t), (1, vi 1), (2, vi 1), (3, vi (i + 1)), (4, vi (kd e9))]) (st2 := []) kX6_readSum_75 rfl ?_
                refine q_goto (tgt := 8) eX6_readSum_78 (by decide) ?_
                refine q_sub (lv2 := [(0, vr t), (1, vi 1), (2, vi 1), (3, vi (i + 1))]) [0, 1, 2, 3] rfl ?_
                exact ih5 1 (i + 1) h54 (Lh49 ++ [(3, 0)]) hh49e hh49n (am_uI hh49c (Lh49.length : Int) (-7)) (⟨⟨by omega, by omega⟩, hfr.tr (((am_fr.rf.tr (am_fr.st e41 (by omega) (by omega))).tr Fh49).tr Fh54), Or.inl ⟨rfl, ⟨by omega, by omega, by simp; omega⟩, by rw [show 800 - (i + 1).toNat = 800 - i.toNat - 1 by omega]; exact (rJ_go (o := 3) (by omega) (by omega) qh49).symm.trans hJ9, Ch49.add (by unfold gm_en; simp), SU.cast ⟨_, g550, g551, g552, g553, g554⟩ (by simp)⟩⟩) (by omega)
              · skip
                refine q_blk (lv2 := [(0, vr t), (1, vi 1), (2, vi 1), (3, vi i), (4, vi (kd e9))]) (st2 := [vi (-6), vr t]) kX6_readSum_65 rfl ?_
                refine q_goto (tgt := 72) eX6_readSum_67 (by decide) ?_
                refine AQ.callVv (av := [vi (-6)]) (st := []) (c_X6_addCode (v := (-6)) ⟨_, g500, g501, g502, g503, g504⟩ (by omega) (by omega)) lk_RX6_230 (by decide) rfl rfl ⟨_, _, _, g500⟩ ⟨_, rfl, rfl⟩ (Nat.le_of_ble_eq_true rfl) eX6_readSum_72 (fun h58 e57 => ?_)
                obtain ⟨Xh58, Fh58⟩ := e57
                obtain ⟨g59t, g590, g591, g592, g593, g594⟩ := id Xh58
                refine q_blk (lv2 := [(0, vr t), (1, vi 1), (2, vi 1), (3, vi (i + 1)), (4, vi (kd e9))]) (st2 := []) kX6_readSum_75 rfl ?_
                refine q_goto (tgt := 8) eX6_readSum_78 (by decide) ?_
                refine q_sub (lv2 := [(0, vr t), (1, vi 1), (2, vi 1), (3, vi (i + 1))]) [0, 1, 2, 3] rfl ?_
                exact ih5 1 (i + 1) h58 (Lh49 ++ [(2, 0)]) hh49e hh49n (am_uI hh49c (Lh49.length : Int) (-6)) (⟨⟨by omega, by omega⟩, hfr.tr (((am_fr.rf.tr (am_fr.st e41 (by omega) (by omega))).tr Fh49).tr Fh58), Or.inl ⟨rfl, ⟨by omega, by omega, by simp; omega⟩, by rw [show 800 - (i + 1).toNat = 800 - i.toNat - 1 by omega]; exact (rJ_go (o := 2) (by omega) (by omega) qh49).symm.trans hJ9, Ch49.add (by unfold gm_en; simp), SU.cast ⟨_, g590, g591, g592, g593, g594⟩ (by simp)⟩⟩) (by omega)
            · skip
              refine q_blk (lv2 := [(0, vr t), (1, vi 1), (2, vi 0), (3, vi i), (4, vi (kd e9))]) (st2 := [vi 43, vi (kd e9), vr t]) kX6_readSum_56 rfl ?_
              refine AQ.ic_ne (tgt := 70) eX6_readSum_62 (by decide) (by first | assumption | exact ⟨by omega, by omega⟩) ⟨by decide, by decide⟩ (fun br60 => ?_) (fun br60 => ?_)
              · skip
                refine q_blk (lv2 := [(0, vr t), (1, vi 1), (2, vi 0), (3, vi i), (4, vi (kd e9))]) (st2 := [vi (-7), vr t]) kX6_readSum_70 rfl ?_
                refine AQ.callVv (av := [vi (-7)]) (st := []) (c_X6_addCodeF Xh49 (v := (-7))) lk_RX6_230 (by decide) rfl rfl (SF.ob Xh49) ⟨_, rfl, rfl⟩ (Nat.le_of_ble_eq_true rfl) eX6_readSum_72 (fun h63 e62 => ?_)
                obtain ⟨Xh63, Fh63⟩ := e62
                refine q_blk (lv2 := [(0, vr t), (1, vi 1), (2, vi 0), (3, vi (i + 1)), (4, vi (kd e9))]) (st2 := []) kX6_readSum_75 rfl ?_
                refine q_goto (tgt := 8) eX6_readSum_78 (by decide) ?_
                refine q_sub (lv2 := [(0, vr t), (1, vi 1), (2, vi 0), (3, vi (i + 1))]) [0, 1, 2, 3] rfl ?_
                exact ih5 0 (i + 1) h63 L 0 0 cd (⟨⟨by omega, by omega⟩, hfr.tr (((am_fr.rf.tr (am_fr.st e41 (by omega) (by omega))).tr Fh49).tr Fh63), Or.inr ⟨rfl, _, _, hJ9.symm.trans (rJ_no (by omega) (by omega) qh49), Xh63⟩⟩) (by omega)
              · skip
                refine q_blk (lv2 := [(0, vr t), (1, vi 1), (2, vi 0), (3, vi i), (4, vi (kd e9))]) (st2 := [vi (-6), vr t]) kX6_readSum_65 rfl ?_
                refine q_goto (tgt := 72) eX6_readSum_67 (by decide) ?_
                refine AQ.callVv (av := [vi (-6)]) (st := []) (c_X6_addCodeF Xh49 (v := (-6))) lk_RX6_230 (by decide) rfl rfl (SF.ob Xh49) ⟨_, rfl, rfl⟩ (Nat.le_of_ble_eq_true rfl) eX6_readSum_72 (fun h66 e65 => ?_)
                obtain ⟨Xh66, Fh66⟩ := e65
                refine q_blk (lv2 := [(0, vr t), (1, vi 1), (2, vi 0), (3, vi (i + 1)), (4, vi (kd e9))]) (st2 := []) kX6_readSum_75 rfl ?_
                refine q_goto (tgt := 8) eX6_readSum_78 (by decide) ?_
                refine q_sub (lv2 := [(0, vr t), (1, vi 1), (2, vi 0), (3, vi (i + 1))]) [0, 1, 2, 3] rfl ?_
                exact ih5 0 (i + 1) h66 L 0 0 cd (⟨⟨by omega, by omega⟩, hfr.tr (((am_fr.rf.tr (am_fr.st e41 (by omega) (by omega))).tr Fh49).tr Fh66), Or.inr ⟨rfl, _, _, hJ9.symm.trans (rJ_no (by omega) (by omega) qh49), Xh66⟩⟩) (by omega)
          · skip
            refine q_blk (lv2 := [(0, vr t), (1, vi 1), (2, vi g), (3, vi i), (4, vi (kd e9))]) (st2 := [vi 1]) kX6_readSum_39 rfl ?_
            exact q_rz rfl eX6_readSum_40 (by decide) ⟨1, rfl, Or.inl ⟨rfl, L9, e9, hJ9.symm.trans (rJ_end (Or.inr ⟨by omega, by omega⟩)), ⟨by omega, by omega, by omega⟩, _, _, ⟨_, w0, w1, w2, w3, w4⟩, hL9⟩, hfr.tr am_fr.rf⟩
  · skip
    refine q_blk (lv2 := [(0, vr t), (1, vi 1), (2, vi 0), (3, vi 0)]) (st2 := []) kX6_readSum_5 rfl ?_
    refine am_lp7 (I := fun (g : Int) (i : Int) (hh : AH) (L9 : GL) (e9 : Int) (v9 : Int) (c9 : Int → Int) => (0 ≤ i ∧ i ≤ 800) ∧ am_fr h hh t (t + 5) ∧ ((g = 1 ∧ (he < e9 ∧ e9 ≤ n ∧ (L9.length : Int) ≤ (L.length : Int) + (e9 - he)) ∧ rJ kd (rM kd st vl (some (rU kd st vl 2))) 43 45 2 3 (800 - i.toNat) L9 e9 = rU kd st vl 3 L he ∧ CL c9 L9 ∧ SU hh t u b j kd st vl e9 v9 px (L9.length : Int) hs er ea c9) ∨ (g = 0 ∧ ∃ e a, rU kd st vl 3 L he = .inl (e, a) ∧ SF hh t u b j kd st vl e a))) (μ := fun (g : Int) (i : Int) (hh : AH) (L9 : GL) (e9 : Int) (v9 : Int) (c9 : Int → Int) => (800 - i).toNat) (G := fun (g : Int) (i : Int) (hh : AH) (L9 : GL) (e9 : Int) (v9 : Int) (c9 : Int → Int) => AQ w m_X6_readSum 15 8 [(0, vr t), (1, vi 1), (2, vi g), (3, vi i)] [] hh (am_int (fun z h1 => ((z = 1 ∧ ∃ L' he', rU kd st vl 3 L he = .inr (L', he') ∧ (he < he' ∧ he' ≤ n ∧ (L'.length : Int) ≤ (L.length : Int) + (he' - he)) ∧ ∃ nu' cd', SU h1 t u b j kd st vl he' nu' px (L'.length : Int) hs er ea cd' ∧ CL cd' L') ∨ (z = 0 ∧ ∃ e a, rU kd st vl 3 L he = .inl (e, a) ∧ SF h1 t u b j kd st vl e a)) ∧ am_fr h h1 t (t + 5)))) ?_ 0 0 h3 L 0 0 cd (⟨⟨by omega, by omega⟩, (am_fr.rf.tr Fh3), Or.inr ⟨rfl, _, _, by rw [rU_3]; exact rB_l qh3 _, Xh3⟩⟩)
    intro g i hh L9 e9 v9 c9 hI68 ih67
    obtain ⟨⟨i0, i1⟩, hfr, hG⟩ := hI68
    have hg9 : g = 0 ∨ g = 1 := by rcases hG with q | q; exact Or.inr q.1; exact Or.inl q.1
    refine q_blk (lv2 := [(0, vr t), (1, vi 1), (2, vi g), (3, vi i)]) (st2 := [vi 800, vi i]) kX6_readSum_8 rfl ?_
    refine AQ.ic_ge (tgt := 81) eX6_readSum_12 (by decide) (by first | assumption | exact ⟨by omega, by omega⟩) ⟨by decide, by decide⟩ (fun br69 => ?_) (fun br69 => ?_)
    · skip
      refine q_blk (lv2 := [(0, vr t), (1, vi 1), (2, vi g), (3, vi i)]) (st2 := [vi g]) kX6_readSum_81 rfl ?_
      exact q_rz rfl eX6_readSum_82 (by omega) ⟨g, rfl, (by rcases hG with ⟨rfl, hb9, hJ9, hL9, hS9⟩ | hG; exact Or.inl ⟨rfl, L9, e9, hJ9.symm.trans (rJ_end (Or.inl (by omega))), hb9, _, _, hS9, hL9⟩; exact Or.inr hG), hfr⟩
    · skip
      refine q_blk (lv2 := [(0, vr t), (1, vi 1), (2, vi g), (3, vi i)]) (st2 := [vi g]) kX6_readSum_15 rfl ?_
      refine AQ.if_eq (tgt := 81) eX6_readSum_16 (by decide) (by first | assumption | exact ⟨by omega, by omega⟩) (fun br70 => ?_) (fun br70 => ?_)
      · skip
        refine q_blk (lv2 := [(0, vr t), (1, vi 1), (2, vi g), (3, vi i)]) (st2 := [vi g]) kX6_readSum_81 rfl ?_
        exact q_rz rfl eX6_readSum_82 (by omega) ⟨g, rfl, (by rcases hG with ⟨rfl, hb9, hJ9, hL9, hS9⟩ | hG; exact Or.inl ⟨rfl, L9, e9, hJ9.symm.trans (rJ_end (Or.inl (by omega))), hb9, _, _, hS9, hL9⟩; exact Or.inr hG), hfr⟩
      · skip
        obtain ⟨-, ⟨b9a, b9b, b9c⟩, hJ9, hL9, hS9⟩ := hG.resolve_right (fun q => absurd q.1 (by omega))
        obtain ⟨wt, w0, w1, w2, w3, w4⟩ := id hS9
        have kr9 := kr e9 (by omega) (by omega)
        have hen9 : kd e9 ≠ 0 → e9 ≠ n := fun q e => by rw [e] at q; omega
        refine q_blk (lv2 := [(0, vr t), (1, vi 1), (2, vi g), (3, vi i)]) (st2 := [vr t]) kX6_readSum_19 rfl ?_
        refine q_Vi (av := []) (st := []) (c_X6_kindHere ⟨_, w0, w1, w2, w3, w4⟩ (by omega) (by omega)) lk_RX6_70 (by decide) rfl rfl ⟨_, _, _, w0⟩ ⟨_, rfl, rfl⟩ (Nat.le_of_ble_eq_true rfl) eX6_readSum_20 (fun z71 e72 => ?_)
        subst e72
        refine q_blk (lv2 := [(0, vr t), (1, vi 1), (2, vi g), (3, vi i), (4, vi (kd e9))]) (st2 := [vi 43, vi (kd e9)]) kX6_readSum_23 rfl ?_
        refine AQ.ic_eq (tgt := 41) eX6_readSum_29 (by decide) (by first | assumption | exact ⟨by omega, by omega⟩) ⟨by decide, by decide⟩ (fun br73 => ?_) (fun br73 => ?_)
        · skip
          refine q_blk (lv2 := [(0, vr t), (1, vi 1), (2, vi g), (3, vi i), (4, vi (kd e9))]) (st2 := [vr t, vr t]) kX6_readSum_41 rfl ?_
          refine q_gi eX6_readSum_43 fl_RX6_28 (Or.inl rfl) w0 (z := e9) rfl ?_
          refine q_blk (lv2 := [(0, vr t), (1, vi 1), (2, vi g), (3, vi i), (4, vi (kd e9))]) (st2 := [vi (e9 + 1), vr t]) kX6_readSum_46 rfl ?_
          refine q_pi eX6_readSum_48 fl_RX6_28 (fun q hq => by cases hq; exact Or.inl rfl) (Or.inl rfl) w0 (Nat.le_of_ble_eq_true rfl) (l2 := [0, 0, 0, 0, 0, 0, 0, wt, (e9 + 1), v9, px, (L9.length : Int), hs, er, ea]) rfl (fun h74 e75 => ?_)
          have k76 := am_at e75
          have k77 := (am_ne e75 (t + 1) (by omega)).trans w1
          have k78 := (am_ne e75 (t + 2) (by omega)).trans w2
          have k79 := (am_ne e75 (t + 3) (by omega)).trans w3
          have k80 := (am_ne e75 (t + 4) (by omega)).trans w4
          refine q_blk (lv2 := [(0, vr t), (1, vi 1), (2, vi g), (3, vi i), (4, vi (kd e9))]) (st2 := [vi 1, vr t]) kX6_readSum_51 rfl ?_
          refine AQ.callVi (av := [vi 1]) (st := []) (c_X6_readTerm1 (L := L9) ⟨_, k76, k77, k78, k79, k80⟩ n0 kn (by omega) (by omega) kr vq hL9 (by omega)) lk_RX6_227 (by decide) rfl rfl ⟨_, _, _, k76⟩ ⟨_, rfl, rfl⟩ (Nat.le_of_ble_eq_true rfl) eX6_readSum_53 (fun z81 h83 e82 => ?_)
          rcases e82 with ⟨⟨rfl, Lh83, hh83e, qh83, ⟨bh83a, bh83b, bh83c⟩, hh83n, hh83c, Xh83, Ch83⟩ | ⟨rfl, eh83, ah83, qh83, Xh83⟩, Fh83⟩
          · skip
            obtain ⟨g84t, g840, g841, g842, g843, g844⟩ := id Xh83
            refine q_blk (lv2 := [(0, vr t), (1, vi 1), (2, vi 1), (3, vi i), (4, vi (kd e9))]) (st2 := [vi 43, vi (kd e9), vr t]) kX6_readSum_56 rfl ?_
            refine AQ.ic_ne (tgt := 70) eX6_readSum_62 (by decide) (by first | assumption | exact ⟨by omega, by omega⟩) ⟨by decide, by decide⟩ (fun br85 => ?_) (fun br85 => ?_)
            · skip
              refine q_blk (lv2 := [(0, vr t), (1, vi 1), (2, vi 1), (3, vi i), (4, vi (kd e9))]) (st2 := [vi (-7), vr t]) kX6_readSum_70 rfl ?_
              refine AQ.callVv (av := [vi (-7)]) (st := []) (c_X6_addCode (v := (-7)) ⟨_, g840, g841, g842, g843, g844⟩ (by omega) (by omega)) lk_RX6_230 (by decide) rfl rfl ⟨_, _, _, g840⟩ ⟨_, rfl, rfl⟩ (Nat.le_of_ble_eq_true rfl) eX6_readSum_72 (fun h88 e87 => ?_)
              obtain ⟨Xh88, Fh88⟩ := e87
              obtain ⟨g89t, g890, g891, g892, g893, g894⟩ := id Xh88
              refine q_blk (lv2 := [(0, vr t), (1, vi 1), (2, vi 1), (3, vi (i + 1)), (4, vi (kd e9))]) (st2 := []) kX6_readSum_75 rfl ?_
              refine q_goto (tgt := 8) eX6_readSum_78 (by decide) ?_
              refine q_sub (lv2 := [(0, vr t), (1, vi 1), (2, vi 1), (3, vi (i + 1))]) [0, 1, 2, 3] rfl ?_
              exact ih67 1 (i + 1) h88 (Lh83 ++ [(3, 0)]) hh83e hh83n (am_uI hh83c (Lh83.length : Int) (-7)) (⟨⟨by omega, by omega⟩, hfr.tr (((am_fr.rf.tr (am_fr.st e75 (by omega) (by omega))).tr Fh83).tr Fh88), Or.inl ⟨rfl, ⟨by omega, by omega, by simp; omega⟩, by rw [show 800 - (i + 1).toNat = 800 - i.toNat - 1 by omega]; exact (rJ_go (o := 3) (by omega) (by omega) qh83).symm.trans hJ9, Ch83.add (by unfold gm_en; simp), SU.cast ⟨_, g890, g891, g892, g893, g894⟩ (by simp)⟩⟩) (by omega)
            · skip
              refine q_blk (lv2 := [(0, vr t), (1, vi 1), (2, vi 1), (3, vi i), (4, vi (kd e9))]) (st2 := [vi (-6), vr t]) kX6_readSum_65 rfl ?_
              refine q_goto (tgt := 72) eX6_readSum_67 (by decide) ?_
              refine AQ.callVv (av := [vi (-6)]) (st := []) (c_X6_addCode (v := (-6)) ⟨_, g840, g841, g842, g843, g844⟩ (by omega) (by omega)) lk_RX6_230 (by decide) rfl rfl ⟨_, _, _, g840⟩ ⟨_, rfl, rfl⟩ (Nat.le_of_ble_eq_true rfl) eX6_readSum_72 (fun h92 e91 => ?_)
              obtain ⟨Xh92, Fh92⟩ := e91
              obtain ⟨g93t, g930, g931, g932, g933, g934⟩ := id Xh92
              refine q_blk (lv2 := [(0, vr t), (1, vi 1), (2, vi 1), (3, vi (i + 1)), (4, vi (kd e9))]) (st2 := []) kX6_readSum_75 rfl ?_
              refine q_goto (tgt := 8) eX6_readSum_78 (by decide) ?_
              refine q_sub (lv2 := [(0, vr t), (1, vi 1), (2, vi 1), (3, vi (i + 1))]) [0, 1, 2, 3] rfl ?_
              exact ih67 1 (i + 1) h92 (Lh83 ++ [(2, 0)]) hh83e hh83n (am_uI hh83c (Lh83.length : Int) (-6)) (⟨⟨by omega, by omega⟩, hfr.tr (((am_fr.rf.tr (am_fr.st e75 (by omega) (by omega))).tr Fh83).tr Fh92), Or.inl ⟨rfl, ⟨by omega, by omega, by simp; omega⟩, by rw [show 800 - (i + 1).toNat = 800 - i.toNat - 1 by omega]; exact (rJ_go (o := 2) (by omega) (by omega) qh83).symm.trans hJ9, Ch83.add (by unfold gm_en; simp), SU.cast ⟨_, g930, g931, g932, g933, g934⟩ (by simp)⟩⟩) (by omega)
          · skip
            refine q_blk (lv2 := [(0, vr t), (1, vi 1), (2, vi 0), (3, vi i), (4, vi (kd e9))]) (st2 := [vi 43, vi (kd e9), vr t]) kX6_readSum_56 rfl ?_
            refine AQ.ic_ne (tgt := 70) eX6_readSum_62 (by decide) (by first | assumption | exact ⟨by omega, by omega⟩) ⟨by decide, by decide⟩ (fun br94 => ?_) (fun br94 => ?_)
            · skip
              refine q_blk (lv2 := [(0, vr t), (1, vi 1), (2, vi 0), (3, vi i), (4, vi (kd e9))]) (st2 := [vi (-7), vr t]) kX6_readSum_70 rfl ?_
              refine AQ.callVv (av := [vi (-7)]) (st := []) (c_X6_addCodeF Xh83 (v := (-7))) lk_RX6_230 (by decide) rfl rfl (SF.ob Xh83) ⟨_, rfl, rfl⟩ (Nat.le_of_ble_eq_true rfl) eX6_readSum_72 (fun h97 e96 => ?_)
              obtain ⟨Xh97, Fh97⟩ := e96
              refine q_blk (lv2 := [(0, vr t), (1, vi 1), (2, vi 0), (3, vi (i + 1)), (4, vi (kd e9))]) (st2 := []) kX6_readSum_75 rfl ?_
              refine q_goto (tgt := 8) eX6_readSum_78 (by decide) ?_
              refine q_sub (lv2 := [(0, vr t), (1, vi 1), (2, vi 0), (3, vi (i + 1))]) [0, 1, 2, 3] rfl ?_
              exact ih67 0 (i + 1) h97 L 0 0 cd (⟨⟨by omega, by omega⟩, hfr.tr (((am_fr.rf.tr (am_fr.st e75 (by omega) (by omega))).tr Fh83).tr Fh97), Or.inr ⟨rfl, _, _, hJ9.symm.trans (rJ_no (by omega) (by omega) qh83), Xh97⟩⟩) (by omega)
            · skip
              refine q_blk (lv2 := [(0, vr t), (1, vi 1), (2, vi 0), (3, vi i), (4, vi (kd e9))]) (st2 := [vi (-6), vr t]) kX6_readSum_65 rfl ?_
              refine q_goto (tgt := 72) eX6_readSum_67 (by decide) ?_
              refine AQ.callVv (av := [vi (-6)]) (st := []) (c_X6_addCodeF Xh83 (v := (-6))) lk_RX6_230 (by decide) rfl rfl (SF.ob Xh83) ⟨_, rfl, rfl⟩ (Nat.le_of_ble_eq_true rfl) eX6_readSum_72 (fun h100 e99 => ?_)
              obtain ⟨Xh100, Fh100⟩ := e99
              refine q_blk (lv2 := [(0, vr t), (1, vi 1), (2, vi 0), (3, vi (i + 1)), (4, vi (kd e9))]) (st2 := []) kX6_readSum_75 rfl ?_
              refine q_goto (tgt := 8) eX6_readSum_78 (by decide) ?_
              refine q_sub (lv2 := [(0, vr t), (1, vi 1), (2, vi 0), (3, vi (i + 1))]) [0, 1, 2, 3] rfl ?_
              exact ih67 0 (i + 1) h100 L 0 0 cd (⟨⟨by omega, by omega⟩, hfr.tr (((am_fr.rf.tr (am_fr.st e75 (by omega) (by omega))).tr Fh83).tr Fh100), Or.inr ⟨rfl, _, _, hJ9.symm.trans (rJ_no (by omega) (by omega) qh83), Xh100⟩⟩) (by omega)
        · skip
          refine q_blk (lv2 := [(0, vr t), (1, vi 1), (2, vi g), (3, vi i), (4, vi (kd e9))]) (st2 := [vi 45, vi (kd e9)]) kX6_readSum_32 rfl ?_
          refine AQ.ic_eq (tgt := 41) eX6_readSum_36 (by decide) (by first | assumption | exact ⟨by omega, by omega⟩) ⟨by decide, by decide⟩ (fun br101 => ?_) (fun br101 => ?_)
          · skip
            refine q_blk (lv2 := [(0, vr t), (1, vi 1), (2, vi g), (3, vi i), (4, vi (kd e9))]) (st2 := [vr t, vr t]) kX6_readSum_41 rfl ?_
            refine q_gi eX6_readSum_43 fl_RX6_28 (Or.inl rfl) w0 (z := e9) rfl ?_
            refine q_blk (lv2 := [(0, vr t), (1, vi 1), (2, vi g), (3, vi i), (4, vi (kd e9))]) (st2 := [vi (e9 + 1), vr t]) kX6_readSum_46 rfl ?_
            refine q_pi eX6_readSum_48 fl_RX6_28 (fun q hq => by cases hq; exact Or.inl rfl) (Or.inl rfl) w0 (Nat.le_of_ble_eq_true rfl) (l2 := [0, 0, 0, 0, 0, 0, 0, wt, (e9 + 1), v9, px, (L9.length : Int), hs, er, ea]) rfl (fun h102 e103 => ?_)
            have k104 := am_at e103
            have k105 := (am_ne e103 (t + 1) (by omega)).trans w1
            have k106 := (am_ne e103 (t + 2) (by omega)).trans w2
            have k107 := (am_ne e103 (t + 3) (by omega)).trans w3
            have k108 := (am_ne e103 (t + 4) (by omega)).trans w4
            refine q_blk (lv2 := [(0, vr t), (1, vi 1), (2, vi g), (3, vi i), (4, vi (kd e9))]) (st2 := [vi 1, vr t]) kX6_readSum_51 rfl ?_
            refine AQ.callVi (av := [vi 1]) (st := []) (c_X6_readTerm1 (L := L9) ⟨_, k104, k105, k106, k107, k108⟩ n0 kn (by omega) (by omega) kr vq hL9 (by omega)) lk_RX6_227 (by decide) rfl rfl ⟨_, _, _, k104⟩ ⟨_, rfl, rfl⟩ (Nat.le_of_ble_eq_true rfl) eX6_readSum_53 (fun z109 h111 e110 => ?_)
            rcases e110 with ⟨⟨rfl, Lh111, hh111e, qh111, ⟨bh111a, bh111b, bh111c⟩, hh111n, hh111c, Xh111, Ch111⟩ | ⟨rfl, eh111, ah111, qh111, Xh111⟩, Fh111⟩
            · skip
              obtain ⟨g112t, g1120, g1121, g1122, g1123, g1124⟩ := id Xh111
              refine q_blk (lv2 := [(0, vr t), (1, vi 1), (2, vi 1), (3, vi i), (4, vi (kd e9))]) (st2 := [vi 43, vi (kd e9), vr t]) kX6_readSum_56 rfl ?_
              refine AQ.ic_ne (tgt := 70) eX6_readSum_62 (by decide) (by first | assumption | exact ⟨by omega, by omega⟩) ⟨by decide, by decide⟩ (fun br113 => ?_) (fun br113 => ?_)
              · skip
                refine q_blk (lv2 := [(0, vr t), (1, vi 1), (2, vi 1), (3, vi i), (4, vi (kd e9))]) (st2 := [vi (-7), vr t]) kX6_readSum_70 rfl ?_
                refine AQ.callVv (av := [vi (-7)]) (st := []) (c_X6_addCode (v := (-7)) ⟨_, g1120, g1121, g1122, g1123, g1124⟩ (by omega) (by omega)) lk_RX6_230 (by decide) rfl rfl ⟨_, _, _, g1120⟩ ⟨_, rfl, rfl⟩ (Nat.le_of_ble_eq_true rfl) eX6_readSum_72 (fun h116 e115 => ?_)
                obtain ⟨Xh116, Fh116⟩ := e115
                obtain ⟨g117t, g1170, g1171, g1172, g1173, g1174⟩ := id Xh116
                refine q_blk (lv2 := [(0, vr t), (1, vi 1), (2, vi 1), (3, vi (i + 1)), (4, vi (kd e9))]) (st2 := []) kX6_readSum_75 rfl ?_
                refine q_goto (tgt := 8) eX6_readSum_78 (by decide) ?_
                refine q_sub (lv2 := [(0, vr t), (1, vi 1), (2, vi 1), (3, vi (i + 1))]) [0, 1, 2, 3] rfl ?_
                exact ih67 1 (i + 1) h116 (Lh111 ++ [(3, 0)]) hh111e hh111n (am_uI hh111c (Lh111.length : Int) (-7)) (⟨⟨by omega, by omega⟩, hfr.tr (((am_fr.rf.tr (am_fr.st e103 (by omega) (by omega))).tr Fh111).tr Fh116), Or.inl ⟨rfl, ⟨by omega, by omega, by simp; omega⟩, by rw [show 800 - (i + 1).toNat = 800 - i.toNat - 1 by omega]; exact (rJ_go (o := 3) (by omega) (by omega) qh111).symm.trans hJ9, Ch111.add (by unfold gm_en; simp), SU.cast ⟨_, g1170, g1171, g1172, g1173, g1174⟩ (by simp)⟩⟩) (by omega)
              · skip
                refine q_blk (lv2 := [(0, vr t), (1, vi 1), (2, vi 1), (3, vi i), (4, vi (kd e9))]) (st2 := [vi (-6), vr t]) kX6_readSum_65 rfl ?_
                refine q_goto (tgt := 72) eX6_readSum_67 (by decide) ?_
                refine AQ.callVv (av := [vi (-6)]) (st := []) (c_X6_addCode (v := (-6)) ⟨_, g1120, g1121, g1122, g1123, g1124⟩ (by omega) (by omega)) lk_RX6_230 (by decide) rfl rfl ⟨_, _, _, g1120⟩ ⟨_, rfl, rfl⟩ (Nat.le_of_ble_eq_true rfl) eX6_readSum_72 (fun h120 e119 => ?_)
                obtain ⟨Xh120, Fh120⟩ := e119
                obtain ⟨g121t, g1210, g1211, g1212, g1213, g1214⟩ := id Xh120
                refine q_blk (lv2 := [(0, vr t), (1, vi 1), (2, vi 1), (3, vi (i + 1)), (4, vi (kd e9))]) (st2 := []) kX6_readSum_75 rfl ?_
                refine q_goto (tgt := 8) eX6_readSum_78 (by decide) ?_
                refine q_sub (lv2 := [(0, vr t), (1, vi 1), (2, vi 1), (3, vi (i + 1))]) [0, 1, 2, 3] rfl ?_
                exact ih67 1 (i + 1) h120 (Lh111 ++ [(2, 0)]) hh111e hh111n (am_uI hh111c (Lh111.length : Int) (-6)) (⟨⟨by omega, by omega⟩, hfr.tr (((am_fr.rf.tr (am_fr.st e103 (by omega) (by omega))).tr Fh111).tr Fh120), Or.inl ⟨rfl, ⟨by omega, by omega, by simp; omega⟩, by rw [show 800 - (i + 1).toNat = 800 - i.toNat - 1 by omega]; exact (rJ_go (o := 2) (by omega) (by omega) qh111).symm.trans hJ9, Ch111.add (by unfold gm_en; simp), SU.cast ⟨_, g1210, g1211, g1212, g1213, g1214⟩ (by simp)⟩⟩) (by omega)
            · skip
              refine q_blk (lv2 := [(0, vr t), (1, vi 1), (2, vi 0), (3, vi i), (4, vi (kd e9))]) (st2 := [vi 43, vi (kd e9), vr t]) kX6_readSum_56 rfl ?_
              refine AQ.ic_ne (tgt := 70) eX6_readSum_62 (by decide) (by first | assumption | exact ⟨by omega, by omega⟩) ⟨by decide, by decide⟩ (fun br122 => ?_) (fun br122 => ?_)
              · skip
                refine q_blk (lv2 := [(0, vr t), (1, vi 1), (2, vi 0), (3, vi i), (4, vi (kd e9))]) (st2 := [vi (-7), vr t]) kX6_readSum_70 rfl ?_
                refine AQ.callVv (av := [vi (-7)]) (st := []) (c_X6_addCodeF Xh111 (v := (-7))) lk_RX6_230 (by decide) rfl rfl (SF.ob Xh111) ⟨_, rfl, rfl⟩ (Nat.le_of_ble_eq_true rfl) eX6_readSum_72 (fun h125 e124 => ?_)
                obtain ⟨Xh125, Fh125⟩ := e124
                refine q_blk (lv2 := [(0, vr t), (1, vi 1), (2, vi 0), (3, vi (i + 1)), (4, vi (kd e9))]) (st2 := []) kX6_readSum_75 rfl ?_
                refine q_goto (tgt := 8) eX6_readSum_78 (by decide) ?_
                refine q_sub (lv2 := [(0, vr t), (1, vi 1), (2, vi 0), (3, vi (i + 1))]) [0, 1, 2, 3] rfl ?_
                exact ih67 0 (i + 1) h125 L 0 0 cd (⟨⟨by omega, by omega⟩, hfr.tr (((am_fr.rf.tr (am_fr.st e103 (by omega) (by omega))).tr Fh111).tr Fh125), Or.inr ⟨rfl, _, _, hJ9.symm.trans (rJ_no (by omega) (by omega) qh111), Xh125⟩⟩) (by omega)
              · skip
                refine q_blk (lv2 := [(0, vr t), (1, vi 1), (2, vi 0), (3, vi i), (4, vi (kd e9))]) (st2 := [vi (-6), vr t]) kX6_readSum_65 rfl ?_
                refine q_goto (tgt := 72) eX6_readSum_67 (by decide) ?_
                refine AQ.callVv (av := [vi (-6)]) (st := []) (c_X6_addCodeF Xh111 (v := (-6))) lk_RX6_230 (by decide) rfl rfl (SF.ob Xh111) ⟨_, rfl, rfl⟩ (Nat.le_of_ble_eq_true rfl) eX6_readSum_72 (fun h128 e127 => ?_)
                obtain ⟨Xh128, Fh128⟩ := e127
                refine q_blk (lv2 := [(0, vr t), (1, vi 1), (2, vi 0), (3, vi (i + 1)), (4, vi (kd e9))]) (st2 := []) kX6_readSum_75 rfl ?_
                refine q_goto (tgt := 8) eX6_readSum_78 (by decide) ?_
                refine q_sub (lv2 := [(0, vr t), (1, vi 1), (2, vi 0), (3, vi (i + 1))]) [0, 1, 2, 3] rfl ?_
                exact ih67 0 (i + 1) h128 L 0 0 cd (⟨⟨by omega, by omega⟩, hfr.tr (((am_fr.rf.tr (am_fr.st e103 (by omega) (by omega))).tr Fh111).tr Fh128), Or.inr ⟨rfl, _, _, hJ9.symm.trans (rJ_no (by omega) (by omega) qh111), Xh128⟩⟩) (by omega)
          · skip
            refine q_blk (lv2 := [(0, vr t), (1, vi 1), (2, vi g), (3, vi i), (4, vi (kd e9))]) (st2 := [vi 1]) kX6_readSum_39 rfl ?_
            exact q_rz rfl eX6_readSum_40 (by decide) ⟨1, rfl, Or.inl ⟨rfl, L9, e9, hJ9.symm.trans (rJ_end (Or.inr ⟨by omega, by omega⟩)), ⟨by omega, by omega, by omega⟩, _, _, ⟨_, w0, w1, w2, w3, w4⟩, hL9⟩, hfr.tr am_fr.rf⟩

set_option maxHeartbeats 1000000 in
theorem c_X6_readFactor0 {w : am_w} {h : AH} {L : GL} {t u b j : Nat} {kd st vl : Int → Int} {he nu px hs er ea : Int} {cd : Int → Int} (hS : SU h t u b j kd st vl he nu px (L.length : Int) hs er ea cd) {n : Int} (n0 : n ≤ 800) (kn : kd n = 0) (he0 : 0 ≤ he) (he1 : he ≤ n) (kr : ∀ i, 0 ≤ i → i < 801 → -5 ≤ kd i ∧ kd i ≤ 100) (vq : ∀ i, 0 ≤ i → i < 801 → 0 ≤ vl i ∧ vl i ≤ 10000) (hL : CL cd L) (hl : (L.length : Int) ≤ he)  : AE w m_X6_readFactor 16 [vr t, vi 0] h (am_int (fun z h1 => ((z = 1 ∧ ∃ L' he', rA kd st vl (some (rU kd st vl 3)) L he = .inr (L', he') ∧ (he < he' ∧ he' ≤ n ∧ (L'.length : Int) ≤ (L.length : Int) + (he' - he)) ∧ ∃ nu' cd', SU h1 t u b j kd st vl he' nu' px (L'.length : Int) hs er ea cd' ∧ CL cd' L') ∨ (z = 0 ∧ ∃ e a, rA kd st vl (some (rU kd st vl 3)) L he = .inl (e, a) ∧ SF h1 t u b j kd st vl e a)) ∧ am_fr h h1 t (t + 5))) := by
  refine AE.of wf_X6_readFactor (Nat.le_of_ble_eq_true rfl) (am_ok_z (fun z h1 q => by rcases q.1 with q | q; exact Or.inr q.1; exact Or.inl q.1)) ?_
  obtain ⟨tc, c0, c1, c2, c3, c4⟩ := id hS
  have kr1 := kr he he0 (by omega)
  have vr1 := vq he he0 (by omega)
  have hen : kd he ≠ 0 → he ≠ n := fun q e9 => by rw [e9] at q; omega
  refine q_blk (lv2 := [(0, vr t), (1, vi 0)]) (st2 := [vr t]) kX6_readFactor_0 rfl ?_
  refine q_Vi (av := []) (st := []) (c_X6_kindHere ⟨_, c0, c1, c2, c3, c4⟩ (by omega) (by omega)) lk_RX6_70 (by decide) rfl rfl ⟨_, _, _, c0⟩ ⟨_, rfl, rfl⟩ (Nat.le_of_ble_eq_true rfl) eX6_readFactor_1 (fun z1 e2 => ?_)
  subst e2
  refine q_blk (lv2 := [(0, vr t), (1, vi 0), (2, vi (kd he))]) (st2 := [vi 40, vi (kd he)]) kX6_readFactor_4 rfl ?_
  refine AQ.ic_ne (tgt := 58) eX6_readFactor_8 (by decide) (by first | assumption | exact ⟨by omega, by omega⟩) ⟨by decide, by decide⟩ (fun br3 => ?_) (fun br3 => ?_)
  · skip
    refine q_blk (lv2 := [(0, vr t), (1, vi 0), (2, vi (kd he))]) (st2 := [vi (kd he)]) kX6_readFactor_58 rfl ?_
    refine AQ.if_ge (tgt := 79) eX6_readFactor_59 (by decide) (by first | assumption | exact ⟨by omega, by omega⟩) (fun br4 => ?_) (fun br4 => ?_)
    · skip
      refine q_blk (lv2 := [(0, vr t), (1, vi 0), (2, vi (kd he))]) (st2 := [vi 2, vi (kd he)]) kX6_readFactor_79 rfl ?_
      refine AQ.ic_eq (tgt := 91) eX6_readFactor_81 (by decide) (by first | assumption | exact ⟨by omega, by omega⟩) ⟨by decide, by decide⟩ (fun br5 => ?_) (fun br5 => ?_)
      · skip
        refine q_blk (lv2 := [(0, vr t), (1, vi 0), (2, vi (kd he))]) (st2 := [vr t, vr t]) kX6_readFactor_91 rfl ?_
        refine q_Vi (av := []) (st := [vr t]) (c_X6_valueHere ⟨_, c0, c1, c2, c3, c4⟩ (by omega) (by omega)) lk_RX6_148 (by decide) rfl rfl ⟨_, _, _, c0⟩ ⟨_, rfl, rfl⟩ (Nat.le_of_ble_eq_true rfl) eX6_readFactor_93 (fun z6 e7 => ?_)
        subst e7
        refine q_pi eX6_readFactor_96 fl_RX6_31 (fun q hq => by cases hq; exact Or.inl rfl) (Or.inl rfl) c0 (Nat.le_of_ble_eq_true rfl) (l2 := [0, 0, 0, 0, 0, 0, 0, tc, he, (vl he), px, (L.length : Int), hs, er, ea]) rfl (fun h8 e9 => ?_)
        have k10 := am_at e9
        have k11 := (am_ne e9 (t + 1) (by omega)).trans c1
        have k12 := (am_ne e9 (t + 2) (by omega)).trans c2
        have k13 := (am_ne e9 (t + 3) (by omega)).trans c3
        have k14 := (am_ne e9 (t + 4) (by omega)).trans c4
        refine q_blk (lv2 := [(0, vr t), (1, vi 0), (2, vi (kd he))]) (st2 := [vr t]) kX6_readFactor_99 rfl ?_
        refine q_gi eX6_readFactor_100 fl_RX6_31 (Or.inl rfl) k10 (z := (vl he)) rfl ?_
        refine q_blk (lv2 := [(0, vr t), (1, vi 0), (2, vi (kd he))]) (st2 := [vi 9999, vi (vl he)]) kX6_readFactor_103 rfl ?_
        refine AQ.ic_le (tgt := 116) eX6_readFactor_106 (by decide) (by first | assumption | exact ⟨by omega, by omega⟩) ⟨by decide, by decide⟩ (fun br15 => ?_) (fun br15 => ?_)
        · skip
          refine q_blk (lv2 := [(0, vr t), (1, vi 0), (2, vi (kd he))]) (st2 := [vr t, vr t]) kX6_readFactor_116 rfl ?_
          refine q_gi eX6_readFactor_118 fl_RX6_28 (Or.inl rfl) k10 (z := he) rfl ?_
          refine q_blk (lv2 := [(0, vr t), (1, vi 0), (2, vi (kd he))]) (st2 := [vi (he + 1), vr t]) kX6_readFactor_121 rfl ?_
          refine q_pi eX6_readFactor_123 fl_RX6_28 (fun q hq => by cases hq; exact Or.inl rfl) (Or.inl rfl) k10 (Nat.le_of_ble_eq_true rfl) (l2 := [0, 0, 0, 0, 0, 0, 0, tc, (he + 1), (vl he), px, (L.length : Int), hs, er, ea]) rfl (fun h16 e17 => ?_)
          have k18 := am_at e17
          have k19 := (am_ne e17 (t + 1) (by omega)).trans k11
          have k20 := (am_ne e17 (t + 2) (by omega)).trans k12
          have k21 := (am_ne e17 (t + 3) (by omega)).trans k13
          have k22 := (am_ne e17 (t + 4) (by omega)).trans k14
          refine q_blk (lv2 := [(0, vr t), (1, vi 0), (2, vi (kd he))]) (st2 := [vr t, vr t]) kX6_readFactor_126 rfl ?_
          refine q_gi eX6_readFactor_128 fl_RX6_31 (Or.inl rfl) k18 (z := (vl he)) rfl ?_
          refine AQ.callVv (av := [vi (vl he)]) (st := []) (c_X6_addCode (v := (vl he)) ⟨_, k18, k19, k20, k21, k22⟩ (by omega) (by omega)) lk_RX6_230 (by decide) rfl rfl ⟨_, _, _, k18⟩ ⟨_, rfl, rfl⟩ (Nat.le_of_ble_eq_true rfl) eX6_readFactor_131 (fun h25 e24 => ?_)
          obtain ⟨Xh25, Fh25⟩ := e24
          obtain ⟨g26t, g260, g261, g262, g263, g264⟩ := id Xh25
          refine q_blk (lv2 := [(0, vr t), (1, vi 0), (2, vi (kd he))]) (st2 := [vi 1]) kX6_readFactor_134 rfl ?_
          exact q_rz rfl eX6_readFactor_135 (by decide) ⟨1, rfl, Or.inl ⟨rfl, L ++ [(0, vl he)], he + 1, by unfold rA; rw [if_neg (by omega), if_neg (by omega), if_pos (by omega), if_pos (by omega)], ⟨by omega, by omega, by simp; omega⟩, (vl he), (am_uI cd (L.length : Int) (vl he)), SU.cast ⟨_, g260, g261, g262, g263, g264⟩ (by simp), hL.add (by unfold gm_en; (try simp); (try omega))⟩, ((am_fr.rf.tr ((am_fr.st e9 (by omega) (by omega)).tr (am_fr.st e17 (by omega) (by omega)))).tr Fh25)⟩
        · skip
          refine q_blk (lv2 := [(0, vr t), (1, vi 0), (2, vi (kd he))]) (st2 := [vi (-3), vr t]) kX6_readFactor_109 rfl ?_
          refine AQ.callVi (av := [vi (-3)]) (st := []) (c_X6_fail (e := (-3)) ⟨_, k10, k11, k12, k13, k14⟩ (by omega) (by omega)) lk_RX6_83 (by decide) rfl rfl ⟨_, _, _, k10⟩ ⟨_, rfl, rfl⟩ (Nat.le_of_ble_eq_true rfl) eX6_readFactor_112 (fun z27 h29 e28 => ?_)
          obtain ⟨z270, Xh29, Fh29⟩ := e28
          subst z270
          obtain ⟨g30t, g300, g301, g302, g303, g304⟩ := id Xh29
          exact q_rz rfl eX6_readFactor_115 (by decide) ⟨0, rfl, Or.inr ⟨rfl, _, _, by unfold rA; rw [if_neg (by omega), if_neg (by omega), if_pos (by omega), if_neg (by omega)], ⟨_, _, _, _, _, _, ⟨_, g300, g301, g302, g303, g304⟩, by omega, by omega⟩⟩, ((am_fr.rf.tr (am_fr.st e9 (by omega) (by omega))).tr Fh29)⟩
      · skip
        refine q_blk (lv2 := [(0, vr t), (1, vi 0), (2, vi (kd he))]) (st2 := [vi (-2), vr t]) kX6_readFactor_84 rfl ?_
        refine AQ.callVi (av := [vi (-2)]) (st := []) (c_X6_fail (e := (-2)) ⟨_, c0, c1, c2, c3, c4⟩ (by omega) (by omega)) lk_RX6_83 (by decide) rfl rfl ⟨_, _, _, c0⟩ ⟨_, rfl, rfl⟩ (Nat.le_of_ble_eq_true rfl) eX6_readFactor_87 (fun z31 h33 e32 => ?_)
        obtain ⟨z310, Xh33, Fh33⟩ := e32
        subst z310
        obtain ⟨g34t, g340, g341, g342, g343, g344⟩ := id Xh33
        exact q_rz rfl eX6_readFactor_90 (by decide) ⟨0, rfl, Or.inr ⟨rfl, _, _, by unfold rA; rw [if_neg (by omega), if_neg (by omega), if_neg (by omega)], ⟨_, _, _, _, _, _, ⟨_, g340, g341, g342, g343, g344⟩, by omega, by omega⟩⟩, (am_fr.rf.tr Fh33)⟩
    · skip
      refine q_blk (lv2 := [(0, vr t), (1, vi 0), (2, vi (kd he))]) (st2 := [vr t, vr t]) kX6_readFactor_62 rfl ?_
      refine q_gi eX6_readFactor_64 fl_RX6_28 (Or.inl rfl) c0 (z := he) rfl ?_
      refine q_blk (lv2 := [(0, vr t), (1, vi 0), (2, vi (kd he))]) (st2 := [vi (he + 1), vr t]) kX6_readFactor_67 rfl ?_
      refine q_pi eX6_readFactor_69 fl_RX6_28 (fun q hq => by cases hq; exact Or.inl rfl) (Or.inl rfl) c0 (Nat.le_of_ble_eq_true rfl) (l2 := [0, 0, 0, 0, 0, 0, 0, tc, (he + 1), nu, px, (L.length : Int), hs, er, ea]) rfl (fun h35 e36 => ?_)
      have k37 := am_at e36
      have k38 := (am_ne e36 (t + 1) (by omega)).trans c1
      have k39 := (am_ne e36 (t + 2) (by omega)).trans c2
      have k40 := (am_ne e36 (t + 3) (by omega)).trans c3
      have k41 := (am_ne e36 (t + 4) (by omega)).trans c4
      refine q_blk (lv2 := [(0, vr t), (1, vi 0), (2, vi (kd he))]) (st2 := [vi (kd he), vr t]) kX6_readFactor_72 rfl ?_
      refine AQ.callVv (av := [vi (kd he)]) (st := []) (c_X6_addCode (v := (kd he)) ⟨_, k37, k38, k39, k40, k41⟩ (by omega) (by omega)) lk_RX6_230 (by decide) rfl rfl ⟨_, _, _, k37⟩ ⟨_, rfl, rfl⟩ (Nat.le_of_ble_eq_true rfl) eX6_readFactor_74 (fun h44 e43 => ?_)
      obtain ⟨Xh44, Fh44⟩ := e43
      obtain ⟨g45t, g450, g451, g452, g453, g454⟩ := id Xh44
      refine q_blk (lv2 := [(0, vr t), (1, vi 0), (2, vi (kd he))]) (st2 := [vi 1]) kX6_readFactor_77 rfl ?_
      exact q_rz rfl eX6_readFactor_78 (by decide) ⟨1, rfl, Or.inl ⟨rfl, L ++ [(1, -1 - kd he)], he + 1, by unfold rA; rw [if_neg (by omega), if_pos (by omega)], ⟨by omega, by omega, by simp; omega⟩, nu, (am_uI cd (L.length : Int) (kd he)), SU.cast ⟨_, g450, g451, g452, g453, g454⟩ (by simp), hL.add (by unfold gm_en; (try simp); (try omega))⟩, ((am_fr.rf.tr (am_fr.st e36 (by omega) (by omega))).tr Fh44)⟩
  · skip
    refine q_blk (lv2 := [(0, vr t), (1, vi 0), (2, vi (kd he))]) (st2 := [vi 4, vi 0]) kX6_readFactor_11 rfl ?_
    refine AQ.of (AS.ic_lt_t (tgt := 23) eX6_readFactor_13 (by decide) ⟨by decide, by decide⟩ ⟨by decide, by decide⟩ (by decide)) ?_
    refine q_blk (lv2 := [(0, vr t), (1, vi 0), (2, vi (kd he))]) (st2 := [vr t, vr t]) kX6_readFactor_23 rfl ?_
    refine q_gi eX6_readFactor_25 fl_RX6_28 (Or.inl rfl) c0 (z := he) rfl ?_
    refine q_blk (lv2 := [(0, vr t), (1, vi 0), (2, vi (kd he))]) (st2 := [vi (he + 1), vr t]) kX6_readFactor_28 rfl ?_
    refine q_pi eX6_readFactor_30 fl_RX6_28 (fun q hq => by cases hq; exact Or.inl rfl) (Or.inl rfl) c0 (Nat.le_of_ble_eq_true rfl) (l2 := [0, 0, 0, 0, 0, 0, 0, tc, (he + 1), nu, px, (L.length : Int), hs, er, ea]) rfl (fun h46 e47 => ?_)
    have k48 := am_at e47
    have k49 := (am_ne e47 (t + 1) (by omega)).trans c1
    have k50 := (am_ne e47 (t + 2) (by omega)).trans c2
    have k51 := (am_ne e47 (t + 3) (by omega)).trans c3
    have k52 := (am_ne e47 (t + 4) (by omega)).trans c4
    refine q_blk (lv2 := [(0, vr t), (1, vi 0), (2, vi (kd he))]) (st2 := [vi (0 + 1), vr t]) kX6_readFactor_33 rfl ?_
    refine AQ.callVi (av := [vi (0 + 1)]) (st := []) (c_X6_readSum1 (L := L) ⟨_, k48, k49, k50, k51, k52⟩ n0 kn (by omega) (by omega) kr vq hL (by omega)) lk_RX6_215 (by decide) rfl rfl ⟨_, _, _, k48⟩ ⟨_, rfl, rfl⟩ (Nat.le_of_ble_eq_true rfl) eX6_readFactor_37 (fun z53 h55 e54 => ?_)
    rcases e54 with ⟨⟨rfl, Lh55, hh55e, qh55, ⟨bh55a, bh55b, bh55c⟩, hh55n, hh55c, Xh55, Ch55⟩ | ⟨rfl, eh55, ah55, qh55, Xh55⟩, Fh55⟩
    · skip
      obtain ⟨g56t, g560, g561, g562, g563, g564⟩ := id Xh55
      refine AQ.of (AS.if_eq_f eX6_readFactor_40 ⟨by decide, by decide⟩ (by decide) (by decide)) ?_
      refine q_blk (lv2 := [(0, vr t), (1, vi 0), (2, vi (kd he))]) (st2 := [vi 41, vr t]) kX6_readFactor_43 rfl ?_
      refine AQ.callVi (av := [vi 41]) (st := []) (c_X6_take ⟨_, g560, g561, g562, g563, g564⟩ (by omega) (by omega) kr vq (k := 41) (by omega) (by omega)) lk_RX6_166 (by decide) rfl rfl ⟨_, _, _, g560⟩ ⟨_, rfl, rfl⟩ (Nat.le_of_ble_eq_true rfl) eX6_readFactor_46 (fun z57 h59 e58 => ?_)
      rcases e58 with ⟨⟨rfl, qh59, Xh59⟩ | ⟨rfl, qh59, Xh59⟩, Fh59⟩
      · skip
        obtain ⟨g60t, g600, g601, g602, g603, g604⟩ := id Xh59
        have nh59 : hh55e ≠ n := fun e9 => by rw [e9] at qh59; omega
        refine AQ.of (AS.if_eq_f eX6_readFactor_49 ⟨by decide, by decide⟩ (by decide) (by decide)) ?_
        refine q_blk (lv2 := [(0, vr t), (1, vi 0), (2, vi (kd he))]) (st2 := [vi 1]) kX6_readFactor_52 rfl ?_
        refine q_goto (tgt := 57) eX6_readFactor_53 (by decide) ?_
        exact q_rz rfl eX6_readFactor_57 (by decide) ⟨1, rfl, Or.inl ⟨rfl, _, _, by unfold rA; rw [if_pos (by omega)]; exact (rB_r qh55 _).trans (rB_r (show rT kd st 41 hh55e = .inr () by unfold rT; rw [if_pos qh59]) _), ⟨by omega, by omega, by omega⟩, _, _, ⟨_, g600, g601, g602, g603, g604⟩, Ch55⟩, (((am_fr.rf.tr (am_fr.st e47 (by omega) (by omega))).tr Fh55).tr Fh59)⟩
      · skip
        obtain ⟨g61t, g610, g611, g612, g613, g614⟩ := id Xh59
        refine AQ.of (AS.if_eq_t (tgt := 56) eX6_readFactor_49 (by decide) ⟨by decide, by decide⟩ (by decide)) ?_
        refine q_blk (lv2 := [(0, vr t), (1, vi 0), (2, vi (kd he))]) (st2 := [vi 0]) kX6_readFactor_56 rfl ?_
        exact q_rz rfl eX6_readFactor_57 (by decide) ⟨0, rfl, Or.inr ⟨rfl, _, _, by unfold rA; rw [if_pos (by omega)]; exact (rB_r qh55 _).trans (rB_l (show rT kd st 41 hh55e = .inl (-2, st hh55e) by unfold rT; rw [if_neg qh59]) _), ⟨_, _, _, _, _, _, ⟨_, g610, g611, g612, g613, g614⟩, by omega, by omega⟩⟩, (((am_fr.rf.tr (am_fr.st e47 (by omega) (by omega))).tr Fh55).tr Fh59)⟩
    · skip
      refine AQ.of (AS.if_eq_t (tgt := 56) eX6_readFactor_40 (by decide) ⟨by decide, by decide⟩ (by decide)) ?_
      refine q_blk (lv2 := [(0, vr t), (1, vi 0), (2, vi (kd he))]) (st2 := [vi 0]) kX6_readFactor_56 rfl ?_
      exact q_rz rfl eX6_readFactor_57 (by decide) ⟨0, rfl, Or.inr ⟨rfl, _, _, by unfold rA; rw [if_pos (by omega)]; exact rB_l qh55 _, Xh55⟩, ((am_fr.rf.tr (am_fr.st e47 (by omega) (by omega))).tr Fh55)⟩

set_option maxHeartbeats 1000000 in
theorem c_X6_readTerm0 {w : am_w} {h : AH} {L : GL} {t u b j : Nat} {kd st vl : Int → Int} {he nu px hs er ea : Int} {cd : Int → Int} (hS : SU h t u b j kd st vl he nu px (L.length : Int) hs er ea cd) {n : Int} (n0 : n ≤ 800) (kn : kd n = 0) (he0 : 0 ≤ he) (he1 : he ≤ n) (kr : ∀ i, 0 ≤ i → i < 801 → -5 ≤ kd i ∧ kd i ≤ 100) (vq : ∀ i, 0 ≤ i → i < 801 → 0 ≤ vl i ∧ vl i ≤ 10000) (hL : CL cd L) (hl : (L.length : Int) ≤ he)  : AE w m_X6_readTerm 17 [vr t, vi 0] h (am_int (fun z h1 => ((z = 1 ∧ ∃ L' he', rM kd st vl (some (rU kd st vl 3)) L he = .inr (L', he') ∧ (he < he' ∧ he' ≤ n ∧ (L'.length : Int) ≤ (L.length : Int) + (he' - he)) ∧ ∃ nu' cd', SU h1 t u b j kd st vl he' nu' px (L'.length : Int) hs er ea cd' ∧ CL cd' L') ∨ (z = 0 ∧ ∃ e a, rM kd st vl (some (rU kd st vl 3)) L he = .inl (e, a) ∧ SF h1 t u b j kd st vl e a)) ∧ am_fr h h1 t (t + 5))) := by
  refine AE.of wf_X6_readTerm (Nat.le_of_ble_eq_true rfl) (am_ok_z (fun z h1 q => by rcases q.1 with q | q; exact Or.inr q.1; exact Or.inl q.1)) ?_
  obtain ⟨tc, c0, c1, c2, c3, c4⟩ := id hS
  have kr1 := kr he he0 (by omega)
  have vr1 := vq he he0 (by omega)
  have hen : kd he ≠ 0 → he ≠ n := fun q e9 => by rw [e9] at q; omega
  refine q_blk (lv2 := [(0, vr t), (1, vi 0)]) (st2 := [vi 0, vr t]) kX6_readTerm_0 rfl ?_
  refine AQ.callVi (av := [vi 0]) (st := []) (c_X6_readFactor0 (L := L) ⟨_, c0, c1, c2, c3, c4⟩ n0 kn (by omega) (by omega) kr vq hL (by omega)) lk_RX6_233 (by decide) rfl rfl ⟨_, _, _, c0⟩ ⟨_, rfl, rfl⟩ (Nat.le_of_ble_eq_true rfl) eX6_readTerm_2 (fun z1 h3 e2 => ?_)
  rcases e2 with ⟨⟨rfl, Lh3, hh3e, qh3, ⟨bh3a, bh3b, bh3c⟩, hh3n, hh3c, Xh3, Ch3⟩ | ⟨rfl, eh3, ah3, qh3, Xh3⟩, Fh3⟩
  · skip
    obtain ⟨g4t, g40, g41, g42, g43, g44⟩ := id Xh3
    refine q_blk (lv2 := [(0, vr t), (1, vi 0), (2, vi 1), (3, vi 0)]) (st2 := []) kX6_readTerm_5 rfl ?_
    refine am_lp7 (I := fun (g : Int) (i : Int) (hh : AH) (L9 : GL) (e9 : Int) (v9 : Int) (c9 : Int → Int) => (0 ≤ i ∧ i ≤ 800) ∧ am_fr h hh t (t + 5) ∧ ((g = 1 ∧ (he < e9 ∧ e9 ≤ n ∧ (L9.length : Int) ≤ (L.length : Int) + (e9 - he)) ∧ rJ kd (rA kd st vl (some (rU kd st vl 3))) 42 47 4 5 (800 - i.toNat) L9 e9 = rM kd st vl (some (rU kd st vl 3)) L he ∧ CL c9 L9 ∧ SU hh t u b j kd st vl e9 v9 px (L9.length : Int) hs er ea c9) ∨ (g = 0 ∧ ∃ e a, rM kd st vl (some (rU kd st vl 3)) L he = .inl (e, a) ∧ SF hh t u b j kd st vl e a))) (μ := fun (g : Int) (i : Int) (hh : AH) (L9 : GL) (e9 : Int) (v9 : Int) (c9 : Int → Int) => (800 - i).toNat) (G := fun (g : Int) (i : Int) (hh : AH) (L9 : GL) (e9 : Int) (v9 : Int) (c9 : Int → Int) => AQ w m_X6_readTerm 17 8 [(0, vr t), (1, vi 0), (2, vi g), (3, vi i)] [] hh (am_int (fun z h1 => ((z = 1 ∧ ∃ L' he', rM kd st vl (some (rU kd st vl 3)) L he = .inr (L', he') ∧ (he < he' ∧ he' ≤ n ∧ (L'.length : Int) ≤ (L.length : Int) + (he' - he)) ∧ ∃ nu' cd', SU h1 t u b j kd st vl he' nu' px (L'.length : Int) hs er ea cd' ∧ CL cd' L') ∨ (z = 0 ∧ ∃ e a, rM kd st vl (some (rU kd st vl 3)) L he = .inl (e, a) ∧ SF h1 t u b j kd st vl e a)) ∧ am_fr h h1 t (t + 5)))) ?_ 1 0 h3 Lh3 hh3e hh3n hh3c (⟨⟨by omega, by omega⟩, (am_fr.rf.tr Fh3), Or.inl ⟨rfl, ⟨by omega, by omega, by omega⟩, by rw [show (800 - (0 : Int).toNat : Nat) = 800 from rfl]; unfold rM; rw [rB_r qh3], Ch3, ⟨_, g40, g41, g42, g43, g44⟩⟩⟩)
    intro g i hh L9 e9 v9 c9 hI6 ih5
    obtain ⟨⟨i0, i1⟩, hfr, hG⟩ := hI6
    have hg9 : g = 0 ∨ g = 1 := by rcases hG with q | q; exact Or.inr q.1; exact Or.inl q.1
    refine q_blk (lv2 := [(0, vr t), (1, vi 0), (2, vi g), (3, vi i)]) (st2 := [vi 800, vi i]) kX6_readTerm_8 rfl ?_
    refine AQ.ic_ge (tgt := 81) eX6_readTerm_12 (by decide) (by first | assumption | exact ⟨by omega, by omega⟩) ⟨by decide, by decide⟩ (fun br7 => ?_) (fun br7 => ?_)
    · skip
      refine q_blk (lv2 := [(0, vr t), (1, vi 0), (2, vi g), (3, vi i)]) (st2 := [vi g]) kX6_readTerm_81 rfl ?_
      exact q_rz rfl eX6_readTerm_82 (by omega) ⟨g, rfl, (by rcases hG with ⟨rfl, hb9, hJ9, hL9, hS9⟩ | hG; exact Or.inl ⟨rfl, L9, e9, hJ9.symm.trans (rJ_end (Or.inl (by omega))), hb9, _, _, hS9, hL9⟩; exact Or.inr hG), hfr⟩
    · skip
      refine q_blk (lv2 := [(0, vr t), (1, vi 0), (2, vi g), (3, vi i)]) (st2 := [vi g]) kX6_readTerm_15 rfl ?_
      refine AQ.if_eq (tgt := 81) eX6_readTerm_16 (by decide) (by first | assumption | exact ⟨by omega, by omega⟩) (fun br8 => ?_) (fun br8 => ?_)
      · skip
        refine q_blk (lv2 := [(0, vr t), (1, vi 0), (2, vi g), (3, vi i)]) (st2 := [vi g]) kX6_readTerm_81 rfl ?_
        exact q_rz rfl eX6_readTerm_82 (by omega) ⟨g, rfl, (by rcases hG with ⟨rfl, hb9, hJ9, hL9, hS9⟩ | hG; exact Or.inl ⟨rfl, L9, e9, hJ9.symm.trans (rJ_end (Or.inl (by omega))), hb9, _, _, hS9, hL9⟩; exact Or.inr hG), hfr⟩
      · skip
        obtain ⟨-, ⟨b9a, b9b, b9c⟩, hJ9, hL9, hS9⟩ := hG.resolve_right (fun q => absurd q.1 (by omega))
        obtain ⟨wt, w0, w1, w2, w3, w4⟩ := id hS9
        have kr9 := kr e9 (by omega) (by omega)
        have hen9 : kd e9 ≠ 0 → e9 ≠ n := fun q e => by rw [e] at q; omega
        refine q_blk (lv2 := [(0, vr t), (1, vi 0), (2, vi g), (3, vi i)]) (st2 := [vr t]) kX6_readTerm_19 rfl ?_
        refine q_Vi (av := []) (st := []) (c_X6_kindHere ⟨_, w0, w1, w2, w3, w4⟩ (by omega) (by omega)) lk_RX6_70 (by decide) rfl rfl ⟨_, _, _, w0⟩ ⟨_, rfl, rfl⟩ (Nat.le_of_ble_eq_true rfl) eX6_readTerm_20 (fun z9 e10 => ?_)
        subst e10
        refine q_blk (lv2 := [(0, vr t), (1, vi 0), (2, vi g), (3, vi i), (4, vi (kd e9))]) (st2 := [vi 42, vi (kd e9)]) kX6_readTerm_23 rfl ?_
        refine AQ.ic_eq (tgt := 41) eX6_readTerm_29 (by decide) (by first | assumption | exact ⟨by omega, by omega⟩) ⟨by decide, by decide⟩ (fun br11 => ?_) (fun br11 => ?_)
        · skip
          refine q_blk (lv2 := [(0, vr t), (1, vi 0), (2, vi g), (3, vi i), (4, vi (kd e9))]) (st2 := [vr t, vr t]) kX6_readTerm_41 rfl ?_
          refine q_gi eX6_readTerm_43 fl_RX6_28 (Or.inl rfl) w0 (z := e9) rfl ?_
          refine q_blk (lv2 := [(0, vr t), (1, vi 0), (2, vi g), (3, vi i), (4, vi (kd e9))]) (st2 := [vi (e9 + 1), vr t]) kX6_readTerm_46 rfl ?_
          refine q_pi eX6_readTerm_48 fl_RX6_28 (fun q hq => by cases hq; exact Or.inl rfl) (Or.inl rfl) w0 (Nat.le_of_ble_eq_true rfl) (l2 := [0, 0, 0, 0, 0, 0, 0, wt, (e9 + 1), v9, px, (L9.length : Int), hs, er, ea]) rfl (fun h12 e13 => ?_)
          have k14 := am_at e13
          have k15 := (am_ne e13 (t + 1) (by omega)).trans w1
          have k16 := (am_ne e13 (t + 2) (by omega)).trans w2
          have k17 := (am_ne e13 (t + 3) (by omega)).trans w3
          have k18 := (am_ne e13 (t + 4) (by omega)).trans w4
          refine q_blk (lv2 := [(0, vr t), (1, vi 0), (2, vi g), (3, vi i), (4, vi (kd e9))]) (st2 := [vi 0, vr t]) kX6_readTerm_51 rfl ?_
          refine AQ.callVi (av := [vi 0]) (st := []) (c_X6_readFactor0 (L := L9) ⟨_, k14, k15, k16, k17, k18⟩ n0 kn (by omega) (by omega) kr vq hL9 (by omega)) lk_RX6_233 (by decide) rfl rfl ⟨_, _, _, k14⟩ ⟨_, rfl, rfl⟩ (Nat.le_of_ble_eq_true rfl) eX6_readTerm_53 (fun z19 h21 e20 => ?_)
          rcases e20 with ⟨⟨rfl, Lh21, hh21e, qh21, ⟨bh21a, bh21b, bh21c⟩, hh21n, hh21c, Xh21, Ch21⟩ | ⟨rfl, eh21, ah21, qh21, Xh21⟩, Fh21⟩
          · skip
            obtain ⟨g22t, g220, g221, g222, g223, g224⟩ := id Xh21
            refine q_blk (lv2 := [(0, vr t), (1, vi 0), (2, vi 1), (3, vi i), (4, vi (kd e9))]) (st2 := [vi 42, vi (kd e9), vr t]) kX6_readTerm_56 rfl ?_
            refine AQ.ic_ne (tgt := 70) eX6_readTerm_62 (by decide) (by first | assumption | exact ⟨by omega, by omega⟩) ⟨by decide, by decide⟩ (fun br23 => ?_) (fun br23 => ?_)
            · skip
              refine q_blk (lv2 := [(0, vr t), (1, vi 0), (2, vi 1), (3, vi i), (4, vi (kd e9))]) (st2 := [vi (-9), vr t]) kX6_readTerm_70 rfl ?_
              refine AQ.callVv (av := [vi (-9)]) (st := []) (c_X6_addCode (v := (-9)) ⟨_, g220, g221, g222, g223, g224⟩ (by omega) (by omega)) lk_RX6_230 (by decide) rfl rfl ⟨_, _, _, g220⟩ ⟨_, rfl, rfl⟩ (Nat.le_of_ble_eq_true rfl) eX6_readTerm_72 (fun h26 e25 => ?_)
              obtain ⟨Xh26, Fh26⟩ := e25
              obtain ⟨g27t, g270, g271, g272, g273, g274⟩ := id Xh26
              refine q_blk (lv2 := [(0, vr t), (1, vi 0), (2, vi 1), (3, vi (i + 1)), (4, vi (kd e9))]) (st2 := []) kX6_readTerm_75 rfl ?_
              refine q_goto (tgt := 8) eX6_readTerm_78 (by decide) ?_
              refine q_sub (lv2 := [(0, vr t), (1, vi 0), (2, vi 1), (3, vi (i + 1))]) [0, 1, 2, 3] rfl ?_
              exact ih5 1 (i + 1) h26 (Lh21 ++ [(5, 0)]) hh21e hh21n (am_uI hh21c (Lh21.length : Int) (-9)) (⟨⟨by omega, by omega⟩, hfr.tr (((am_fr.rf.tr (am_fr.st e13 (by omega) (by omega))).tr Fh21).tr Fh26), Or.inl ⟨rfl, ⟨by omega, by omega, by simp; omega⟩, by rw [show 800 - (i + 1).toNat = 800 - i.toNat - 1 by omega]; exact (rJ_go (o := 5) (by omega) (by omega) qh21).symm.trans hJ9, Ch21.add (by unfold gm_en; simp), SU.cast ⟨_, g270, g271, g272, g273, g274⟩ (by simp)⟩⟩) (by omega)
            · skip
              refine q_blk (lv2 := [(0, vr t), (1, vi 0), (2, vi 1), (3, vi i), (4, vi (kd e9))]) (st2 := [vi (-8), vr t]) kX6_readTerm_65 rfl ?_
              refine q_goto (tgt := 72) eX6_readTerm_67 (by decide) ?_
              refine AQ.callVv (av := [vi (-8)]) (st := []) (c_X6_addCode (v := (-8)) ⟨_, g220, g221, g222, g223, g224⟩ (by omega) (by omega)) lk_RX6_230 (by decide) rfl rfl ⟨_, _, _, g220⟩ ⟨_, rfl, rfl⟩ (Nat.le_of_ble_eq_true rfl) eX6_readTerm_72 (fun h30 e29 => ?_)
              obtain ⟨Xh30, Fh30⟩ := e29
              obtain ⟨g31t, g310, g311, g312, g313, g314⟩ := id Xh30
              refine q_blk (lv2 := [(0, vr t), (1, vi 0), (2, vi 1), (3, vi (i + 1)), (4, vi (kd e9))]) (st2 := []) kX6_readTerm_75 rfl ?_
              refine q_goto (tgt := 8) eX6_readTerm_78 (by decide) ?_
              refine q_sub (lv2 := [(0, vr t), (1, vi 0), (2, vi 1), (3, vi (i + 1))]) [0, 1, 2, 3] rfl ?_
              exact ih5 1 (i + 1) h30 (Lh21 ++ [(4, 0)]) hh21e hh21n (am_uI hh21c (Lh21.length : Int) (-8)) (⟨⟨by omega, by omega⟩, hfr.tr (((am_fr.rf.tr (am_fr.st e13 (by omega) (by omega))).tr Fh21).tr Fh30), Or.inl ⟨rfl, ⟨by omega, by omega, by simp; omega⟩, by rw [show 800 - (i + 1).toNat = 800 - i.toNat - 1 by omega]; exact (rJ_go (o := 4) (by omega) (by omega) qh21).symm.trans hJ9, Ch21.add (by unfold gm_en; simp), SU.cast ⟨_, g310, g311, g312, g313, g314⟩ (by simp)⟩⟩) (by omega)
          · skip
            refine q_blk (lv2 := [(0, vr t), (1, vi 0), (2, vi 0), (3, vi i), (4, vi (kd e9))]) (st2 := [vi 42, vi (kd e9), vr t]) kX6_readTerm_56 rfl ?_
            refine AQ.ic_ne (tgt := 70) eX6_readTerm_62 (by decide) (by first | assumption | exact ⟨by omega, by omega⟩) ⟨by decide, by decide⟩ (fun br32 => ?_) (fun br32 => ?_)
            · skip
              refine q_blk (lv2 := [(0, vr t), (1, vi 0), (2, vi 0), (3, vi i), (4, vi (kd e9))]) (st2 := [vi (-9), vr t]) kX6_readTerm_70 rfl ?_
              refine AQ.callVv (av := [vi (-9)]) (st := []) (c_X6_addCodeF Xh21 (v := (-9))) lk_RX6_230 (by decide) rfl rfl (SF.ob Xh21) ⟨_, rfl, rfl⟩ (Nat.le_of_ble_eq_true rfl) eX6_readTerm_72 (fun h35 e34 => ?_)
              obtain ⟨Xh35, Fh35⟩ := e34
              refine q_blk (lv2 := [(0, vr t), (1, vi 0), (2, vi 0), (3, vi (i + 1)), (4, vi (kd e9))]) (st2 := []) kX6_readTerm_75 rfl ?_
              refine q_goto (tgt := 8) eX6_readTerm_78 (by decide) ?_
              refine q_sub (lv2 := [(0, vr t), (1, vi 0), (2, vi 0), (3, vi (i + 1))]) [0, 1, 2, 3] rfl ?_
              exact ih5 0 (i + 1) h35 L 0 0 cd (⟨⟨by omega, by omega⟩, hfr.tr (((am_fr.rf.tr (am_fr.st e13 (by omega) (by omega))).tr Fh21).tr Fh35), Or.inr ⟨rfl, _, _, hJ9.symm.trans (rJ_no (by omega) (by omega) qh21), Xh35⟩⟩) (by omega)
            · skip
              refine q_blk (lv2 := [(0, vr t), (1, vi 0), (2, vi 0), (3, vi i), (4, vi (kd e9))]) (st2 := [vi (-8), vr t]) kX6_readTerm_65 rfl ?_
              refine q_goto (tgt := 72) eX6_readTerm_67 (by decide) ?_
              refine AQ.callVv (av := [vi (-8)]) (st := []) (c_X6_addCodeF Xh21 (v := (-8))) lk_RX6_230 (by decide) rfl rfl (SF.ob Xh21) ⟨_, rfl, rfl⟩ (Nat.le_of_ble_eq_true rfl) eX6_readTerm_72 (fun h38 e37 => ?_)
              obtain ⟨Xh38, Fh38⟩ := e37
              refine q_blk (lv2 := [(0, vr t), (1, vi 0), (2, vi 0), (3, vi (i + 1)), (4, vi (kd e9))]) (st2 := []) kX6_readTerm_75 rfl ?_
              refine q_goto (tgt := 8) eX6_readTerm_78 (by decide) ?_
              refine q_sub (lv2 := [(0, vr t), (1, vi 0), (2, vi 0), (3, vi (i + 1))]) [0, 1, 2, 3] rfl ?_
              exact ih5 0 (i + 1) h38 L 0 0 cd (⟨⟨by omega, by omega⟩, hfr.tr (((am_fr.rf.tr (am_fr.st e13 (by omega) (by omega))).tr Fh21).tr Fh38), Or.inr ⟨rfl, _, _, hJ9.symm.trans (rJ_no (by omega) (by omega) qh21), Xh38⟩⟩) (by omega)
        · skip
          refine q_blk (lv2 := [(0, vr t), (1, vi 0), (2, vi g), (3, vi i), (4, vi (kd e9))]) (st2 := [vi 47, vi (kd e9)]) kX6_readTerm_32 rfl ?_
          refine AQ.ic_eq (tgt := 41) eX6_readTerm_36 (by decide) (by first | assumption | exact ⟨by omega, by omega⟩) ⟨by decide, by decide⟩ (fun br39 => ?_) (fun br39 => ?_)
          · skip
            refine q_blk (lv2 := [(0, vr t), (1, vi 0), (2, vi g), (3, vi i), (4, vi (kd e9))]) (st2 := [vr t, vr t]) kX6_readTerm_41 rfl ?_
            refine q_gi eX6_readTerm_43 fl_RX6_28 (Or.inl rfl) w0 (z := e9) rfl ?_
            refine q_blk (lv2 := [(0, vr t), (1, vi 0), (2, vi g), (3, vi i), (4, vi (kd e9))]) (st2 := [vi (e9 + 1), vr t]) kX6_readTerm_46 rfl ?_
            refine q_pi eX6_readTerm_48 fl_RX6_28 (fun q hq => by cases hq; exact Or.inl rfl) (Or.inl rfl) w0 (Nat.le_of_ble_eq_true rfl) (l2 := [0, 0, 0, 0, 0, 0, 0, wt, (e9 + 1), v9, px, (L9.length : Int), hs, er, ea]) rfl (fun h40 e41 => ?_)
            have k42 := am_at e41
            have k43 := (am_ne e41 (t + 1) (by omega)).trans w1
            have k44 := (am_ne e41 (t + 2) (by omega)).trans w2
            have k45 := (am_ne e41 (t + 3) (by omega)).trans w3
            have k46 := (am_ne e41 (t + 4) (by omega)).trans w4
            refine q_blk (lv2 := [(0, vr t), (1, vi 0), (2, vi g), (3, vi i), (4, vi (kd e9))]) (st2 := [vi 0, vr t]) kX6_readTerm_51 rfl ?_
            refine AQ.callVi (av := [vi 0]) (st := []) (c_X6_readFactor0 (L := L9) ⟨_, k42, k43, k44, k45, k46⟩ n0 kn (by omega) (by omega) kr vq hL9 (by omega)) lk_RX6_233 (by decide) rfl rfl ⟨_, _, _, k42⟩ ⟨_, rfl, rfl⟩ (Nat.le_of_ble_eq_true rfl) eX6_readTerm_53 (fun z47 h49 e48 => ?_)
            rcases e48 with ⟨⟨rfl, Lh49, hh49e, qh49, ⟨bh49a, bh49b, bh49c⟩, hh49n, hh49c, Xh49, Ch49⟩ | ⟨rfl, eh49, ah49, qh49, Xh49⟩, Fh49⟩
            · skip
              obtain ⟨g50t, g500, g501, g502, g503, g504⟩ := id Xh49
              refine q_blk (lv2 := [(0, vr t), (1, vi 0), (2, vi 1), (3, vi i), (4, vi (kd e9))]) (st2 := [vi 42, vi (kd e9), vr t]) kX6_readTerm_56 rfl ?_
              refine AQ.ic_ne (tgt := 70) eX6_readTerm_62 (by decide) (by first | assumption | exact ⟨by omega, by omega⟩) ⟨by decide, by decide⟩ (fun br51 => ?_) (fun br51 => ?_)
              · skip
                refine q_blk (lv2 := [(0, vr t), (1, vi 0), (2, vi 1), (3, vi i), (4, vi (kd e9))]) (st2 := [vi (-9), vr t]) kX6_readTerm_70 rfl ?_
                refine AQ.callVv (av := [vi (-9)]) (st := []) (c_X6_addCode (v := (-9)) ⟨_, g500, g501, g502, g503, g504⟩ (by omega) (by omega)) lk_RX6_230 (by decide) rfl rfl ⟨_, _, _, g500⟩ ⟨_, rfl, rfl⟩ (Nat.le_of_ble_eq_true rfl) eX6_readTerm_72 (fun h54 e53 => ?_)
                obtain ⟨Xh54, Fh54⟩ := e53
                obtain ⟨g55t, g550, g551, g552, g553, g554⟩ := id Xh54
                refine q_blk (lv2 := [(0, vr t), (1, vi 0), (2, vi 1), (3, vi (i + 1)), (4, vi (kd e9))]) (st2 := []) kX6_readTerm_75 rfl ?_
                refine q_goto (tgt := 8) eX6_readTerm_78 (by decide) ?_
                refine q_sub (lv2 := [(0, vr t), (1, vi 0), (2, vi 1), (3, vi (i + 1))]) [0, 1, 2, 3] rfl ?_
                exact ih5 1 (i + 1) h54 (Lh49 ++ [(5, 0)]) hh49e hh49n (am_uI hh49c (Lh49.length : Int) (-9)) (⟨⟨by omega, by omega⟩, hfr.tr (((am_fr.rf.tr (am_fr.st e41 (by omega) (by omega))).tr Fh49).tr Fh54), Or.inl ⟨rfl, ⟨by omega, by omega, by simp; omega⟩, by rw [show 800 - (i + 1).toNat = 800 - i.toNat - 1 by omega]; exact (rJ_go (o := 5) (by omega) (by omega) qh49).symm.trans hJ9, Ch49.add (by unfold gm_en; simp), SU.cast ⟨_, g550, g551, g552, g553, g554⟩ (by simp)⟩⟩) (by omega)
              · skip
                refine q_blk (lv2 := [(0, vr t), (1, vi 0), (2, vi 1), (3, vi i), (4, vi (kd e9))]) (st2 := [vi (-8), vr t]) kX6_readTerm_65 rfl ?_
                refine q_goto (tgt := 72) eX6_readTerm_67 (by decide) ?_
                refine AQ.callVv (av := [vi (-8)]) (st := []) (c_X6_addCode (v := (-8)) ⟨_, g500, g501, g502, g503, g504⟩ (by omega) (by omega)) lk_RX6_230 (by decide) rfl rfl ⟨_, _, _, g500⟩ ⟨_, rfl, rfl⟩ (Nat.le_of_ble_eq_true rfl) eX6_readTerm_72 (fun h58 e57 => ?_)
                obtain ⟨Xh58, Fh58⟩ := e57
                obtain ⟨g59t, g590, g591, g592, g593, g594⟩ := id Xh58
                refine q_blk (lv2 := [(0, vr t), (1, vi 0), (2, vi 1), (3, vi (i + 1)), (4, vi (kd e9))]) (st2 := []) kX6_readTerm_75 rfl ?_
                refine q_goto (tgt := 8) eX6_readTerm_78 (by decide) ?_
                refine q_sub (lv2 := [(0, vr t), (1, vi 0), (2, vi 1), (3, vi (i + 1))]) [0, 1, 2, 3] rfl ?_
                exact ih5 1 (i + 1) h58 (Lh49 ++ [(4, 0)]) hh49e hh49n (am_uI hh49c (Lh49.length : Int) (-8)) (⟨⟨by omega, by omega⟩, hfr.tr (((am_fr.rf.tr (am_fr.st e41 (by omega) (by omega))).tr Fh49).tr Fh58), Or.inl ⟨rfl, ⟨by omega, by omega, by simp; omega⟩, by rw [show 800 - (i + 1).toNat = 800 - i.toNat - 1 by omega]; exact (rJ_go (o := 4) (by omega) (by omega) qh49).symm.trans hJ9, Ch49.add (by unfold gm_en; simp), SU.cast ⟨_, g590, g591, g592, g593, g594⟩ (by simp)⟩⟩) (by omega)
            · skip
              refine q_blk (lv2 := [(0, vr t), (1, vi 0), (2, vi 0), (3, vi i), (4, vi (kd e9))]) (st2 := [vi 42, vi (kd e9), vr t]) kX6_readTerm_56 rfl ?_
              refine AQ.ic_ne (tgt := 70) eX6_readTerm_62 (by decide) (by first | assumption | exact ⟨by omega, by omega⟩) ⟨by decide, by decide⟩ (fun br60 => ?_) (fun br60 => ?_)
              · skip
                refine q_blk (lv2 := [(0, vr t), (1, vi 0), (2, vi 0), (3, vi i), (4, vi (kd e9))]) (st2 := [vi (-9), vr t]) kX6_readTerm_70 rfl ?_
                refine AQ.callVv (av := [vi (-9)]) (st := []) (c_X6_addCodeF Xh49 (v := (-9))) lk_RX6_230 (by decide) rfl rfl (SF.ob Xh49) ⟨_, rfl, rfl⟩ (Nat.le_of_ble_eq_true rfl) eX6_readTerm_72 (fun h63 e62 => ?_)
                obtain ⟨Xh63, Fh63⟩ := e62
                refine q_blk (lv2 := [(0, vr t), (1, vi 0), (2, vi 0), (3, vi (i + 1)), (4, vi (kd e9))]) (st2 := []) kX6_readTerm_75 rfl ?_
                refine q_goto (tgt := 8) eX6_readTerm_78 (by decide) ?_
                refine q_sub (lv2 := [(0, vr t), (1, vi 0), (2, vi 0), (3, vi (i + 1))]) [0, 1, 2, 3] rfl ?_
                exact ih5 0 (i + 1) h63 L 0 0 cd (⟨⟨by omega, by omega⟩, hfr.tr (((am_fr.rf.tr (am_fr.st e41 (by omega) (by omega))).tr Fh49).tr Fh63), Or.inr ⟨rfl, _, _, hJ9.symm.trans (rJ_no (by omega) (by omega) qh49), Xh63⟩⟩) (by omega)
              · skip
                refine q_blk (lv2 := [(0, vr t), (1, vi 0), (2, vi 0), (3, vi i), (4, vi (kd e9))]) (st2 := [vi (-8), vr t]) kX6_readTerm_65 rfl ?_
                refine q_goto (tgt := 72) eX6_readTerm_67 (by decide) ?_
                refine AQ.callVv (av := [vi (-8)]) (st := []) (c_X6_addCodeF Xh49 (v := (-8))) lk_RX6_230 (by decide) rfl rfl (SF.ob Xh49) ⟨_, rfl, rfl⟩ (Nat.le_of_ble_eq_true rfl) eX6_readTerm_72 (fun h66 e65 => ?_)
                obtain ⟨Xh66, Fh66⟩ := e65
                refine q_blk (lv2 := [(0, vr t), (1, vi 0), (2, vi 0), (3, vi (i + 1)), (4, vi (kd e9))]) (st2 := []) kX6_readTerm_75 rfl ?_
                refine q_goto (tgt := 8) eX6_readTerm_78 (by decide) ?_
                refine q_sub (lv2 := [(0, vr t), (1, vi 0), (2, vi 0), (3, vi (i + 1))]) [0, 1, 2, 3] rfl ?_
                exact ih5 0 (i + 1) h66 L 0 0 cd (⟨⟨by omega, by omega⟩, hfr.tr (((am_fr.rf.tr (am_fr.st e41 (by omega) (by omega))).tr Fh49).tr Fh66), Or.inr ⟨rfl, _, _, hJ9.symm.trans (rJ_no (by omega) (by omega) qh49), Xh66⟩⟩) (by omega)
          · skip
            refine q_blk (lv2 := [(0, vr t), (1, vi 0), (2, vi g), (3, vi i), (4, vi (kd e9))]) (st2 := [vi 1]) kX6_readTerm_39 rfl ?_
            exact q_rz rfl eX6_readTerm_40 (by decide) ⟨1, rfl, Or.inl ⟨rfl, L9, e9, hJ9.symm.trans (rJ_end (Or.inr ⟨by omega, by omega⟩)), ⟨by omega, by omega, by omega⟩, _, _, ⟨_, w0, w1, w2, w3, w4⟩, hL9⟩, hfr.tr am_fr.rf⟩
  · skip
    refine q_blk (lv2 := [(0, vr t), (1, vi 0), (2, vi 0), (3, vi 0)]) (st2 := []) kX6_readTerm_5 rfl ?_
    refine am_lp7 (I := fun (g : Int) (i : Int) (hh : AH) (L9 : GL) (e9 : Int) (v9 : Int) (c9 : Int → Int) => (0 ≤ i ∧ i ≤ 800) ∧ am_fr h hh t (t + 5) ∧ ((g = 1 ∧ (he < e9 ∧ e9 ≤ n ∧ (L9.length : Int) ≤ (L.length : Int) + (e9 - he)) ∧ rJ kd (rA kd st vl (some (rU kd st vl 3))) 42 47 4 5 (800 - i.toNat) L9 e9 = rM kd st vl (some (rU kd st vl 3)) L he ∧ CL c9 L9 ∧ SU hh t u b j kd st vl e9 v9 px (L9.length : Int) hs er ea c9) ∨ (g = 0 ∧ ∃ e a, rM kd st vl (some (rU kd st vl 3)) L he = .inl (e, a) ∧ SF hh t u b j kd st vl e a))) (μ := fun (g : Int) (i : Int) (hh : AH) (L9 : GL) (e9 : Int) (v9 : Int) (c9 : Int → Int) => (800 - i).toNat) (G := fun (g : Int) (i : Int) (hh : AH) (L9 : GL) (e9 : Int) (v9 : Int) (c9 : Int → Int) => AQ w m_X6_readTerm 17 8 [(0, vr t), (1, vi 0), (2, vi g), (3, vi i)] [] hh (am_int (fun z h1 => ((z = 1 ∧ ∃ L' he', rM kd st vl (some (rU kd st vl 3)) L he = .inr (L', he') ∧ (he < he' ∧ he' ≤ n ∧ (L'.length : Int) ≤ (L.length : Int) + (he' - he)) ∧ ∃ nu' cd', SU h1 t u b j kd st vl he' nu' px (L'.length : Int) hs er ea cd' ∧ CL cd' L') ∨ (z = 0 ∧ ∃ e a, rM kd st vl (some (rU kd st vl 3)) L he = .inl (e, a) ∧ SF h1 t u b j kd st vl e a)) ∧ am_fr h h1 t (t + 5)))) ?_ 0 0 h3 L 0 0 cd (⟨⟨by omega, by omega⟩, (am_fr.rf.tr Fh3), Or.inr ⟨rfl, _, _, by unfold rM; exact rB_l qh3 _, Xh3⟩⟩)
    intro g i hh L9 e9 v9 c9 hI68 ih67
    obtain ⟨⟨i0, i1⟩, hfr, hG⟩ := hI68
    have hg9 : g = 0 ∨ g = 1 := by rcases hG with q | q; exact Or.inr q.1; exact Or.inl q.1
    refine q_blk (lv2 := [(0, vr t), (1, vi 0), (2, vi g), (3, vi i)]) (st2 := [vi 800, vi i]) kX6_readTerm_8 rfl ?_
    refine AQ.ic_ge (tgt := 81) eX6_readTerm_12 (by decide) (by first | assumption | exact ⟨by omega, by omega⟩) ⟨by decide, by decide⟩ (fun br69 => ?_) (fun br69 => ?_)
    · skip
      refine q_blk (lv2 := [(0, vr t), (1, vi 0), (2, vi g), (3, vi i)]) (st2 := [vi g]) kX6_readTerm_81 rfl ?_
      exact q_rz rfl eX6_readTerm_82 (by omega) ⟨g, rfl, (by rcases hG with ⟨rfl, hb9, hJ9, hL9, hS9⟩ | hG; exact Or.inl ⟨rfl, L9, e9, hJ9.symm.trans (rJ_end (Or.inl (by omega))), hb9, _, _, hS9, hL9⟩; exact Or.inr hG), hfr⟩
    · skip
      refine q_blk (lv2 := [(0, vr t), (1, vi 0), (2, vi g), (3, vi i)]) (st2 := [vi g]) kX6_readTerm_15 rfl ?_
      refine AQ.if_eq (tgt := 81) eX6_readTerm_16 (by decide) (by first | assumption | exact ⟨by omega, by omega⟩) (fun br70 => ?_) (fun br70 => ?_)
      · skip
        refine q_blk (lv2 := [(0, vr t), (1, vi 0), (2, vi g), (3, vi i)]) (st2 := [vi g]) kX6_readTerm_81 rfl ?_
        exact q_rz rfl eX6_readTerm_82 (by omega) ⟨g, rfl, (by rcases hG with ⟨rfl, hb9, hJ9, hL9, hS9⟩ | hG; exact Or.inl ⟨rfl, L9, e9, hJ9.symm.trans (rJ_end (Or.inl (by omega))), hb9, _, _, hS9, hL9⟩; exact Or.inr hG), hfr⟩
      · skip
        obtain ⟨-, ⟨b9a, b9b, b9c⟩, hJ9, hL9, hS9⟩ := hG.resolve_right (fun q => absurd q.1 (by omega))
        obtain ⟨wt, w0, w1, w2, w3, w4⟩ := id hS9
        have kr9 := kr e9 (by omega) (by omega)
        have hen9 : kd e9 ≠ 0 → e9 ≠ n := fun q e => by rw [e] at q; omega
        refine q_blk (lv2 := [(0, vr t), (1, vi 0), (2, vi g), (3, vi i)]) (st2 := [vr t]) kX6_readTerm_19 rfl ?_
        refine q_Vi (av := []) (st := []) (c_X6_kindHere ⟨_, w0, w1, w2, w3, w4⟩ (by omega) (by omega)) lk_RX6_70 (by decide) rfl rfl ⟨_, _, _, w0⟩ ⟨_, rfl, rfl⟩ (Nat.le_of_ble_eq_true rfl) eX6_readTerm_20 (fun z71 e72 => ?_)
        subst e72
        refine q_blk (lv2 := [(0, vr t), (1, vi 0), (2, vi g), (3, vi i), (4, vi (kd e9))]) (st2 := [vi 42, vi (kd e9)]) kX6_readTerm_23 rfl ?_
        refine AQ.ic_eq (tgt := 41) eX6_readTerm_29 (by decide) (by first | assumption | exact ⟨by omega, by omega⟩) ⟨by decide, by decide⟩ (fun br73 => ?_) (fun br73 => ?_)
        · skip
          refine q_blk (lv2 := [(0, vr t), (1, vi 0), (2, vi g), (3, vi i), (4, vi (kd e9))]) (st2 := [vr t, vr t]) kX6_readTerm_41 rfl ?_
          refine q_gi eX6_readTerm_43 fl_RX6_28 (Or.inl rfl) w0 (z := e9) rfl ?_
          refine q_blk (lv2 := [(0, vr t), (1, vi 0), (2, vi g), (3, vi i), (4, vi (kd e9))]) (st2 := [vi (e9 + 1), vr t]) kX6_readTerm_46 rfl ?_
          refine q_pi eX6_readTerm_48 fl_RX6_28 (fun q hq => by cases hq; exact Or.inl rfl) (Or.inl rfl) w0 (Nat.le_of_ble_eq_true rfl) (l2 := [0, 0, 0, 0, 0, 0, 0, wt, (e9 + 1), v9, px, (L9.length : Int), hs, er, ea]) rfl (fun h74 e75 => ?_)
          have k76 := am_at e75
          have k77 := (am_ne e75 (t + 1) (by omega)).trans w1
          have k78 := (am_ne e75 (t + 2) (by omega)).trans w2
          have k79 := (am_ne e75 (t + 3) (by omega)).trans w3
          have k80 := (am_ne e75 (t + 4) (by omega)).trans w4
          refine q_blk (lv2 := [(0, vr t), (1, vi 0), (2, vi g), (3, vi i), (4, vi (kd e9))]) (st2 := [vi 0, vr t]) kX6_readTerm_51 rfl ?_
          refine AQ.callVi (av := [vi 0]) (st := []) (c_X6_readFactor0 (L := L9) ⟨_, k76, k77, k78, k79, k80⟩ n0 kn (by omega) (by omega) kr vq hL9 (by omega)) lk_RX6_233 (by decide) rfl rfl ⟨_, _, _, k76⟩ ⟨_, rfl, rfl⟩ (Nat.le_of_ble_eq_true rfl) eX6_readTerm_53 (fun z81 h83 e82 => ?_)
          rcases e82 with ⟨⟨rfl, Lh83, hh83e, qh83, ⟨bh83a, bh83b, bh83c⟩, hh83n, hh83c, Xh83, Ch83⟩ | ⟨rfl, eh83, ah83, qh83, Xh83⟩, Fh83⟩
          · skip
            obtain ⟨g84t, g840, g841, g842, g843, g844⟩ := id Xh83
            refine q_blk (lv2 := [(0, vr t), (1, vi 0), (2, vi 1), (3, vi i), (4, vi (kd e9))]) (st2 := [vi 42, vi (kd e9), vr t]) kX6_readTerm_56 rfl ?_
            refine AQ.ic_ne (tgt := 70) eX6_readTerm_62 (by decide) (by first | assumption | exact ⟨by omega, by omega⟩) ⟨by decide, by decide⟩ (fun br85 => ?_) (fun br85 => ?_)
            · skip
              refine q_blk (lv2 := [(0, vr t), (1, vi 0), (2, vi 1), (3, vi i), (4, vi (kd e9))]) (st2 := [vi (-9), vr t]) kX6_readTerm_70 rfl ?_
              refine AQ.callVv (av := [vi (-9)]) (st := []) (c_X6_addCode (v := (-9)) ⟨_, g840, g841, g842, g843, g844⟩ (by omega) (by omega)) lk_RX6_230 (by decide) rfl rfl ⟨_, _, _, g840⟩ ⟨_, rfl, rfl⟩ (Nat.le_of_ble_eq_true rfl) eX6_readTerm_72 (fun h88 e87 => ?_)
              obtain ⟨Xh88, Fh88⟩ := e87
              obtain ⟨g89t, g890, g891, g892, g893, g894⟩ := id Xh88
              refine q_blk (lv2 := [(0, vr t), (1, vi 0), (2, vi 1), (3, vi (i + 1)), (4, vi (kd e9))]) (st2 := []) kX6_readTerm_75 rfl ?_
              refine q_goto (tgt := 8) eX6_readTerm_78 (by decide) ?_
              refine q_sub (lv2 := [(0, vr t), (1, vi 0), (2, vi 1), (3, vi (i + 1))]) [0, 1, 2, 3] rfl ?_
              exact ih67 1 (i + 1) h88 (Lh83 ++ [(5, 0)]) hh83e hh83n (am_uI hh83c (Lh83.length : Int) (-9)) (⟨⟨by omega, by omega⟩, hfr.tr (((am_fr.rf.tr (am_fr.st e75 (by omega) (by omega))).tr Fh83).tr Fh88), Or.inl ⟨rfl, ⟨by omega, by omega, by simp; omega⟩, by rw [show 800 - (i + 1).toNat = 800 - i.toNat - 1 by omega]; exact (rJ_go (o := 5) (by omega) (by omega) qh83).symm.trans hJ9, Ch83.add (by unfold gm_en; simp), SU.cast ⟨_, g890, g891, g892, g893, g894⟩ (by simp)⟩⟩) (by omega)
            · skip
              refine q_blk (lv2 := [(0, vr t), (1, vi 0), (2, vi 1), (3, vi i), (4, vi (kd e9))]) (st2 := [vi (-8), vr t]) kX6_readTerm_65 rfl ?_
              refine q_goto (tgt := 72) eX6_readTerm_67 (by decide) ?_
              refine AQ.callVv (av := [vi (-8)]) (st := []) (c_X6_addCode (v := (-8)) ⟨_, g840, g841, g842, g843, g844⟩ (by omega) (by omega)) lk_RX6_230 (by decide) rfl rfl ⟨_, _, _, g840⟩ ⟨_, rfl, rfl⟩ (Nat.le_of_ble_eq_true rfl) eX6_readTerm_72 (fun h92 e91 => ?_)
              obtain ⟨Xh92, Fh92⟩ := e91
              obtain ⟨g93t, g930, g931, g932, g933, g934⟩ := id Xh92
              refine q_blk (lv2 := [(0, vr t), (1, vi 0), (2, vi 1), (3, vi (i + 1)), (4, vi (kd e9))]) (st2 := []) kX6_readTerm_75 rfl ?_
              refine q_goto (tgt := 8) eX6_readTerm_78 (by decide) ?_
              refine q_sub (lv2 := [(0, vr t), (1, vi 0), (2, vi 1), (3, vi (i + 1))]) [0, 1, 2, 3] rfl ?_
              exact ih67 1 (i + 1) h92 (Lh83 ++ [(4, 0)]) hh83e hh83n (am_uI hh83c (Lh83.length : Int) (-8)) (⟨⟨by omega, by omega⟩, hfr.tr (((am_fr.rf.tr (am_fr.st e75 (by omega) (by omega))).tr Fh83).tr Fh92), Or.inl ⟨rfl, ⟨by omega, by omega, by simp; omega⟩, by rw [show 800 - (i + 1).toNat = 800 - i.toNat - 1 by omega]; exact (rJ_go (o := 4) (by omega) (by omega) qh83).symm.trans hJ9, Ch83.add (by unfold gm_en; simp), SU.cast ⟨_, g930, g931, g932, g933, g934⟩ (by simp)⟩⟩) (by omega)
          · skip
            refine q_blk (lv2 := [(0, vr t), (1, vi 0), (2, vi 0), (3, vi i), (4, vi (kd e9))]) (st2 := [vi 42, vi (kd e9), vr t]) kX6_readTerm_56 rfl ?_
            refine AQ.ic_ne (tgt := 70) eX6_readTerm_62 (by decide) (by first | assumption | exact ⟨by omega, by omega⟩) ⟨by decide, by decide⟩ (fun br94 => ?_) (fun br94 => ?_)
            · skip
              refine q_blk (lv2 := [(0, vr t), (1, vi 0), (2, vi 0), (3, vi i), (4, vi (kd e9))]) (st2 := [vi (-9), vr t]) kX6_readTerm_70 rfl ?_
              refine AQ.callVv (av := [vi (-9)]) (st := []) (c_X6_addCodeF Xh83 (v := (-9))) lk_RX6_230 (by decide) rfl rfl (SF.ob Xh83) ⟨_, rfl, rfl⟩ (Nat.le_of_ble_eq_true rfl) eX6_readTerm_72 (fun h97 e96 => ?_)
              obtain ⟨Xh97, Fh97⟩ := e96
              refine q_blk (lv2 := [(0, vr t), (1, vi 0), (2, vi 0), (3, vi (i + 1)), (4, vi (kd e9))]) (st2 := []) kX6_readTerm_75 rfl ?_
              refine q_goto (tgt := 8) eX6_readTerm_78 (by decide) ?_
              refine q_sub (lv2 := [(0, vr t), (1, vi 0), (2, vi 0), (3, vi (i + 1))]) [0, 1, 2, 3] rfl ?_
              exact ih67 0 (i + 1) h97 L 0 0 cd (⟨⟨by omega, by omega⟩, hfr.tr (((am_fr.rf.tr (am_fr.st e75 (by omega) (by omega))).tr Fh83).tr Fh97), Or.inr ⟨rfl, _, _, hJ9.symm.trans (rJ_no (by omega) (by omega) qh83), Xh97⟩⟩) (by omega)
            · skip
              refine q_blk (lv2 := [(0, vr t), (1, vi 0), (2, vi 0), (3, vi i), (4, vi (kd e9))]) (st2 := [vi (-8), vr t]) kX6_readTerm_65 rfl ?_
              refine q_goto (tgt := 72) eX6_readTerm_67 (by decide) ?_
              refine AQ.callVv (av := [vi (-8)]) (st := []) (c_X6_addCodeF Xh83 (v := (-8))) lk_RX6_230 (by decide) rfl rfl (SF.ob Xh83) ⟨_, rfl, rfl⟩ (Nat.le_of_ble_eq_true rfl) eX6_readTerm_72 (fun h100 e99 => ?_)
              obtain ⟨Xh100, Fh100⟩ := e99
              refine q_blk (lv2 := [(0, vr t), (1, vi 0), (2, vi 0), (3, vi (i + 1)), (4, vi (kd e9))]) (st2 := []) kX6_readTerm_75 rfl ?_
              refine q_goto (tgt := 8) eX6_readTerm_78 (by decide) ?_
              refine q_sub (lv2 := [(0, vr t), (1, vi 0), (2, vi 0), (3, vi (i + 1))]) [0, 1, 2, 3] rfl ?_
              exact ih67 0 (i + 1) h100 L 0 0 cd (⟨⟨by omega, by omega⟩, hfr.tr (((am_fr.rf.tr (am_fr.st e75 (by omega) (by omega))).tr Fh83).tr Fh100), Or.inr ⟨rfl, _, _, hJ9.symm.trans (rJ_no (by omega) (by omega) qh83), Xh100⟩⟩) (by omega)
        · skip
          refine q_blk (lv2 := [(0, vr t), (1, vi 0), (2, vi g), (3, vi i), (4, vi (kd e9))]) (st2 := [vi 47, vi (kd e9)]) kX6_readTerm_32 rfl ?_
          refine AQ.ic_eq (tgt := 41) eX6_readTerm_36 (by decide) (by first | assumption | exact ⟨by omega, by omega⟩) ⟨by decide, by decide⟩ (fun br101 => ?_) (fun br101 => ?_)
          · skip
            refine q_blk (lv2 := [(0, vr t), (1, vi 0), (2, vi g), (3, vi i), (4, vi (kd e9))]) (st2 := [vr t, vr t]) kX6_readTerm_41 rfl ?_
            refine q_gi eX6_readTerm_43 fl_RX6_28 (Or.inl rfl) w0 (z := e9) rfl ?_
            refine q_blk (lv2 := [(0, vr t), (1, vi 0), (2, vi g), (3, vi i), (4, vi (kd e9))]) (st2 := [vi (e9 + 1), vr t]) kX6_readTerm_46 rfl ?_
            refine q_pi eX6_readTerm_48 fl_RX6_28 (fun q hq => by cases hq; exact Or.inl rfl) (Or.inl rfl) w0 (Nat.le_of_ble_eq_true rfl) (l2 := [0, 0, 0, 0, 0, 0, 0, wt, (e9 + 1), v9, px, (L9.length : Int), hs, er, ea]) rfl (fun h102 e103 => ?_)
            have k104 := am_at e103
            have k105 := (am_ne e103 (t + 1) (by omega)).trans w1
            have k106 := (am_ne e103 (t + 2) (by omega)).trans w2
            have k107 := (am_ne e103 (t + 3) (by omega)).trans w3
            have k108 := (am_ne e103 (t + 4) (by omega)).trans w4
            refine q_blk (lv2 := [(0, vr t), (1, vi 0), (2, vi g), (3, vi i), (4, vi (kd e9))]) (st2 := [vi 0, vr t]) kX6_readTerm_51 rfl ?_
            refine AQ.callVi (av := [vi 0]) (st := []) (c_X6_readFactor0 (L := L9) ⟨_, k104, k105, k106, k107, k108⟩ n0 kn (by omega) (by omega) kr vq hL9 (by omega)) lk_RX6_233 (by decide) rfl rfl ⟨_, _, _, k104⟩ ⟨_, rfl, rfl⟩ (Nat.le_of_ble_eq_true rfl) eX6_readTerm_53 (fun z109 h111 e110 => ?_)
            rcases e110 with ⟨⟨rfl, Lh111, hh111e, qh111, ⟨bh111a, bh111b, bh111c⟩, hh111n, hh111c, Xh111, Ch111⟩ | ⟨rfl, eh111, ah111, qh111, Xh111⟩, Fh111⟩
            · skip
              obtain ⟨g112t, g1120, g1121, g1122, g1123, g1124⟩ := id Xh111
              refine q_blk (lv2 := [(0, vr t), (1, vi 0), (2, vi 1), (3, vi i), (4, vi (kd e9))]) (st2 := [vi 42, vi (kd e9), vr t]) kX6_readTerm_56 rfl ?_
              refine AQ.ic_ne (tgt := 70) eX6_readTerm_62 (by decide) (by first | assumption | exact ⟨by omega, by omega⟩) ⟨by decide, by decide⟩ (fun br113 => ?_) (fun br113 => ?_)
              · skip
                refine q_blk (lv2 := [(0, vr t), (1, vi 0), (2, vi 1), (3, vi i), (4, vi (kd e9))]) (st2 := [vi (-9), vr t]) kX6_readTerm_70 rfl ?_
                refine AQ.callVv (av := [vi (-9)]) (st := []) (c_X6_addCode (v := (-9)) ⟨_, g1120, g1121, g1122, g1123, g1124⟩ (by omega) (by omega)) lk_RX6_230 (by decide) rfl rfl ⟨_, _, _, g1120⟩ ⟨_, rfl, rfl⟩ (Nat.le_of_ble_eq_true rfl) eX6_readTerm_72 (fun h116 e115 => ?_)
                obtain ⟨Xh116, Fh116⟩ := e115
                obtain ⟨g117t, g1170, g1171, g1172, g1173, g1174⟩ := id Xh116
                refine q_blk (lv2 := [(0, vr t), (1, vi 0), (2, vi 1), (3, vi (i + 1)), (4, vi (kd e9))]) (st2 := []) kX6_readTerm_75 rfl ?_
                refine q_goto (tgt := 8) eX6_readTerm_78 (by decide) ?_
                refine q_sub (lv2 := [(0, vr t), (1, vi 0), (2, vi 1), (3, vi (i + 1))]) [0, 1, 2, 3] rfl ?_
                exact ih67 1 (i + 1) h116 (Lh111 ++ [(5, 0)]) hh111e hh111n (am_uI hh111c (Lh111.length : Int) (-9)) (⟨⟨by omega, by omega⟩, hfr.tr (((am_fr.rf.tr (am_fr.st e103 (by omega) (by omega))).tr Fh111).tr Fh116), Or.inl ⟨rfl, ⟨by omega, by omega, by simp; omega⟩, by rw [show 800 - (i + 1).toNat = 800 - i.toNat - 1 by omega]; exact (rJ_go (o := 5) (by omega) (by omega) qh111).symm.trans hJ9, Ch111.add (by unfold gm_en; simp), SU.cast ⟨_, g1170, g1171, g1172, g1173, g1174⟩ (by simp)⟩⟩) (by omega)
              · skip
                refine q_blk (lv2 := [(0, vr t), (1, vi 0), (2, vi 1), (3, vi i), (4, vi (kd e9))]) (st2 := [vi (-8), vr t]) kX6_readTerm_65 rfl ?_
                refine q_goto (tgt := 72) eX6_readTerm_67 (by decide) ?_
                refine AQ.callVv (av := [vi (-8)]) (st := []) (c_X6_addCode (v := (-8)) ⟨_, g1120, g1121, g1122, g1123, g1124⟩ (by omega) (by omega)) lk_RX6_230 (by decide) rfl rfl ⟨_, _, _, g1120⟩ ⟨_, rfl, rfl⟩ (Nat.le_of_ble_eq_true rfl) eX6_readTerm_72 (fun h120 e119 => ?_)
                obtain ⟨Xh120, Fh120⟩ := e119
                obtain ⟨g121t, g1210, g1211, g1212, g1213, g1214⟩ := id Xh120
                refine q_blk (lv2 := [(0, vr t), (1, vi 0), (2, vi 1), (3, vi (i + 1)), (4, vi (kd e9))]) (st2 := []) kX6_readTerm_75 rfl ?_
                refine q_goto (tgt := 8) eX6_readTerm_78 (by decide) ?_
                refine q_sub (lv2 := [(0, vr t), (1, vi 0), (2, vi 1), (3, vi (i + 1))]) [0, 1, 2, 3] rfl ?_
                exact ih67 1 (i + 1) h120 (Lh111 ++ [(4, 0)]) hh111e hh111n (am_uI hh111c (Lh111.length : Int) (-8)) (⟨⟨by omega, by omega⟩, hfr.tr (((am_fr.rf.tr (am_fr.st e103 (by omega) (by omega))).tr Fh111).tr Fh120), Or.inl ⟨rfl, ⟨by omega, by omega, by simp; omega⟩, by rw [show 800 - (i + 1).toNat = 800 - i.toNat - 1 by omega]; exact (rJ_go (o := 4) (by omega) (by omega) qh111).symm.trans hJ9, Ch111.add (by unfold gm_en; simp), SU.cast ⟨_, g1210, g1211, g1212, g1213, g1214⟩ (by simp)⟩⟩) (by omega)
            · skip
              refine q_blk (lv2 := [(0, vr t), (1, vi 0), (2, vi 0), (3, vi i), (4, vi (kd e9))]) (st2 := [vi 42, vi (kd e9), vr t]) kX6_readTerm_56 rfl ?_
              refine AQ.ic_ne (tgt := 70) eX6_readTerm_62 (by decide) (by first | assumption | exact ⟨by omega, by omega⟩) ⟨by decide, by decide⟩ (fun br122 => ?_) (fun br122 => ?_)
              · skip
                refine q_blk (lv2 := [(0, vr t), (1, vi 0), (2, vi 0), (3, vi i), (4, vi (kd e9))]) (st2 := [vi (-9), vr t]) kX6_readTerm_70 rfl ?_
                refine AQ.callVv (av := [vi (-9)]) (st := []) (c_X6_addCodeF Xh111 (v := (-9))) lk_RX6_230 (by decide) rfl rfl (SF.ob Xh111) ⟨_, rfl, rfl⟩ (Nat.le_of_ble_eq_true rfl) eX6_readTerm_72 (fun h125 e124 => ?_)
                obtain ⟨Xh125, Fh125⟩ := e124
                refine q_blk (lv2 := [(0, vr t), (1, vi 0), (2, vi 0), (3, vi (i + 1)), (4, vi (kd e9))]) (st2 := []) kX6_readTerm_75 rfl ?_
                refine q_goto (tgt := 8) eX6_readTerm_78 (by decide) ?_
                refine q_sub (lv2 := [(0, vr t), (1, vi 0), (2, vi 0), (3, vi (i + 1))]) [0, 1, 2, 3] rfl ?_
                exact ih67 0 (i + 1) h125 L 0 0 cd (⟨⟨by omega, by omega⟩, hfr.tr (((am_fr.rf.tr (am_fr.st e103 (by omega) (by omega))).tr Fh111).tr Fh125), Or.inr ⟨rfl, _, _, hJ9.symm.trans (rJ_no (by omega) (by omega) qh111), Xh125⟩⟩) (by omega)
              · skip
                refine q_blk (lv2 := [(0, vr t), (1, vi 0), (2, vi 0), (3, vi i), (4, vi (kd e9))]) (st2 := [vi (-8), vr t]) kX6_readTerm_65 rfl ?_
                refine q_goto (tgt := 72) eX6_readTerm_67 (by decide) ?_
                refine AQ.callVv (av := [vi (-8)]) (st := []) (c_X6_addCodeF Xh111 (v := (-8))) lk_RX6_230 (by decide) rfl rfl (SF.ob Xh111) ⟨_, rfl, rfl⟩ (Nat.le_of_ble_eq_true rfl) eX6_readTerm_72 (fun h128 e127 => ?_)
                obtain ⟨Xh128, Fh128⟩ := e127
                refine q_blk (lv2 := [(0, vr t), (1, vi 0), (2, vi 0), (3, vi (i + 1)), (4, vi (kd e9))]) (st2 := []) kX6_readTerm_75 rfl ?_
                refine q_goto (tgt := 8) eX6_readTerm_78 (by decide) ?_
                refine q_sub (lv2 := [(0, vr t), (1, vi 0), (2, vi 0), (3, vi (i + 1))]) [0, 1, 2, 3] rfl ?_
                exact ih67 0 (i + 1) h128 L 0 0 cd (⟨⟨by omega, by omega⟩, hfr.tr (((am_fr.rf.tr (am_fr.st e103 (by omega) (by omega))).tr Fh111).tr Fh128), Or.inr ⟨rfl, _, _, hJ9.symm.trans (rJ_no (by omega) (by omega) qh111), Xh128⟩⟩) (by omega)
          · skip
            refine q_blk (lv2 := [(0, vr t), (1, vi 0), (2, vi g), (3, vi i), (4, vi (kd e9))]) (st2 := [vi 1]) kX6_readTerm_39 rfl ?_
            exact q_rz rfl eX6_readTerm_40 (by decide) ⟨1, rfl, Or.inl ⟨rfl, L9, e9, hJ9.symm.trans (rJ_end (Or.inr ⟨by omega, by omega⟩)), ⟨by omega, by omega, by omega⟩, _, _, ⟨_, w0, w1, w2, w3, w4⟩, hL9⟩, hfr.tr am_fr.rf⟩

set_option maxHeartbeats 1000000 in
theorem c_X6_readSum0 {w : am_w} {h : AH} {L : GL} {t u b j : Nat} {kd st vl : Int → Int} {he nu px hs er ea : Int} {cd : Int → Int} (hS : SU h t u b j kd st vl he nu px (L.length : Int) hs er ea cd) {n : Int} (n0 : n ≤ 800) (kn : kd n = 0) (he0 : 0 ≤ he) (he1 : he ≤ n) (kr : ∀ i, 0 ≤ i → i < 801 → -5 ≤ kd i ∧ kd i ≤ 100) (vq : ∀ i, 0 ≤ i → i < 801 → 0 ≤ vl i ∧ vl i ≤ 10000) (hL : CL cd L) (hl : (L.length : Int) ≤ he)  : AE w m_X6_readSum 18 [vr t, vi 0] h (am_int (fun z h1 => ((z = 1 ∧ ∃ L' he', rU kd st vl 4 L he = .inr (L', he') ∧ (he < he' ∧ he' ≤ n ∧ (L'.length : Int) ≤ (L.length : Int) + (he' - he)) ∧ ∃ nu' cd', SU h1 t u b j kd st vl he' nu' px (L'.length : Int) hs er ea cd' ∧ CL cd' L') ∨ (z = 0 ∧ ∃ e a, rU kd st vl 4 L he = .inl (e, a) ∧ SF h1 t u b j kd st vl e a)) ∧ am_fr h h1 t (t + 5))) := by
  refine AE.of wf_X6_readSum (Nat.le_of_ble_eq_true rfl) (am_ok_z (fun z h1 q => by rcases q.1 with q | q; exact Or.inr q.1; exact Or.inl q.1)) ?_
  obtain ⟨tc, c0, c1, c2, c3, c4⟩ := id hS
  have kr1 := kr he he0 (by omega)
  have vr1 := vq he he0 (by omega)
  have hen : kd he ≠ 0 → he ≠ n := fun q e9 => by rw [e9] at q; omega
  refine q_blk (lv2 := [(0, vr t), (1, vi 0)]) (st2 := [vi 0, vr t]) kX6_readSum_0 rfl ?_
  refine AQ.callVi (av := [vi 0]) (st := []) (c_X6_readTerm0 (L := L) ⟨_, c0, c1, c2, c3, c4⟩ n0 kn (by omega) (by omega) kr vq hL (by omega)) lk_RX6_227 (by decide) rfl rfl ⟨_, _, _, c0⟩ ⟨_, rfl, rfl⟩ (Nat.le_of_ble_eq_true rfl) eX6_readSum_2 (fun z1 h3 e2 => ?_)
  rcases e2 with ⟨⟨rfl, Lh3, hh3e, qh3, ⟨bh3a, bh3b, bh3c⟩, hh3n, hh3c, Xh3, Ch3⟩ | ⟨rfl, eh3, ah3, qh3, Xh3⟩, Fh3⟩
  · skip
    obtain ⟨g4t, g40, g41, g42, g43, g44⟩ := id Xh3
    refine q_blk (lv2 := [(0, vr t), (1, vi 0), (2, vi 1), (3, vi 0)]) (st2 := []) kX6_readSum_5 rfl ?_
    refine am_lp7 (I := fun (g : Int) (i : Int) (hh : AH) (L9 : GL) (e9 : Int) (v9 : Int) (c9 : Int → Int) => (0 ≤ i ∧ i ≤ 800) ∧ am_fr h hh t (t + 5) ∧ ((g = 1 ∧ (he < e9 ∧ e9 ≤ n ∧ (L9.length : Int) ≤ (L.length : Int) + (e9 - he)) ∧ rJ kd (rM kd st vl (some (rU kd st vl 3))) 43 45 2 3 (800 - i.toNat) L9 e9 = rU kd st vl 4 L he ∧ CL c9 L9 ∧ SU hh t u b j kd st vl e9 v9 px (L9.length : Int) hs er ea c9) ∨ (g = 0 ∧ ∃ e a, rU kd st vl 4 L he = .inl (e, a) ∧ SF hh t u b j kd st vl e a))) (μ := fun (g : Int) (i : Int) (hh : AH) (L9 : GL) (e9 : Int) (v9 : Int) (c9 : Int → Int) => (800 - i).toNat) (G := fun (g : Int) (i : Int) (hh : AH) (L9 : GL) (e9 : Int) (v9 : Int) (c9 : Int → Int) => AQ w m_X6_readSum 18 8 [(0, vr t), (1, vi 0), (2, vi g), (3, vi i)] [] hh (am_int (fun z h1 => ((z = 1 ∧ ∃ L' he', rU kd st vl 4 L he = .inr (L', he') ∧ (he < he' ∧ he' ≤ n ∧ (L'.length : Int) ≤ (L.length : Int) + (he' - he)) ∧ ∃ nu' cd', SU h1 t u b j kd st vl he' nu' px (L'.length : Int) hs er ea cd' ∧ CL cd' L') ∨ (z = 0 ∧ ∃ e a, rU kd st vl 4 L he = .inl (e, a) ∧ SF h1 t u b j kd st vl e a)) ∧ am_fr h h1 t (t + 5)))) ?_ 1 0 h3 Lh3 hh3e hh3n hh3c (⟨⟨by omega, by omega⟩, (am_fr.rf.tr Fh3), Or.inl ⟨rfl, ⟨by omega, by omega, by omega⟩, by rw [show (800 - (0 : Int).toNat : Nat) = 800 from rfl]; rw [rU_4]; rw [rB_r qh3], Ch3, ⟨_, g40, g41, g42, g43, g44⟩⟩⟩)
    intro g i hh L9 e9 v9 c9 hI6 ih5
    obtain ⟨⟨i0, i1⟩, hfr, hG⟩ := hI6
    have hg9 : g = 0 ∨ g = 1 := by rcases hG with q | q; exact Or.inr q.1; exact Or.inl q.1
    refine q_blk (lv2 := [(0, vr t), (1, vi 0), (2, vi g), (3, vi i)]) (st2 := [vi 800, vi i]) kX6_readSum_8 rfl ?_
    refine AQ.ic_ge (tgt := 81) eX6_readSum_12 (by decide) (by first | assumption | exact ⟨by omega, by omega⟩) ⟨by decide, by decide⟩ (fun br7 => ?_) (fun br7 => ?_)
    · skip
      refine q_blk (lv2 := [(0, vr t), (1, vi 0), (2, vi g), (3, vi i)]) (st2 := [vi g]) kX6_readSum_81 rfl ?_
      exact q_rz rfl eX6_readSum_82 (by omega) ⟨g, rfl, (by rcases hG with ⟨rfl, hb9, hJ9, hL9, hS9⟩ | hG; exact Or.inl ⟨rfl, L9, e9, hJ9.symm.trans (rJ_end (Or.inl (by omega))), hb9, _, _, hS9, hL9⟩; exact Or.inr hG), hfr⟩
    · skip
      refine q_blk (lv2 := [(0, vr t), (1, vi 0), (2, vi g), (3, vi i)]) (st2 := [vi g]) kX6_readSum_15 rfl ?_
      refine AQ.if_eq (tgt := 81) eX6_readSum_16 (by decide) (by first | assumption | exact ⟨by omega, by omega⟩) (fun br8 => ?_) (fun br8 => ?_)
      · skip
        refine q_blk (lv2 := [(0, vr t), (1, vi 0), (2, vi g), (3, vi i)]) (st2 := [vi g]) kX6_readSum_81 rfl ?_
        exact q_rz rfl eX6_readSum_82 (by omega) ⟨g, rfl, (by rcases hG with ⟨rfl, hb9, hJ9, hL9, hS9⟩ | hG; exact Or.inl ⟨rfl, L9, e9, hJ9.symm.trans (rJ_end (Or.inl (by omega))), hb9, _, _, hS9, hL9⟩; exact Or.inr hG), hfr⟩
      · skip
        obtain ⟨-, ⟨b9a, b9b, b9c⟩, hJ9, hL9, hS9⟩ := hG.resolve_right (fun q => absurd q.1 (by omega))
        obtain ⟨wt, w0, w1, w2, w3, w4⟩ := id hS9
        have kr9 := kr e9 (by omega) (by omega)
        have hen9 : kd e9 ≠ 0 → e9 ≠ n := fun q e => by rw [e] at q; omega
        refine q_blk (lv2 := [(0, vr t), (1, vi 0), (2, vi g), (3, vi i)]) (st2 := [vr t]) kX6_readSum_19 rfl ?_
        refine q_Vi (av := []) (st := []) (c_X6_kindHere ⟨_, w0, w1, w2, w3, w4⟩ (by omega) (by omega)) lk_RX6_70 (by decide) rfl rfl ⟨_, _, _, w0⟩ ⟨_, rfl, rfl⟩ (Nat.le_of_ble_eq_true rfl) eX6_readSum_20 (fun z9 e10 => ?_)
        subst e10
        refine q_blk (lv2 := [(0, vr t), (1, vi 0), (2, vi g), (3, vi i), (4, vi (kd e9))]) (st2 := [vi 43, vi (kd e9)]) kX6_readSum_23 rfl ?_
        refine AQ.ic_eq (tgt := 41) eX6_readSum_29 (by decide) (by first | assumption | exact ⟨by omega, by omega⟩) ⟨by decide, by decide⟩ (fun br11 => ?_) (fun br11 => ?_)
        · skip
          refine q_blk (lv2 := [(0, vr t), (1, vi 0), (2, vi g), (3, vi i), (4, vi (kd e9))]) (st2 := [vr t, vr t]) kX6_readSum_41 rfl ?_
          refine q_gi eX6_readSum_43 fl_RX6_28 (Or.inl rfl) w0 (z := e9) rfl ?_
          refine q_blk (lv2 := [(0, vr t), (1, vi 0), (2, vi g), (3, vi i), (4, vi (kd e9))]) (st2 := [vi (e9 + 1), vr t]) kX6_readSum_46 rfl ?_
          refine q_pi eX6_readSum_48 fl_RX6_28 (fun q hq => by cases hq; exact Or.inl rfl) (Or.inl rfl) w0 (Nat.le_of_ble_eq_true rfl) (l2 := [0, 0, 0, 0, 0, 0, 0, wt, (e9 + 1), v9, px, (L9.length : Int), hs, er, ea]) rfl (fun h12 e13 => ?_)
          have k14 := am_at e13
          have k15 := (am_ne e13 (t + 1) (by omega)).trans w1
          have k16 := (am_ne e13 (t + 2) (by omega)).trans w2
          have k17 := (am_ne e13 (t + 3) (by omega)).trans w3
          have k18 := (am_ne e13 (t + 4) (by omega)).trans w4
          refine q_blk (lv2 := [(0, vr t), (1, vi 0), (2, vi g), (3, vi i), (4, vi (kd e9))]) (st2 := [vi 0, vr t]) kX6_readSum_51 rfl ?_
          refine AQ.callVi (av := [vi 0]) (st := []) (c_X6_readTerm0 (L := L9) ⟨_, k14, k15, k16, k17, k18⟩ n0 kn (by omega) (by omega) kr vq hL9 (by omega)) lk_RX6_227 (by decide) rfl rfl ⟨_, _, _, k14⟩ ⟨_, rfl, rfl⟩ (Nat.le_of_ble_eq_true rfl) eX6_readSum_53 (fun z19 h21 e20 => ?_)
          rcases e20 with ⟨⟨rfl, Lh21, hh21e, qh21, ⟨bh21a, bh21b, bh21c⟩, hh21n, hh21c, Xh21, Ch21⟩ | ⟨rfl, eh21, ah21, qh21, Xh21⟩, Fh21⟩
          · skip
            obtain ⟨g22t, g220, g221, g222, g223, g224⟩ := id Xh21
            refine q_blk (lv2 := [(0, vr t), (1, vi 0), (2, vi 1), (3, vi i), (4, vi (kd e9))]) (st2 := [vi 43, vi (kd e9), vr t]) kX6_readSum_56 rfl ?_
            refine AQ.ic_ne (tgt := 70) eX6_readSum_62 (by decide) (by first | assumption | exact ⟨by omega, by omega⟩) ⟨by decide, by decide⟩ (fun br23 => ?_) (fun br23 => ?_)
            · skip
              refine q_blk (lv2 := [(0, vr t), (1, vi 0), (2, vi 1), (3, vi i), (4, vi (kd e9))]) (st2 := [vi (-7), vr t]) kX6_readSum_70 rfl ?_
              refine AQ.callVv (av := [vi (-7)]) (st := []) (c_X6_addCode (v := (-7)) ⟨_, g220, g221, g222, g223, g224⟩ (by omega) (by omega)) lk_RX6_230 (by decide) rfl rfl ⟨_, _, _, g220⟩ ⟨_, rfl, rfl⟩ (Nat.le_of_ble_eq_true rfl) eX6_readSum_72 (fun h26 e25 => ?_)
              obtain ⟨Xh26, Fh26⟩ := e25
              obtain ⟨g27t, g270, g271, g272, g273, g274⟩ := id Xh26
              refine q_blk (lv2 := [(0, vr t), (1, vi 0), (2, vi 1), (3, vi (i + 1)), (4, vi (kd e9))]) (st2 := []) kX6_readSum_75 rfl ?_
              refine q_goto (tgt := 8) eX6_readSum_78 (by decide) ?_
              refine q_sub (lv2 := [(0, vr t), (1, vi 0), (2, vi 1), (3, vi (i + 1))]) [0, 1, 2, 3] rfl ?_
              exact ih5 1 (i + 1) h26 (Lh21 ++ [(3, 0)]) hh21e hh21n (am_uI hh21c (Lh21.length : Int) (-7)) (⟨⟨by omega, by omega⟩, hfr.tr (((am_fr.rf.tr (am_fr.st e13 (by omega) (by omega))).tr Fh21).tr Fh26), Or.inl ⟨rfl, ⟨by omega, by omega, by simp; omega⟩, by rw [show 800 - (i + 1).toNat = 800 - i.toNat - 1 by omega]; exact (rJ_go (o := 3) (by omega) (by omega) qh21).symm.trans hJ9, Ch21.add (by unfold gm_en; simp), SU.cast ⟨_, g270, g271, g272, g273, g274⟩ (by simp)⟩⟩) (by omega)
            · skip
              refine q_blk (lv2 := [(0, vr t), (1, vi 0), (2, vi 1), (3, vi i), (4, vi (kd e9))]) (st2 := [vi (-6), vr t]) kX6_readSum_65 rfl ?_
              refine q_goto (tgt := 72) eX6_readSum_67 (by decide) ?_
              refine AQ.callVv (av := [vi (-6)]) (st := []) (c_X6_addCode (v := (-6)) ⟨_, g220, g221, g222, g223, g224⟩ (by omega) (by omega)) lk_RX6_230 (by decide) rfl rfl ⟨_, _, _, g220⟩ ⟨_, rfl, rfl⟩ (Nat.le_of_ble_eq_true rfl) eX6_readSum_72 (fun h30 e29 => ?_)
              obtain ⟨Xh30, Fh30⟩ := e29
              obtain ⟨g31t, g310, g311, g312, g313, g314⟩ := id Xh30
              refine q_blk (lv2 := [(0, vr t), (1, vi 0), (2, vi 1), (3, vi (i + 1)), (4, vi (kd e9))]) (st2 := []) kX6_readSum_75 rfl ?_
              refine q_goto (tgt := 8) eX6_readSum_78 (by decide) ?_
              refine q_sub (lv2 := [(0, vr t), (1, vi 0), (2, vi 1), (3, vi (i + 1))]) [0, 1, 2, 3] rfl ?_
              exact ih5 1 (i + 1) h30 (Lh21 ++ [(2, 0)]) hh21e hh21n (am_uI hh21c (Lh21.length : Int) (-6)) (⟨⟨by omega, by omega⟩, hfr.tr (((am_fr.rf.tr (am_fr.st e13 (by omega) (by omega))).tr Fh21).tr Fh30), Or.inl ⟨rfl, ⟨by omega, by omega, by simp; omega⟩, by rw [show 800 - (i + 1).toNat = 800 - i.toNat - 1 by omega]; exact (rJ_go (o := 2) (by omega) (by omega) qh21).symm.trans hJ9, Ch21.add (by unfold gm_en; simp), SU.cast ⟨_, g310, g311, g312, g313, g314⟩ (by simp)⟩⟩) (by omega)
          · skip
            refine q_blk (lv2 := [(0, vr t), (1, vi 0), (2, vi 0), (3, vi i), (4, vi (kd e9))]) (st2 := [vi 43, vi (kd e9), vr t]) kX6_readSum_56 rfl ?_
            refine AQ.ic_ne (tgt := 70) eX6_readSum_62 (by decide) (by first | assumption | exact ⟨by omega, by omega⟩) ⟨by decide, by decide⟩ (fun br32 => ?_) (fun br32 => ?_)
            · skip
              refine q_blk (lv2 := [(0, vr t), (1, vi 0), (2, vi 0), (3, vi i), (4, vi (kd e9))]) (st2 := [vi (-7), vr t]) kX6_readSum_70 rfl ?_
              refine AQ.callVv (av := [vi (-7)]) (st := []) (c_X6_addCodeF Xh21 (v := (-7))) lk_RX6_230 (by decide) rfl rfl (SF.ob Xh21) ⟨_, rfl, rfl⟩ (Nat.le_of_ble_eq_true rfl) eX6_readSum_72 (fun h35 e34 => ?_)
              obtain ⟨Xh35, Fh35⟩ := e34
              refine q_blk (lv2 := [(0, vr t), (1, vi 0), (2, vi 0), (3, vi (i + 1)), (4, vi (kd e9))]) (st2 := []) kX6_readSum_75 rfl ?_
              refine q_goto (tgt := 8) eX6_readSum_78 (by decide) ?_
              refine q_sub (lv2 := [(0, vr t), (1, vi 0), (2, vi 0), (3, vi (i + 1))]) [0, 1, 2, 3] rfl ?_
              exact ih5 0 (i + 1) h35 L 0 0 cd (⟨⟨by omega, by omega⟩, hfr.tr (((am_fr.rf.tr (am_fr.st e13 (by omega) (by omega))).tr Fh21).tr Fh35), Or.inr ⟨rfl, _, _, hJ9.symm.trans (rJ_no (by omega) (by omega) qh21), Xh35⟩⟩) (by omega)
            · skip
              refine q_blk (lv2 := [(0, vr t), (1, vi 0), (2, vi 0), (3, vi i), (4, vi (kd e9))]) (st2 := [vi (-6), vr t]) kX6_readSum_65 rfl ?_
              refine q_goto (tgt := 72) eX6_readSum_67 (by decide) ?_
              refine AQ.callVv (av := [vi (-6)]) (st := []) (c_X6_addCodeF Xh21 (v := (-6))) lk_RX6_230 (by decide) rfl rfl (SF.ob Xh21) ⟨_, rfl, rfl⟩ (Nat.le_of_ble_eq_true rfl) eX6_readSum_72 (fun h38 e37 => ?_)
              obtain ⟨Xh38, Fh38⟩ := e37
              refine q_blk (lv2 := [(0, vr t), (1, vi 0), (2, vi 0), (3, vi (i + 1)), (4, vi (kd e9))]) (st2 := []) kX6_readSum_75 rfl ?_
              refine q_goto (tgt := 8) eX6_readSum_78 (by decide) ?_
              refine q_sub (lv2 := [(0, vr t), (1, vi 0), (2, vi 0), (3, vi (i + 1))]) [0, 1, 2, 3] rfl ?_
              exact ih5 0 (i + 1) h38 L 0 0 cd (⟨⟨by omega, by omega⟩, hfr.tr (((am_fr.rf.tr (am_fr.st e13 (by omega) (by omega))).tr Fh21).tr Fh38), Or.inr ⟨rfl, _, _, hJ9.symm.trans (rJ_no (by omega) (by omega) qh21), Xh38⟩⟩) (by omega)
        · skip
          refine q_blk (lv2 := [(0, vr t), (1, vi 0), (2, vi g), (3, vi i), (4, vi (kd e9))]) (st2 := [vi 45, vi (kd e9)]) kX6_readSum_32 rfl ?_
          refine AQ.ic_eq (tgt := 41) eX6_readSum_36 (by decide) (by first | assumption | exact ⟨by omega, by omega⟩) ⟨by decide, by decide⟩ (fun br39 => ?_) (fun br39 => ?_)
          · skip
            refine q_blk (lv2 := [(0, vr t), (1, vi 0), (2, vi g), (3, vi i), (4, vi (kd e9))]) (st2 := [vr t, vr t]) kX6_readSum_41 rfl ?_
            refine q_gi eX6_readSum_43 fl_RX6_28 (Or.inl rfl) w0 (z := e9) rfl ?_
            refine q_blk (lv2 := [(0, vr t), (1, vi 0), (2, vi g), (3, vi i), (4, vi (kd e9))]) (st2 := [vi (e9 + 1), vr t]) kX6_readSum_46 rfl ?_
            refine q_pi eX6_readSum_48 fl_RX6_28 (fun q hq => by cases hq; exact Or.inl rfl) (Or.inl rfl) w0 (Nat.le_of_ble_eq_true rfl) (l2 := [0, 0, 0, 0, 0, 0, 0, wt, (e9 + 1), v9, px, (L9.length : Int), hs, er, ea]) rfl (fun h40 e41 => ?_)
            have k42 := am_at e41
            have k43 := (am_ne e41 (t + 1) (by omega)).trans w1
            have k44 := (am_ne e41 (t + 2) (by omega)).trans w2
            have k45 := (am_ne e41 (t + 3) (by omega)).trans w3
            have k46 := (am_ne e41 (t + 4) (by omega)).trans w4
            refine q_blk (lv2 := [(0, vr t), (1, vi 0), (2, vi g), (3, vi i), (4, vi (kd e9))]) (st2 := [vi 0, vr t]) kX6_readSum_51 rfl ?_
            refine AQ.callVi (av := [vi 0]) (st := []) (c_X6_readTerm0 (L := L9) ⟨_, k42, k43, k44, k45, k46⟩ n0 kn (by omega) (by omega) kr vq hL9 (by omega)) lk_RX6_227 (by decide) rfl rfl ⟨_, _, _, k42⟩ ⟨_, rfl, rfl⟩ (Nat.le_of_ble_eq_true rfl) eX6_readSum_53 (fun z47 h49 e48 => ?_)
            rcases e48 with ⟨⟨rfl, Lh49, hh49e, qh49, ⟨bh49a, bh49b, bh49c⟩, hh49n, hh49c, Xh49, Ch49⟩ | ⟨rfl, eh49, ah49, qh49, Xh49⟩, Fh49⟩
            · skip
              obtain ⟨g50t, g500, g501, g502, g503, g504⟩ := id Xh49
              refine q_blk (lv2 := [(0, vr t), (1, vi 0), (2, vi 1), (3, vi i), (4, vi (kd e9))]) (st2 := [vi 43, vi (kd e9), vr t]) kX6_readSum_56 rfl ?_
              refine AQ.ic_ne (tgt := 70) eX6_readSum_62 (by decide) (by first | assumption | exact ⟨by omega, by omega⟩) ⟨by decide, by decide⟩ (fun br51 => ?_) (fun br51 => ?_)
              · skip
                refine q_blk (lv2 := [(0, vr t), (1, vi 0), (2, vi 1), (3, vi i), (4, vi (kd e9))]) (st2 := [vi (-7), vr t]) kX6_readSum_70 rfl ?_
                refine AQ.callVv (av := [vi (-7)]) (st := []) (c_X6_addCode (v := (-7)) ⟨_, g500, g501, g502, g503, g504⟩ (by omega) (by omega)) lk_RX6_230 (by decide) rfl rfl ⟨_, _, _, g500⟩ ⟨_, rfl, rfl⟩ (Nat.le_of_ble_eq_true rfl) eX6_readSum_72 (fun h54 e53 => ?_)
                obtain ⟨Xh54, Fh54⟩ := e53
                obtain ⟨g55t, g550, g551, g552, g553, g554⟩ := id Xh54
                refine q_blk (lv2 := [(0, vr t), (1, vi 0), (2, vi 1), (3, vi (i + 1)), (4, vi (kd e9))]) (st2 := []) kX6_readSum_75 rfl ?_
                refine q_goto (tgt := 8) eX6_readSum_78 (by decide) ?_
                refine q_sub (lv2 := [(0, vr t), (1, vi 0), (2, vi 1), (3, vi (i + 1))]) [0, 1, 2, 3] rfl ?_
                exact ih5 1 (i + 1) h54 (Lh49 ++ [(3, 0)]) hh49e hh49n (am_uI hh49c (Lh49.length : Int) (-7)) (⟨⟨by omega, by omega⟩, hfr.tr (((am_fr.rf.tr (am_fr.st e41 (by omega) (by omega))).tr Fh49).tr Fh54), Or.inl ⟨rfl, ⟨by omega, by omega, by simp; omega⟩, by rw [show 800 - (i + 1).toNat = 800 - i.toNat - 1 by omega]; exact (rJ_go (o := 3) (by omega) (by omega) qh49).symm.trans hJ9, Ch49.add (by unfold gm_en; simp), SU.cast ⟨_, g550, g551, g552, g553, g554⟩ (by simp)⟩⟩) (by omega)
              · skip
                refine q_blk (lv2 := [(0, vr t), (1, vi 0), (2, vi 1), (3, vi i), (4, vi (kd e9))]) (st2 := [vi (-6), vr t]) kX6_readSum_65 rfl ?_
                refine q_goto (tgt := 72) eX6_readSum_67 (by decide) ?_
                refine AQ.callVv (av := [vi (-6)]) (st := []) (c_X6_addCode (v := (-6)) ⟨_, g500, g501, g502, g503, g504⟩ (by omega) (by omega)) lk_RX6_230 (by decide) rfl rfl ⟨_, _, _, g500⟩ ⟨_, rfl, rfl⟩ (Nat.le_of_ble_eq_true rfl) eX6_readSum_72 (fun h58 e57 => ?_)
                obtain ⟨Xh58, Fh58⟩ := e57
                obtain ⟨g59t, g590, g591, g592, g593, g594⟩ := id Xh58
                refine q_blk (lv2 := [(0, vr t), (1, vi 0), (2, vi 1), (3, vi (i + 1)), (4, vi (kd e9))]) (st2 := []) kX6_readSum_75 rfl ?_
                refine q_goto (tgt := 8) eX6_readSum_78 (by decide) ?_
                refine q_sub (lv2 := [(0, vr t), (1, vi 0), (2, vi 1), (3, vi (i + 1))]) [0, 1, 2, 3] rfl ?_
                exact ih5 1 (i + 1) h58 (Lh49 ++ [(2, 0)]) hh49e hh49n (am_uI hh49c (Lh49.length : Int) (-6)) (⟨⟨by omega, by omega⟩, hfr.tr (((am_fr.rf.tr (am_fr.st e41 (by omega) (by omega))).tr Fh49).tr Fh58), Or.inl ⟨rfl, ⟨by omega, by omega, by simp; omega⟩, by rw [show 800 - (i + 1).toNat = 800 - i.toNat - 1 by omega]; exact (rJ_go (o := 2) (by omega) (by omega) qh49).symm.trans hJ9, Ch49.add (by unfold gm_en; simp), SU.cast ⟨_, g590, g591, g592, g593, g594⟩ (by simp)⟩⟩) (by omega)
            · skip
              refine q_blk (lv2 := [(0, vr t), (1, vi 0), (2, vi 0), (3, vi i), (4, vi (kd e9))]) (st2 := [vi 43, vi (kd e9), vr t]) kX6_readSum_56 rfl ?_
              refine AQ.ic_ne (tgt := 70) eX6_readSum_62 (by decide) (by first | assumption | exact ⟨by omega, by omega⟩) ⟨by decide, by decide⟩ (fun br60 => ?_) (fun br60 => ?_)
              · skip
                refine q_blk (lv2 := [(0, vr t), (1, vi 0), (2, vi 0), (3, vi i), (4, vi (kd e9))]) (st2 := [vi (-7), vr t]) kX6_readSum_70 rfl ?_
                refine AQ.callVv (av := [vi (-7)]) (st := []) (c_X6_addCodeF Xh49 (v := (-7))) lk_RX6_230 (by decide) rfl rfl (SF.ob Xh49) ⟨_, rfl, rfl⟩ (Nat.le_of_ble_eq_true rfl) eX6_readSum_72 (fun h63 e62 => ?_)
                obtain ⟨Xh63, Fh63⟩ := e62
                refine q_blk (lv2 := [(0, vr t), (1, vi 0), (2, vi 0), (3, vi (i + 1)), (4, vi (kd e9))]) (st2 := []) kX6_readSum_75 rfl ?_
                refine q_goto (tgt := 8) eX6_readSum_78 (by decide) ?_
                refine q_sub (lv2 := [(0, vr t), (1, vi 0), (2, vi 0), (3, vi (i + 1))]) [0, 1, 2, 3] rfl ?_
                exact ih5 0 (i + 1) h63 L 0 0 cd (⟨⟨by omega, by omega⟩, hfr.tr (((am_fr.rf.tr (am_fr.st e41 (by omega) (by omega))).tr Fh49).tr Fh63), Or.inr ⟨rfl, _, _, hJ9.symm.trans (rJ_no (by omega) (by omega) qh49), Xh63⟩⟩) (by omega)
              · skip
                refine q_blk (lv2 := [(0, vr t), (1, vi 0), (2, vi 0), (3, vi i), (4, vi (kd e9))]) (st2 := [vi (-6), vr t]) kX6_readSum_65 rfl ?_
                refine q_goto (tgt := 72) eX6_readSum_67 (by decide) ?_
                refine AQ.callVv (av := [vi (-6)]) (st := []) (c_X6_addCodeF Xh49 (v := (-6))) lk_RX6_230 (by decide) rfl rfl (SF.ob Xh49) ⟨_, rfl, rfl⟩ (Nat.le_of_ble_eq_true rfl) eX6_readSum_72 (fun h66 e65 => ?_)
                obtain ⟨Xh66, Fh66⟩ := e65
                refine q_blk (lv2 := [(0, vr t), (1, vi 0), (2, vi 0), (3, vi (i + 1)), (4, vi (kd e9))]) (st2 := []) kX6_readSum_75 rfl ?_
                refine q_goto (tgt := 8) eX6_readSum_78 (by decide) ?_
                refine q_sub (lv2 := [(0, vr t), (1, vi 0), (2, vi 0), (3, vi (i + 1))]) [0, 1, 2, 3] rfl ?_
                exact ih5 0 (i + 1) h66 L 0 0 cd (⟨⟨by omega, by omega⟩, hfr.tr (((am_fr.rf.tr (am_fr.st e41 (by omega) (by omega))).tr Fh49).tr Fh66), Or.inr ⟨rfl, _, _, hJ9.symm.trans (rJ_no (by omega) (by omega) qh49), Xh66⟩⟩) (by omega)
          · skip
            refine q_blk (lv2 := [(0, vr t), (1, vi 0), (2, vi g), (3, vi i), (4, vi (kd e9))]) (st2 := [vi 1]) kX6_readSum_39 rfl ?_
            exact q_rz rfl eX6_readSum_40 (by decide) ⟨1, rfl, Or.inl ⟨rfl, L9, e9, hJ9.symm.trans (rJ_end (Or.inr ⟨by omega, by omega⟩)), ⟨by omega, by omega, by omega⟩, _, _, ⟨_, w0, w1, w2, w3, w4⟩, hL9⟩, hfr.tr am_fr.rf⟩
  · skip
    refine q_blk (lv2 := [(0, vr t), (1, vi 0), (2, vi 0), (3, vi 0)]) (st2 := []) kX6_readSum_5 rfl ?_
    refine am_lp7 (I := fun (g : Int) (i : Int) (hh : AH) (L9 : GL) (e9 : Int) (v9 : Int) (c9 : Int → Int) => (0 ≤ i ∧ i ≤ 800) ∧ am_fr h hh t (t + 5) ∧ ((g = 1 ∧ (he < e9 ∧ e9 ≤ n ∧ (L9.length : Int) ≤ (L.length : Int) + (e9 - he)) ∧ rJ kd (rM kd st vl (some (rU kd st vl 3))) 43 45 2 3 (800 - i.toNat) L9 e9 = rU kd st vl 4 L he ∧ CL c9 L9 ∧ SU hh t u b j kd st vl e9 v9 px (L9.length : Int) hs er ea c9) ∨ (g = 0 ∧ ∃ e a, rU kd st vl 4 L he = .inl (e, a) ∧ SF hh t u b j kd st vl e a))) (μ := fun (g : Int) (i : Int) (hh : AH) (L9 : GL) (e9 : Int) (v9 : Int) (c9 : Int → Int) => (800 - i).toNat) (G := fun (g : Int) (i : Int) (hh : AH) (L9 : GL) (e9 : Int) (v9 : Int) (c9 : Int → Int) => AQ w m_X6_readSum 18 8 [(0, vr t), (1, vi 0), (2, vi g), (3, vi i)] [] hh (am_int (fun z h1 => ((z = 1 ∧ ∃ L' he', rU kd st vl 4 L he = .inr (L', he') ∧ (he < he' ∧ he' ≤ n ∧ (L'.length : Int) ≤ (L.length : Int) + (he' - he)) ∧ ∃ nu' cd', SU h1 t u b j kd st vl he' nu' px (L'.length : Int) hs er ea cd' ∧ CL cd' L') ∨ (z = 0 ∧ ∃ e a, rU kd st vl 4 L he = .inl (e, a) ∧ SF h1 t u b j kd st vl e a)) ∧ am_fr h h1 t (t + 5)))) ?_ 0 0 h3 L 0 0 cd (⟨⟨by omega, by omega⟩, (am_fr.rf.tr Fh3), Or.inr ⟨rfl, _, _, by rw [rU_4]; exact rB_l qh3 _, Xh3⟩⟩)
    intro g i hh L9 e9 v9 c9 hI68 ih67
    obtain ⟨⟨i0, i1⟩, hfr, hG⟩ := hI68
    have hg9 : g = 0 ∨ g = 1 := by rcases hG with q | q; exact Or.inr q.1; exact Or.inl q.1
    refine q_blk (lv2 := [(0, vr t), (1, vi 0), (2, vi g), (3, vi i)]) (st2 := [vi 800, vi i]) kX6_readSum_8 rfl ?_
    refine AQ.ic_ge (tgt := 81) eX6_readSum_12 (by decide) (by first | assumption | exact ⟨by omega, by omega⟩) ⟨by decide, by decide⟩ (fun br69 => ?_) (fun br69 => ?_)
    · skip
      refine q_blk (lv2 := [(0, vr t), (1, vi 0), (2, vi g), (3, vi i)]) (st2 := [vi g]) kX6_readSum_81 rfl ?_
      exact q_rz rfl eX6_readSum_82 (by omega) ⟨g, rfl, (by rcases hG with ⟨rfl, hb9, hJ9, hL9, hS9⟩ | hG; exact Or.inl ⟨rfl, L9, e9, hJ9.symm.trans (rJ_end (Or.inl (by omega))), hb9, _, _, hS9, hL9⟩; exact Or.inr hG), hfr⟩
    · skip
      refine q_blk (lv2 := [(0, vr t), (1, vi 0), (2, vi g), (3, vi i)]) (st2 := [vi g]) kX6_readSum_15 rfl ?_
      refine AQ.if_eq (tgt := 81) eX6_readSum_16 (by decide) (by first | assumption | exact ⟨by omega, by omega⟩) (fun br70 => ?_) (fun br70 => ?_)
      · skip
        refine q_blk (lv2 := [(0, vr t), (1, vi 0), (2, vi g), (3, vi i)]) (st2 := [vi g]) kX6_readSum_81 rfl ?_
        exact q_rz rfl eX6_readSum_82 (by omega) ⟨g, rfl, (by rcases hG with ⟨rfl, hb9, hJ9, hL9, hS9⟩ | hG; exact Or.inl ⟨rfl, L9, e9, hJ9.symm.trans (rJ_end (Or.inl (by omega))), hb9, _, _, hS9, hL9⟩; exact Or.inr hG), hfr⟩
      · skip
        obtain ⟨-, ⟨b9a, b9b, b9c⟩, hJ9, hL9, hS9⟩ := hG.resolve_right (fun q => absurd q.1 (by omega))
        obtain ⟨wt, w0, w1, w2, w3, w4⟩ := id hS9
        have kr9 := kr e9 (by omega) (by omega)
        have hen9 : kd e9 ≠ 0 → e9 ≠ n := fun q e => by rw [e] at q; omega
        refine q_blk (lv2 := [(0, vr t), (1, vi 0), (2, vi g), (3, vi i)]) (st2 := [vr t]) kX6_readSum_19 rfl ?_
        refine q_Vi (av := []) (st := []) (c_X6_kindHere ⟨_, w0, w1, w2, w3, w4⟩ (by omega) (by omega)) lk_RX6_70 (by decide) rfl rfl ⟨_, _, _, w0⟩ ⟨_, rfl, rfl⟩ (Nat.le_of_ble_eq_true rfl) eX6_readSum_20 (fun z71 e72 => ?_)
        subst e72
        refine q_blk (lv2 := [(0, vr t), (1, vi 0), (2, vi g), (3, vi i), (4, vi (kd e9))]) (st2 := [vi 43, vi (kd e9)]) kX6_readSum_23 rfl ?_
        refine AQ.ic_eq (tgt := 41) eX6_readSum_29 (by decide) (by first | assumption | exact ⟨by omega, by omega⟩) ⟨by decide, by decide⟩ (fun br73 => ?_) (fun br73 => ?_)
        · skip
          refine q_blk (lv2 := [(0, vr t), (1, vi 0), (2, vi g), (3, vi i), (4, vi (kd e9))]) (st2 := [vr t, vr t]) kX6_readSum_41 rfl ?_
          refine q_gi eX6_readSum_43 fl_RX6_28 (Or.inl rfl) w0 (z := e9) rfl ?_
          refine q_blk (lv2 := [(0, vr t), (1, vi 0), (2, vi g), (3, vi i), (4, vi (kd e9))]) (st2 := [vi (e9 + 1), vr t]) kX6_readSum_46 rfl ?_
          refine q_pi eX6_readSum_48 fl_RX6_28 (fun q hq => by cases hq; exact Or.inl rfl) (Or.inl rfl) w0 (Nat.le_of_ble_eq_true rfl) (l2 := [0, 0, 0, 0, 0, 0, 0, wt, (e9 + 1), v9, px, (L9.length : Int), hs, er, ea]) rfl (fun h74 e75 => ?_)
          have k76 := am_at e75
          have k77 := (am_ne e75 (t + 1) (by omega)).trans w1
          have k78 := (am_ne e75 (t + 2) (by omega)).trans w2
          have k79 := (am_ne e75 (t + 3) (by omega)).trans w3
          have k80 := (am_ne e75 (t + 4) (by omega)).trans w4
          refine q_blk (lv2 := [(0, vr t), (1, vi 0), (2, vi g), (3, vi i), (4, vi (kd e9))]) (st2 := [vi 0, vr t]) kX6_readSum_51 rfl ?_
          refine AQ.callVi (av := [vi 0]) (st := []) (c_X6_readTerm0 (L := L9) ⟨_, k76, k77, k78, k79, k80⟩ n0 kn (by omega) (by omega) kr vq hL9 (by omega)) lk_RX6_227 (by decide) rfl rfl ⟨_, _, _, k76⟩ ⟨_, rfl, rfl⟩ (Nat.le_of_ble_eq_true rfl) eX6_readSum_53 (fun z81 h83 e82 => ?_)
          rcases e82 with ⟨⟨rfl, Lh83, hh83e, qh83, ⟨bh83a, bh83b, bh83c⟩, hh83n, hh83c, Xh83, Ch83⟩ | ⟨rfl, eh83, ah83, qh83, Xh83⟩, Fh83⟩
          · skip
            obtain ⟨g84t, g840, g841, g842, g843, g844⟩ := id Xh83
            refine q_blk (lv2 := [(0, vr t), (1, vi 0), (2, vi 1), (3, vi i), (4, vi (kd e9))]) (st2 := [vi 43, vi (kd e9), vr t]) kX6_readSum_56 rfl ?_
            refine AQ.ic_ne (tgt := 70) eX6_readSum_62 (by decide) (by first | assumption | exact ⟨by omega, by omega⟩) ⟨by decide, by decide⟩ (fun br85 => ?_) (fun br85 => ?_)
            · skip
              refine q_blk (lv2 := [(0, vr t), (1, vi 0), (2, vi 1), (3, vi i), (4, vi (kd e9))]) (st2 := [vi (-7), vr t]) kX6_readSum_70 rfl ?_
              refine AQ.callVv (av := [vi (-7)]) (st := []) (c_X6_addCode (v := (-7)) ⟨_, g840, g841, g842, g843, g844⟩ (by omega) (by omega)) lk_RX6_230 (by decide) rfl rfl ⟨_, _, _, g840⟩ ⟨_, rfl, rfl⟩ (Nat.le_of_ble_eq_true rfl) eX6_readSum_72 (fun h88 e87 => ?_)
              obtain ⟨Xh88, Fh88⟩ := e87
              obtain ⟨g89t, g890, g891, g892, g893, g894⟩ := id Xh88
              refine q_blk (lv2 := [(0, vr t), (1, vi 0), (2, vi 1), (3, vi (i + 1)), (4, vi (kd e9))]) (st2 := []) kX6_readSum_75 rfl ?_
              refine q_goto (tgt := 8) eX6_readSum_78 (by decide) ?_
              refine q_sub (lv2 := [(0, vr t), (1, vi 0), (2, vi 1), (3, vi (i + 1))]) [0, 1, 2, 3] rfl ?_
              exact ih67 1 (i + 1) h88 (Lh83 ++ [(3, 0)]) hh83e hh83n (am_uI hh83c (Lh83.length : Int) (-7)) (⟨⟨by omega, by omega⟩, hfr.tr (((am_fr.rf.tr (am_fr.st e75 (by omega) (by omega))).tr Fh83).tr Fh88), Or.inl ⟨rfl, ⟨by omega, by omega, by simp; omega⟩, by rw [show 800 - (i + 1).toNat = 800 - i.toNat - 1 by omega]; exact (rJ_go (o := 3) (by omega) (by omega) qh83).symm.trans hJ9, Ch83.add (by unfold gm_en; simp), SU.cast ⟨_, g890, g891, g892, g893, g894⟩ (by simp)⟩⟩) (by omega)
            · skip
              refine q_blk (lv2 := [(0, vr t), (1, vi 0), (2, vi 1), (3, vi i), (4, vi (kd e9))]) (st2 := [vi (-6), vr t]) kX6_readSum_65 rfl ?_
              refine q_goto (tgt := 72) eX6_readSum_67 (by decide) ?_
              refine AQ.callVv (av := [vi (-6)]) (st := []) (c_X6_addCode (v := (-6)) ⟨_, g840, g841, g842, g843, g844⟩ (by omega) (by omega)) lk_RX6_230 (by decide) rfl rfl ⟨_, _, _, g840⟩ ⟨_, rfl, rfl⟩ (Nat.le_of_ble_eq_true rfl) eX6_readSum_72 (fun h92 e91 => ?_)
              obtain ⟨Xh92, Fh92⟩ := e91
              obtain ⟨g93t, g930, g931, g932, g933, g934⟩ := id Xh92
              refine q_blk (lv2 := [(0, vr t), (1, vi 0), (2, vi 1), (3, vi (i + 1)), (4, vi (kd e9))]) (st2 := []) kX6_readSum_75 rfl ?_
              refine q_goto (tgt := 8) eX6_readSum_78 (by decide) ?_
              refine q_sub (lv2 := [(0, vr t), (1, vi 0), (2, vi 1), (3, vi (i + 1))]) [0, 1, 2, 3] rfl ?_
              exact ih67 1 (i + 1) h92 (Lh83 ++ [(2, 0)]) hh83e hh83n (am_uI hh83c (Lh83.length : Int) (-6)) (⟨⟨by omega, by omega⟩, hfr.tr (((am_fr.rf.tr (am_fr.st e75 (by omega) (by omega))).tr Fh83).tr Fh92), Or.inl ⟨rfl, ⟨by omega, by omega, by simp; omega⟩, by rw [show 800 - (i + 1).toNat = 800 - i.toNat - 1 by omega]; exact (rJ_go (o := 2) (by omega) (by omega) qh83).symm.trans hJ9, Ch83.add (by unfold gm_en; simp), SU.cast ⟨_, g930, g931, g932, g933, g934⟩ (by simp)⟩⟩) (by omega)
          · skip
            refine q_blk (lv2 := [(0, vr t), (1, vi 0), (2, vi 0), (3, vi i), (4, vi (kd e9))]) (st2 := [vi 43, vi (kd e9), vr t]) kX6_readSum_56 rfl ?_
            refine AQ.ic_ne (tgt := 70) eX6_readSum_62 (by decide) (by first | assumption | exact ⟨by omega, by omega⟩) ⟨by decide, by decide⟩ (fun br94 => ?_) (fun br94 => ?_)
            · skip
              refine q_blk (lv2 := [(0, vr t), (1, vi 0), (2, vi 0), (3, vi i), (4, vi (kd e9))]) (st2 := [vi (-7), vr t]) kX6_readSum_70 rfl ?_
              refine AQ.callVv (av := [vi (-7)]) (st := []) (c_X6_addCodeF Xh83 (v := (-7))) lk_RX6_230 (by decide) rfl rfl (SF.ob Xh83) ⟨_, rfl, rfl⟩ (Nat.le_of_ble_eq_true rfl) eX6_readSum_72 (fun h97 e96 => ?_)
              obtain ⟨Xh97, Fh97⟩ := e96
              refine q_blk (lv2 := [(0, vr t), (1, vi 0), (2, vi 0), (3, vi (i + 1)), (4, vi (kd e9))]) (st2 := []) kX6_readSum_75 rfl ?_
              refine q_goto (tgt := 8) eX6_readSum_78 (by decide) ?_
              refine q_sub (lv2 := [(0, vr t), (1, vi 0), (2, vi 0), (3, vi (i + 1))]) [0, 1, 2, 3] rfl ?_
              exact ih67 0 (i + 1) h97 L 0 0 cd (⟨⟨by omega, by omega⟩, hfr.tr (((am_fr.rf.tr (am_fr.st e75 (by omega) (by omega))).tr Fh83).tr Fh97), Or.inr ⟨rfl, _, _, hJ9.symm.trans (rJ_no (by omega) (by omega) qh83), Xh97⟩⟩) (by omega)
            · skip
              refine q_blk (lv2 := [(0, vr t), (1, vi 0), (2, vi 0), (3, vi i), (4, vi (kd e9))]) (st2 := [vi (-6), vr t]) kX6_readSum_65 rfl ?_
              refine q_goto (tgt := 72) eX6_readSum_67 (by decide) ?_
              refine AQ.callVv (av := [vi (-6)]) (st := []) (c_X6_addCodeF Xh83 (v := (-6))) lk_RX6_230 (by decide) rfl rfl (SF.ob Xh83) ⟨_, rfl, rfl⟩ (Nat.le_of_ble_eq_true rfl) eX6_readSum_72 (fun h100 e99 => ?_)
              obtain ⟨Xh100, Fh100⟩ := e99
              refine q_blk (lv2 := [(0, vr t), (1, vi 0), (2, vi 0), (3, vi (i + 1)), (4, vi (kd e9))]) (st2 := []) kX6_readSum_75 rfl ?_
              refine q_goto (tgt := 8) eX6_readSum_78 (by decide) ?_
              refine q_sub (lv2 := [(0, vr t), (1, vi 0), (2, vi 0), (3, vi (i + 1))]) [0, 1, 2, 3] rfl ?_
              exact ih67 0 (i + 1) h100 L 0 0 cd (⟨⟨by omega, by omega⟩, hfr.tr (((am_fr.rf.tr (am_fr.st e75 (by omega) (by omega))).tr Fh83).tr Fh100), Or.inr ⟨rfl, _, _, hJ9.symm.trans (rJ_no (by omega) (by omega) qh83), Xh100⟩⟩) (by omega)
        · skip
          refine q_blk (lv2 := [(0, vr t), (1, vi 0), (2, vi g), (3, vi i), (4, vi (kd e9))]) (st2 := [vi 45, vi (kd e9)]) kX6_readSum_32 rfl ?_
          refine AQ.ic_eq (tgt := 41) eX6_readSum_36 (by decide) (by first | assumption | exact ⟨by omega, by omega⟩) ⟨by decide, by decide⟩ (fun br101 => ?_) (fun br101 => ?_)
          · skip
            refine q_blk (lv2 := [(0, vr t), (1, vi 0), (2, vi g), (3, vi i), (4, vi (kd e9))]) (st2 := [vr t, vr t]) kX6_readSum_41 rfl ?_
            refine q_gi eX6_readSum_43 fl_RX6_28 (Or.inl rfl) w0 (z := e9) rfl ?_
            refine q_blk (lv2 := [(0, vr t), (1, vi 0), (2, vi g), (3, vi i), (4, vi (kd e9))]) (st2 := [vi (e9 + 1), vr t]) kX6_readSum_46 rfl ?_
            refine q_pi eX6_readSum_48 fl_RX6_28 (fun q hq => by cases hq; exact Or.inl rfl) (Or.inl rfl) w0 (Nat.le_of_ble_eq_true rfl) (l2 := [0, 0, 0, 0, 0, 0, 0, wt, (e9 + 1), v9, px, (L9.length : Int), hs, er, ea]) rfl (fun h102 e103 => ?_)
            have k104 := am_at e103
            have k105 := (am_ne e103 (t + 1) (by omega)).trans w1
            have k106 := (am_ne e103 (t + 2) (by omega)).trans w2
            have k107 := (am_ne e103 (t + 3) (by omega)).trans w3
            have k108 := (am_ne e103 (t + 4) (by omega)).trans w4
            refine q_blk (lv2 := [(0, vr t), (1, vi 0), (2, vi g), (3, vi i), (4, vi (kd e9))]) (st2 := [vi 0, vr t]) kX6_readSum_51 rfl ?_
            refine AQ.callVi (av := [vi 0]) (st := []) (c_X6_readTerm0 (L := L9) ⟨_, k104, k105, k106, k107, k108⟩ n0 kn (by omega) (by omega) kr vq hL9 (by omega)) lk_RX6_227 (by decide) rfl rfl ⟨_, _, _, k104⟩ ⟨_, rfl, rfl⟩ (Nat.le_of_ble_eq_true rfl) eX6_readSum_53 (fun z109 h111 e110 => ?_)
            rcases e110 with ⟨⟨rfl, Lh111, hh111e, qh111, ⟨bh111a, bh111b, bh111c⟩, hh111n, hh111c, Xh111, Ch111⟩ | ⟨rfl, eh111, ah111, qh111, Xh111⟩, Fh111⟩
            · skip
              obtain ⟨g112t, g1120, g1121, g1122, g1123, g1124⟩ := id Xh111
              refine q_blk (lv2 := [(0, vr t), (1, vi 0), (2, vi 1), (3, vi i), (4, vi (kd e9))]) (st2 := [vi 43, vi (kd e9), vr t]) kX6_readSum_56 rfl ?_
              refine AQ.ic_ne (tgt := 70) eX6_readSum_62 (by decide) (by first | assumption | exact ⟨by omega, by omega⟩) ⟨by decide, by decide⟩ (fun br113 => ?_) (fun br113 => ?_)
              · skip
                refine q_blk (lv2 := [(0, vr t), (1, vi 0), (2, vi 1), (3, vi i), (4, vi (kd e9))]) (st2 := [vi (-7), vr t]) kX6_readSum_70 rfl ?_
                refine AQ.callVv (av := [vi (-7)]) (st := []) (c_X6_addCode (v := (-7)) ⟨_, g1120, g1121, g1122, g1123, g1124⟩ (by omega) (by omega)) lk_RX6_230 (by decide) rfl rfl ⟨_, _, _, g1120⟩ ⟨_, rfl, rfl⟩ (Nat.le_of_ble_eq_true rfl) eX6_readSum_72 (fun h116 e115 => ?_)
                obtain ⟨Xh116, Fh116⟩ := e115
                obtain ⟨g117t, g1170, g1171, g1172, g1173, g1174⟩ := id Xh116
                refine q_blk (lv2 := [(0, vr t), (1, vi 0), (2, vi 1), (3, vi (i + 1)), (4, vi (kd e9))]) (st2 := []) kX6_readSum_75 rfl ?_
                refine q_goto (tgt := 8) eX6_readSum_78 (by decide) ?_
                refine q_sub (lv2 := [(0, vr t), (1, vi 0), (2, vi 1), (3, vi (i + 1))]) [0, 1, 2, 3] rfl ?_
                exact ih67 1 (i + 1) h116 (Lh111 ++ [(3, 0)]) hh111e hh111n (am_uI hh111c (Lh111.length : Int) (-7)) (⟨⟨by omega, by omega⟩, hfr.tr (((am_fr.rf.tr (am_fr.st e103 (by omega) (by omega))).tr Fh111).tr Fh116), Or.inl ⟨rfl, ⟨by omega, by omega, by simp; omega⟩, by rw [show 800 - (i + 1).toNat = 800 - i.toNat - 1 by omega]; exact (rJ_go (o := 3) (by omega) (by omega) qh111).symm.trans hJ9, Ch111.add (by unfold gm_en; simp), SU.cast ⟨_, g1170, g1171, g1172, g1173, g1174⟩ (by simp)⟩⟩) (by omega)
              · skip
                refine q_blk (lv2 := [(0, vr t), (1, vi 0), (2, vi 1), (3, vi i), (4, vi (kd e9))]) (st2 := [vi (-6), vr t]) kX6_readSum_65 rfl ?_
                refine q_goto (tgt := 72) eX6_readSum_67 (by decide) ?_
                refine AQ.callVv (av := [vi (-6)]) (st := []) (c_X6_addCode (v := (-6)) ⟨_, g1120, g1121, g1122, g1123, g1124⟩ (by omega) (by omega)) lk_RX6_230 (by decide) rfl rfl ⟨_, _, _, g1120⟩ ⟨_, rfl, rfl⟩ (Nat.le_of_ble_eq_true rfl) eX6_readSum_72 (fun h120 e119 => ?_)
                obtain ⟨Xh120, Fh120⟩ := e119
                obtain ⟨g121t, g1210, g1211, g1212, g1213, g1214⟩ := id Xh120
                refine q_blk (lv2 := [(0, vr t), (1, vi 0), (2, vi 1), (3, vi (i + 1)), (4, vi (kd e9))]) (st2 := []) kX6_readSum_75 rfl ?_
                refine q_goto (tgt := 8) eX6_readSum_78 (by decide) ?_
                refine q_sub (lv2 := [(0, vr t), (1, vi 0), (2, vi 1), (3, vi (i + 1))]) [0, 1, 2, 3] rfl ?_
                exact ih67 1 (i + 1) h120 (Lh111 ++ [(2, 0)]) hh111e hh111n (am_uI hh111c (Lh111.length : Int) (-6)) (⟨⟨by omega, by omega⟩, hfr.tr (((am_fr.rf.tr (am_fr.st e103 (by omega) (by omega))).tr Fh111).tr Fh120), Or.inl ⟨rfl, ⟨by omega, by omega, by simp; omega⟩, by rw [show 800 - (i + 1).toNat = 800 - i.toNat - 1 by omega]; exact (rJ_go (o := 2) (by omega) (by omega) qh111).symm.trans hJ9, Ch111.add (by unfold gm_en; simp), SU.cast ⟨_, g1210, g1211, g1212, g1213, g1214⟩ (by simp)⟩⟩) (by omega)
            · skip
              refine q_blk (lv2 := [(0, vr t), (1, vi 0), (2, vi 0), (3, vi i), (4, vi (kd e9))]) (st2 := [vi 43, vi (kd e9), vr t]) kX6_readSum_56 rfl ?_
              refine AQ.ic_ne (tgt := 70) eX6_readSum_62 (by decide) (by first | assumption | exact ⟨by omega, by omega⟩) ⟨by decide, by decide⟩ (fun br122 => ?_) (fun br122 => ?_)
              · skip
                refine q_blk (lv2 := [(0, vr t), (1, vi 0), (2, vi 0), (3, vi i), (4, vi (kd e9))]) (st2 := [vi (-7), vr t]) kX6_readSum_70 rfl ?_
                refine AQ.callVv (av := [vi (-7)]) (st := []) (c_X6_addCodeF Xh111 (v := (-7))) lk_RX6_230 (by decide) rfl rfl (SF.ob Xh111) ⟨_, rfl, rfl⟩ (Nat.le_of_ble_eq_true rfl) eX6_readSum_72 (fun h125 e124 => ?_)
                obtain ⟨Xh125, Fh125⟩ := e124
                refine q_blk (lv2 := [(0, vr t), (1, vi 0), (2, vi 0), (3, vi (i + 1)), (4, vi (kd e9))]) (st2 := []) kX6_readSum_75 rfl ?_
                refine q_goto (tgt := 8) eX6_readSum_78 (by decide) ?_
                refine q_sub (lv2 := [(0, vr t), (1, vi 0), (2, vi 0), (3, vi (i + 1))]) [0, 1, 2, 3] rfl ?_
                exact ih67 0 (i + 1) h125 L 0 0 cd (⟨⟨by omega, by omega⟩, hfr.tr (((am_fr.rf.tr (am_fr.st e103 (by omega) (by omega))).tr Fh111).tr Fh125), Or.inr ⟨rfl, _, _, hJ9.symm.trans (rJ_no (by omega) (by omega) qh111), Xh125⟩⟩) (by omega)
              · skip
                refine q_blk (lv2 := [(0, vr t), (1, vi 0), (2, vi 0), (3, vi i), (4, vi (kd e9))]) (st2 := [vi (-6), vr t]) kX6_readSum_65 rfl ?_
                refine q_goto (tgt := 72) eX6_readSum_67 (by decide) ?_
                refine AQ.callVv (av := [vi (-6)]) (st := []) (c_X6_addCodeF Xh111 (v := (-6))) lk_RX6_230 (by decide) rfl rfl (SF.ob Xh111) ⟨_, rfl, rfl⟩ (Nat.le_of_ble_eq_true rfl) eX6_readSum_72 (fun h128 e127 => ?_)
                obtain ⟨Xh128, Fh128⟩ := e127
                refine q_blk (lv2 := [(0, vr t), (1, vi 0), (2, vi 0), (3, vi (i + 1)), (4, vi (kd e9))]) (st2 := []) kX6_readSum_75 rfl ?_
                refine q_goto (tgt := 8) eX6_readSum_78 (by decide) ?_
                refine q_sub (lv2 := [(0, vr t), (1, vi 0), (2, vi 0), (3, vi (i + 1))]) [0, 1, 2, 3] rfl ?_
                exact ih67 0 (i + 1) h128 L 0 0 cd (⟨⟨by omega, by omega⟩, hfr.tr (((am_fr.rf.tr (am_fr.st e103 (by omega) (by omega))).tr Fh111).tr Fh128), Or.inr ⟨rfl, _, _, hJ9.symm.trans (rJ_no (by omega) (by omega) qh111), Xh128⟩⟩) (by omega)
          · skip
            refine q_blk (lv2 := [(0, vr t), (1, vi 0), (2, vi g), (3, vi i), (4, vi (kd e9))]) (st2 := [vi 1]) kX6_readSum_39 rfl ?_
            exact q_rz rfl eX6_readSum_40 (by decide) ⟨1, rfl, Or.inl ⟨rfl, L9, e9, hJ9.symm.trans (rJ_end (Or.inr ⟨by omega, by omega⟩)), ⟨by omega, by omega, by omega⟩, _, _, ⟨_, w0, w1, w2, w3, w4⟩, hL9⟩, hfr.tr am_fr.rf⟩
