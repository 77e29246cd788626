/-! CornerClaims$Setup: the reading of a text. -/
theorem rB_i {A B : Type} {a : (Int × Int) ⊕ A} {f : A → (Int × Int) ⊕ B} {y : B} (h : rB a f = .inr y) : ∃ x, a = .inr x ∧ f x = .inr y := by
  cases a with
  | inl e => cases h
  | inr x => exact ⟨x, rfl, h⟩
theorem rT_i {kd st : Int → Int} {k he : Int} {u : Unit} (h : rT kd st k he = .inr u) : kd he = k := by
  unfold rT at h
  split at h
  · assumption
  · cases h
theorem gm_ite_i {A B : Type} {P : Prop} {e : A} {b : A ⊕ B} {y : B} (h : gm_ite P (.inl e) b = .inr y) : ¬ P ∧ b = .inr y := by
  by_cases c : P
  · rw [gm_ite_t c] at h; cases h
  · rw [gm_ite_f c] at h; exact ⟨c, h⟩
theorem gm_ite_j {A B : Type} {P : Prop} {e : A} {b : A ⊕ B} {y : B} (h : gm_ite P b (.inl e) = .inr y) : P ∧ b = .inr y := by
  by_cases c : P
  · rw [gm_ite_t c] at h; exact ⟨c, h⟩
  · rw [gm_ite_f c] at h; cases h
theorem rF_i {kd st vl : Int → Int} {x y n : Int} (n0 : 0 ≤ n) (kn : kd n = 0) (h : rF kd st vl = .inr (x, y)) : (2 ≤ x ∧ x ≤ 30) ∧ (2 ≤ y ∧ y ≤ 30) ∧ 4 ≤ n := by
  unfold rF at h
  obtain ⟨u1, h1, h⟩ := rB_i h
  obtain ⟨x', h2, h⟩ := rB_i h
  obtain ⟨y', h3, h⟩ := rB_i h
  obtain ⟨u2, h4, h⟩ := rB_i h
  cases h
  have h1 := rT_i h1
  have h2 := rN_r h2
  have h3 := rN_r h3
  have h4 := rT_i h4
  refine ⟨h2.2.2, h3.2.2, ?_⟩
  have a0 : n ≠ 0 := fun e => by rw [e] at kn; omega
  have a1 : n ≠ 1 := fun e => by rw [e] at kn; omega
  have a2 : n ≠ 2 := fun e => by rw [e] at kn; omega
  have a3 : n ≠ 3 := fun e => by rw [e] at kn; omega
  omega
theorem gm_emp_vd {x y : Int} (hx : 2 ≤ x ∧ x ≤ 30) (hy : 2 ≤ y ∧ y ≤ 30) : VD (gm_emp x y) :=
  ⟨hx, hy, ⟨by show (0 : Int) ≤ 0; decide, by show (0 : Int) ≤ 20; decide⟩, ⟨by show (0 : Int) ≤ 0; decide, by show (0 : Int) ≤ 6; decide⟩, fun k k0 k1 => absurd k1 (by show ¬ k < 0; omega), fun k k0 k1 => absurd k1 (by show ¬ k < 0; omega)⟩
theorem gm_emp_ve {x y : Int} : VE (gm_emp x y) := fun p k m p0 p1 => absurd p1 (by show ¬ p < 0; omega)
theorem rS_i {kd st vl D D' : Int → Int} {he n : Int} (hD : VD D) (hE : VE D) (kn : kd n = 0) (he1 : he ≤ n) (hk : kd he ≠ 0) (h : rS kd st vl D he = .inr D') : VD D' ∧ VE D' ∧ he + 5 ≤ n := by
  unfold rS at h
  split at h
  · rename_i c
    obtain ⟨⟨x, y⟩, h1, h⟩ := rB_i h
    obtain ⟨-, h⟩ := gm_ite_i h
    obtain ⟨v, h2, h⟩ := rB_i h
    obtain ⟨u, h3, h⟩ := rB_i h
    cases h
    obtain ⟨p1, p2, p3, p4, p5, p6⟩ := rP_r h1
    have h2 := rN_r h2
    have h3 := rT_i h3
    refine ⟨gm_addS_vd hD c p5 p6 h2.2.2, gm_addS_ve hD hE c, ?_⟩
    have a0 : he ≠ n := fun e => by rw [e] at hk; omega
    have a1 : he + 1 ≠ n := fun e => by rw [e] at p1; omega
    have a2 : he + 1 + 1 ≠ n := fun e => by rw [e] at p2; omega
    have a3 : he + 1 + 1 + 1 ≠ n := fun e => by rw [e] at h2; omega
    have a4 : he + 1 + 1 + 1 + 1 ≠ n := fun e => by rw [e] at h3; omega
    omega
  · cases h
theorem rK_i {kd st vl : Int → Int} {p n : Int} (kn : kd n = 0) : ∀ {f : Nat} {D D' : Int → Int} {he he' : Int}, VD D → VE D → 0 ≤ p → p < D 3 → he ≤ n → rK kd st vl p f D he = .inr (D', he') → VD D' ∧ VE D' ∧ he ≤ he' ∧ he' ≤ n ∧ D' 3 = D 3
  | 0, D, D', he, he', hD, hE, p0, p1, he1, h => by cases h; exact ⟨hD, hE, by omega, he1, rfl⟩
  | f + 1, D, D', he, he', hD, hE, p0, p1, he1, h => by
    unfold rK at h
    split at h
    · rename_i c
      obtain ⟨⟨x, y⟩, h1, h⟩ := rB_i h
      obtain ⟨hr, h⟩ := gm_ite_j h
      obtain ⟨q1, q2, q3, q4, q5, q6⟩ := rP_r h1
      have r0 := gm_rC_0 hr
      have a0 : he ≠ n := fun e => by rw [e] at q1; omega
      have a1 : he + 1 ≠ n := fun e => by rw [e] at q2; omega
      have t3 : (gm_adC D p x y) 3 = D 3 := gm_setP_o (by omega)
      obtain ⟨g1, g2, g3, g4, g5⟩ := rK_i kn (gm_adC_vd hD p0 p1 r0.1 r0.2.1 q5 q6) (gm_adC_ve hD hE p0 p1 r0.2.1 r0.2.2) p0 (by rw [t3]; exact p1) (by omega) h
      exact ⟨g1, g2, by omega, g4, g5.trans t3⟩
    · cases h; exact ⟨hD, hE, by omega, he1, rfl⟩
theorem rG_i {kd st vl D D' : Int → Int} {he he' n : Int} (hD : VD D) (hE : VE D) (kn : kd n = 0) (he1 : he ≤ n) (hk : kd he ≠ 0) (h : rG kd st vl D he = .inr (D', he')) : VD D' ∧ VE D' ∧ he < he' ∧ he' ≤ n := by
  unfold rG at h
  split at h
  · rename_i c
    obtain ⟨o, h1, h⟩ := rB_i h
    obtain ⟨⟨x, y⟩, h2, h⟩ := rB_i h
    obtain ⟨hoc, h⟩ := gm_ite_i h
    obtain ⟨⟨D2, e2⟩, h3, h⟩ := rB_i h
    obtain ⟨p1, p2, p3, p4, p5, p6⟩ := rP_r h2
    have h1 := rN_r h1
    have a0 : he ≠ n := fun e => by rw [e] at hk; omega
    have a1 : he + 1 ≠ n := fun e => by rw [e] at h1; omega
    have a2 : he + 1 + 1 ≠ n := fun e => by rw [e] at p1; omega
    have a3 : he + 1 + 1 + 1 ≠ n := fun e => by rw [e] at p2; omega
    have d3 := hD.2.2.2.1
    have t3 : (gm_stP D o x y) 3 = D 3 + 1 := am_uI_at _ _ _
    obtain ⟨g1, g2, g3, g4, g5⟩ := rK_i kn (gm_stP_vd hD c h1.2.2 p5 p6) (gm_stP_ve hD hE c) d3.1 (by omega) (by omega) h3
    split at h
    · rename_i k59
      obtain ⟨hr, h⟩ := gm_ite_j h
      cases h
      have r0 := gm_rL_0 hr
      have a4 : e2 ≠ n := fun e => by rw [e, kn] at k59; cases k59
      exact ⟨gm_clP_vd g1 d3.1 (by omega) r0.2, gm_clP_ve g1 g2 d3.1 (by omega), by omega, by omega⟩
    · cases h
  · cases h
/-- a piece of code, from so many on the stack to so many -/
def gm_wx : GL → Nat → Nat → Prop
  | [], d, e => d = e
  | o :: r, d, e => gm_ok o ∧ ((o.1 ≤ 1 ∧ d < 16 ∧ gm_wx r (d + 1) e) ∨ (2 ≤ o.1 ∧ 2 ≤ d ∧ gm_wx r (d - 1) e))
theorem gm_wx_wf : ∀ {L : GL} {d : Nat}, gm_wx L d 1 → gm_wf L d
  | [], _, h => h
  | _ :: _, _, ⟨h1, h2⟩ => ⟨h1, h2.imp (fun q => ⟨q.1, q.2.1, gm_wx_wf q.2.2⟩) (fun q => ⟨q.1, q.2.1, gm_wx_wf q.2.2⟩)⟩
theorem gm_wx_app : ∀ {A B : GL} {d e f : Nat}, gm_wx A d e → gm_wx B e f → gm_wx (A ++ B) d f
  | [], _, _, _, _, h, k => by cases h; exact k
  | _ :: _, _, _, _, _, ⟨h1, h2⟩, k => ⟨h1, h2.imp (fun q => ⟨q.1, q.2.1, gm_wx_app q.2.2 k⟩) (fun q => ⟨q.1, q.2.1, gm_wx_app q.2.2 k⟩)⟩
section WRS
variable {kd st vl : Int → Int} {n : Int}
/-- what a reader of a piece adds: code that leaves one more on the stack, within s more -/
def WR (n : Int) (f : GL → Int → GRL) (s : Nat) : Prop := ∀ L he L' he', 0 ≤ he → he ≤ n → f L he = .inr (L', he') → (he ≤ he' ∧ he' ≤ n) ∧ ∃ X, L' = L ++ X ∧ ∀ d, d + s ≤ 16 → gm_wx X d (d + 1)
theorem rA_w (n0 : n ≤ 800) (kn : kd n = 0) (kr : ∀ i, 0 ≤ i → i < 801 → -5 ≤ kd i ∧ kd i ≤ 100) (vq : ∀ i, 0 ≤ i → i < 801 → 0 ≤ vl i ∧ vl i ≤ 10000) {s : Option (GL → Int → GRL)} {k : Nat} (k1 : 1 ≤ k) (hs : ∀ g, s = some g → WR n g k) : WR n (rA kd st vl s) k := by
  intro L he L' he' h0 h1 h
  unfold rA at h
  split at h
  · rename_i c
    have a0 : he ≠ n := fun e => by rw [e, kn] at c; cases c
    split at h
    · cases h
    · rename_i g
      obtain ⟨⟨L1, e1⟩, q1, h⟩ := rB_i h
      obtain ⟨_, q2, h⟩ := rB_i h
      cases h
      obtain ⟨⟨b1, b2⟩, X, rfl, b3⟩ := hs g rfl L (he + 1) L1 e1 (by omega) (by omega) q1
      have q2 := rT_i q2
      have a1 : e1 ≠ n := fun e => by rw [e, kn] at q2; cases q2
      exact ⟨⟨by omega, by omega⟩, X, rfl, b3⟩
  · split at h
    · rename_i c
      cases h
      have a0 : he ≠ n := fun e => by rw [e, kn] at c; omega
      have := kr he h0 (by omega)
      exact ⟨⟨by omega, by omega⟩, _, rfl, fun d hd => ⟨Or.inr (Or.inl ⟨rfl, by show 0 ≤ -1 - kd he; omega, by show -1 - kd he ≤ 4; omega⟩), Or.inl ⟨by show (1 : Int) ≤ 1; omega, by omega, rfl⟩⟩⟩
    · split at h
      · rename_i c
        have a0 : he ≠ n := fun e => by rw [e, kn] at c; cases c
        have := vq he h0 (by omega)
        split at h
        · cases h
          exact ⟨⟨by omega, by omega⟩, _, rfl, fun d hd => ⟨Or.inl ⟨rfl, this.1, by show vl he ≤ 9999; assumption⟩, Or.inl ⟨by show (0 : Int) ≤ 1; omega, by omega, rfl⟩⟩⟩
        · cases h
      · cases h
theorem rJ_w (kn : kd n = 0) {f : GL → Int → GRL} {k : Nat} (hf : WR n f k) {a b oa ob : Int} (ha : a ≠ 0) (hb : b ≠ 0) (hoa : 2 ≤ oa ∧ oa ≤ 5) (hob : 2 ≤ ob ∧ ob ≤ 5) : ∀ (m : Nat) (L : GL) (he : Int) (L' : GL) (he' : Int), 0 ≤ he → he ≤ n → rJ kd f a b oa ob m L he = .inr (L', he') → (he ≤ he' ∧ he' ≤ n) ∧ ∃ X, L' = L ++ X ∧ ∀ d, 1 ≤ d → d + k ≤ 16 → gm_wx X d d
  | 0, L, he, L', he', h0, h1, h => by
    cases h
    exact ⟨⟨Int.le_refl _, h1⟩, [], (List.append_nil _).symm, fun d _ _ => rfl⟩
  | m + 1, L, he, L', he', h0, h1, h => by
    have one : ∀ (o : Int), 2 ≤ o ∧ o ≤ 5 → kd he ≠ 0 → rB (f L (he + 1)) (fun r => rJ kd f a b oa ob m (r.1 ++ [(o, 0)]) r.2) = .inr (L', he') → (he ≤ he' ∧ he' ≤ n) ∧ ∃ X, L' = L ++ X ∧ ∀ d, 1 ≤ d → d + k ≤ 16 → gm_wx X d d := by
      intro o ho hk h
      have a0 : he ≠ n := fun e => by rw [e] at hk; exact hk kn
      obtain ⟨⟨L1, e1⟩, q1, h⟩ := rB_i h
      obtain ⟨⟨b1, b2⟩, X, rfl, b3⟩ := hf L (he + 1) L1 e1 (by omega) (by omega) q1
      obtain ⟨⟨c1, c2⟩, Y, hY, c3⟩ := rJ_w kn hf ha hb hoa hob m _ _ L' he' (by omega) b2 h
      exact ⟨⟨by omega, c2⟩, X ++ ((o, 0) :: Y), by rw [hY]; simp, fun d d1 d2 => gm_wx_app (b3 d d2) ⟨Or.inr (Or.inr ho), Or.inr ⟨ho.1, by omega, by rw [show d + 1 - 1 = d by omega]; exact c3 d d1 d2⟩⟩⟩
    unfold rJ at h
    split at h
    · exact one oa hoa (by omega) h
    · split at h
      · exact one ob hob (by omega) h
      · cases h
        exact ⟨⟨Int.le_refl _, h1⟩, [], (List.append_nil _).symm, fun d _ _ => rfl⟩
theorem rB_w (kn : kd n = 0) {f g : GL → Int → GRL} {k : Nat} (hf : WR n f k) {a b oa ob : Int} (ha : a ≠ 0) (hb : b ≠ 0) (hoa : 2 ≤ oa ∧ oa ≤ 5) (hob : 2 ≤ ob ∧ ob ≤ 5) {m : Nat} (hg : ∀ L he, g L he = rB (f L he) (fun r => rJ kd f a b oa ob m r.1 r.2)) : WR n g (k + 1) := by
  intro L he L' he' h0 h1 h
  rw [hg] at h
  obtain ⟨⟨L1, e1⟩, q1, h⟩ := rB_i h
  obtain ⟨⟨b1, b2⟩, X, rfl, b3⟩ := hf L he L1 e1 h0 h1 q1
  obtain ⟨⟨c1, c2⟩, Y, rfl, c3⟩ := rJ_w kn hf ha hb hoa hob m _ _ L' he' (by omega) b2 h
  exact ⟨⟨by omega, c2⟩, X ++ Y, by simp, fun d d2 => gm_wx_app (b3 d (by omega)) (c3 (d + 1) (by omega) (by omega))⟩
theorem rU_w (n0 : n ≤ 800) (kn : kd n = 0) (kr : ∀ i, 0 ≤ i → i < 801 → -5 ≤ kd i ∧ kd i ≤ 100) (vq : ∀ i, 0 ≤ i → i < 801 → 0 ≤ vl i ∧ vl i ≤ 10000) : ∀ m : Nat, WR n (rU kd st vl m) (3 + 2 * m)
  | 0 => rB_w kn (rB_w kn (rA_w (st := st) n0 kn kr vq (s := none) (Nat.le_refl 1) (fun g e => by cases e)) (a := 42) (b := 47) (oa := 4) (ob := 5) (g := rM kd st vl none) (by decide) (by decide) (by decide) (by decide) (fun _ _ => rfl)) (a := 43) (b := 45) (oa := 2) (ob := 3) (by decide) (by decide) (by decide) (by decide) (fun _ _ => rfl)
  | m + 1 => by
    have := rB_w kn (rB_w kn (rA_w (st := st) n0 kn kr vq (s := some (rU kd st vl m)) (k := 3 + 2 * m) (by omega) (fun g e => by cases e; exact rU_w n0 kn kr vq m)) (a := 42) (b := 47) (oa := 4) (ob := 5) (g := rM kd st vl (some (rU kd st vl m))) (by decide) (by decide) (by decide) (by decide) (fun _ _ => rfl)) (a := 43) (b := 45) (oa := 2) (ob := 3) (g := rU kd st vl (m + 1)) (by decide) (by decide) (by decide) (by decide) (fun _ _ => rfl)
    exact this
theorem rW_w (n0 : n ≤ 800) (kn : kd n = 0) (kr : ∀ i, 0 ≤ i → i < 801 → -5 ≤ kd i ∧ kd i ≤ 100) (vq : ∀ i, 0 ≤ i → i < 801 → 0 ≤ vl i ∧ vl i ≤ 10000) {hs he : Int} {L : GL} {he' : Int} (h0 : 0 ≤ he) (h1 : he < n) (h : rW kd st vl hs he = .inr (L, he')) : gm_wf L 0 := by
  unfold rW at h
  split at h
  · obtain ⟨⟨L1, e1⟩, q1, h⟩ := rB_i h
    obtain ⟨_, q2, h⟩ := rB_i h
    cases h
    obtain ⟨-, X, rfl, b3⟩ := rU_w n0 kn kr vq 4 [] (he + 1) L1 e1 (by omega) (by omega) q1
    exact gm_wx_wf (b3 0 (by decide))
  · cases h
end WRS
/-- the statements after the field's, one after the other -/
noncomputable def rR (kd st vl : Int → Int) : Nat → (Int → Int) → Option GL → Int → (Int × Int) ⊕ ((Int → Int) × Option GL)
  | 0, D, L, _ => .inr (D, L)
  | f + 1, D, L, he => if kd he = 0 then .inr (D, L) else if kd he = 4 then rB (rS kd st vl D he) (fun D' => rR kd st vl f D' L (he + 1 + 1 + 1 + 1 + 1)) else if kd he = 5 then rB (rG kd st vl D he) (fun r => rR kd st vl f r.1 L r.2) else if kd he = 6 then rB (rW kd st vl (if L.isSome then 1 else 0) he) (fun r => rR kd st vl f D (some r.1) r.2) else .inl (-2, st he)
noncomputable def rD (kd st vl : Int → Int) : (Int × Int) ⊕ ((Int → Int) × Option GL) := rB (rF kd st vl) fun q => rR kd st vl 800 (gm_emp q.1 q.2) none 4
theorem rR_e {kd st vl : Int → Int} {f : Nat} {D : Int → Int} {L : Option GL} {he : Int} (h : f = 0 ∨ kd he = 0) : rR kd st vl f D L he = .inr (D, L) := by
  cases f with
  | zero => rfl
  | succ f => exact if_pos (by omega)
/-- so many cells made, the rest as am_f3 -/
def am_gn (n : Nat) (h h1 : AH) (t b : Nat) : Prop := (h.2.1 ≤ h1.2.1 ∧ h1.2.1 ≤ h.2.1 + n ∧ h.2.2 ≤ h1.2.2 ∧ h1.2.2 ≤ h.2.2 + 800 * n) ∧ ∀ q, q < h.2.1 → ¬ (t ≤ q ∧ q < t + 7) → ¬ (b ≤ q ∧ q < b + 24) → h1.1 q = h.1 q
theorem am_gn.f3 {n : Nat} {h h1 h2 : AH} {t b : Nat} (g : am_gn n h h1 t b) (f : am_f3 h1 h2 t b (t + 2)) : am_gn n h h2 t b := ⟨by rw [f.1]; exact g.1, fun q q0 q1 q2 => (f.2 q q1 q2 (by omega)).trans (g.2 q q0 q1 q2)⟩
theorem am_gn.g2 {n : Nat} {h h1 h2 : AH} {t b : Nat} (g : am_gn n h h1 t b) (f : am_g2 h1 h2 t b) : am_gn (n + 1) h h2 t b := by
  obtain ⟨⟨a1, a2, a3, a4⟩, a5⟩ := g
  obtain ⟨⟨b1, b2, b3, b4⟩, b5⟩ := f
  exact ⟨⟨by omega, by omega, by omega, Nat.le_trans b4 (Nat.le_trans (Nat.add_le_add_right a4 800) (Nat.le_of_eq (by rw [Nat.mul_add, Nat.mul_one, Nat.add_assoc])))⟩, fun q q0 q1 q2 => (b5 q (by omega) q1 q2).trans (a5 q q0 q1 q2)⟩
theorem am_gn.mo {n m : Nat} {h h1 : AH} {t b : Nat} (g : am_gn n h h1 t b) (k : n ≤ m) : am_gn m h h1 t b := by
  obtain ⟨⟨a1, a2, a3, a4⟩, a5⟩ := g
  exact ⟨⟨a1, by omega, a3, by omega⟩, a5⟩
def SCL (w : am_w) (h hh : AH) (sc : Nat) (L : Option GL) : Prop := match L with
  | none => sc = w.2 100
  | some l => h.2.1 ≤ sc ∧ sc < hh.2.1 ∧ CD hh sc l ∧ gm_wf l 0
theorem SCL.kept {w : am_w} {h hh h2 : AH} {sc t b : Nat} {L : Option GL} (k : SCL w h hh sc L) (g : hh.2.1 ≤ h2.2.1) (f : ∀ q, h.2.1 ≤ q → q < hh.2.1 → h2.1 q = hh.1 q) : SCL w h h2 sc L := by
  cases L with
  | none => exact k
  | some l =>
    obtain ⟨k1, k2, ⟨ci, f9, g9, c0, c1, c2⟩, k3⟩ := k
    exact ⟨k1, by omega, ⟨ci, f9, g9, c0, (f _ k1 k2).trans c1, c2⟩, k3⟩
abbrev gm_hs (L : Option GL) : Int := if L.isSome then 1 else 0
def RGS (w : am_w) (h hh : AH) (t u b j : Nat) (kd st vl : Int → Int) (res : (Int × Int) ⊕ ((Int → Int) × Option GL)) (n : Int) (f : Nat) (D : Int → Int) (L : Option GL) (e9 : Int) (sc : Nat) (nu px cl : Int) (cd cm : Int → Int) : Prop :=
  res = rR kd st vl f D L e9 ∧ (0 ≤ e9 ∧ e9 ≤ n) ∧ VD D ∧ VE D ∧ SU hh t u b j kd st vl e9 nu px cl (gm_hs L) 0 (-1) cd ∧ (0 ≤ cl ∧ cl ≤ 800) ∧ BD hh b D cm sc ∧ SCL w h hh sc L ∧ am_gn (if L.isSome then 1 else 0) h hh t b
def RBS (h hh : AH) (t u b j : Nat) (kd st vl : Int → Int) (res : (Int × Int) ⊕ ((Int → Int) × Option GL)) : Prop := ∃ e a, res = .inl (e, a) ∧ SF hh t u b j kd st vl e a ∧ BA hh b ∧ am_gn 2 h hh t b
def RI (w : am_w) (h hh : AH) (t u b j : Nat) (kd st vl : Int → Int) (res : (Int × Int) ⊕ ((Int → Int) × Option GL)) (n : Int) (f : Nat) (g : Int) : Prop :=
  (g = 1 ∧ ∃ D L e9 sc nu px cl cd cm, RGS w h hh t u b j kd st vl res n f D L e9 sc nu px cl cd cm) ∨ (g = 0 ∧ RBS h hh t u b j kd st vl res)
section RIS
variable {w : am_w} {h hh h2 : AH} {t u b j : Nat} {kd st vl : Int → Int} {res : (Int × Int) ⊕ ((Int → Int) × Option GL)} {n : Int} {f : Nat} {D : Int → Int} {L : Option GL} {e9 : Int} {sc : Nat} {nu px cl : Int} {cd cm : Int → Int} {z : Int}
theorem gm_hs_le : (if L.isSome then 1 else 0) ≤ 2 := by split <;> decide
theorem RGS.stone (g : RGS w h hh t u b j kd st vl res n (f + 1) D L e9 sc nu px cl cd cm) (kn : kd n = 0) (hk : kd e9 = 4) (ht : t + 7 ≤ h.2.1) (hb : b + 24 ≤ h.2.1)
    (p : ((z = 1 ∧ ∃ D', rS kd st vl D e9 = .inr D' ∧ (∃ nu' px', SU h2 t u b j kd st vl (e9 + 1 + 1 + 1 + 1 + 1) nu' px' cl (gm_hs L) 0 (-1) cd) ∧ BD h2 b D' cm sc) ∨ (z = 0 ∧ ∃ e a, rS kd st vl D e9 = .inl (e, a) ∧ SF h2 t u b j kd st vl e a ∧ BA h2 b)) ∧ am_f3 hh h2 t b (t + 2)) : RI w h h2 t u b j kd st vl res n f z := by
  obtain ⟨g1, g2, g3, g4, g5, g6, g7, g8, g9⟩ := g
  have e1 : res = rB (rS kd st vl D e9) (fun D' => rR kd st vl f D' L (e9 + 1 + 1 + 1 + 1 + 1)) := g1.trans ((if_neg (by omega)).trans (if_pos hk))
  obtain ⟨⟨hz, D', p1, ⟨nu', px', p2⟩, p3⟩ | ⟨hz, e, a, p1, p2, p3⟩, p4⟩ := p
  · obtain ⟨q1, q2, q3⟩ := rS_i g3 g4 kn g2.2 (by omega) p1
    exact Or.inl ⟨hz, D', L, _, sc, nu', px', cl, cd, cm, e1.trans (rB_r p1 _), ⟨by omega, by omega⟩, q1, q2, p2, g6, p3, g8.kept (t := t) (b := b) (by rw [p4.1]; exact Nat.le_refl _) (fun q q0 q1 => p4.2 q (by omega) (by omega) (by omega)), g9.f3 p4⟩
  · exact Or.inr ⟨hz, e, a, e1.trans (rB_l p1 _), p2, p3, (g9.f3 p4).mo gm_hs_le⟩
theorem RGS.poly (g : RGS w h hh t u b j kd st vl res n (f + 1) D L e9 sc nu px cl cd cm) (kn : kd n = 0) (hk : kd e9 = 5) (ht : t + 7 ≤ h.2.1) (hb : b + 24 ≤ h.2.1)
    (p : ((z = 1 ∧ ∃ D' he', rG kd st vl D e9 = .inr (D', he') ∧ (∃ nu' px', SU h2 t u b j kd st vl he' nu' px' cl (gm_hs L) 0 (-1) cd) ∧ BD h2 b D' cm sc) ∨ (z = 0 ∧ ∃ e a, rG kd st vl D e9 = .inl (e, a) ∧ SF h2 t u b j kd st vl e a ∧ BA h2 b)) ∧ am_f3 hh h2 t b (t + 2)) : RI w h h2 t u b j kd st vl res n f z := by
  obtain ⟨g1, g2, g3, g4, g5, g6, g7, g8, g9⟩ := g
  have e1 : res = rB (rG kd st vl D e9) (fun r => rR kd st vl f r.1 L r.2) := g1.trans ((if_neg (by omega)).trans ((if_neg (by omega)).trans (if_pos hk)))
  obtain ⟨⟨hz, D', he', p1, ⟨nu', px', p2⟩, p3⟩ | ⟨hz, e, a, p1, p2, p3⟩, p4⟩ := p
  · obtain ⟨q1, q2, q3, q4⟩ := rG_i g3 g4 kn g2.2 (by omega) p1
    exact Or.inl ⟨hz, D', L, _, sc, nu', px', cl, cd, cm, e1.trans (rB_r p1 _), ⟨by omega, by omega⟩, q1, q2, p2, g6, p3, g8.kept (t := t) (b := b) (by rw [p4.1]; exact Nat.le_refl _) (fun q q0 q1 => p4.2 q (by omega) (by omega) (by omega)), g9.f3 p4⟩
  · exact Or.inr ⟨hz, e, a, e1.trans (rB_l p1 _), p2, p3, (g9.f3 p4).mo gm_hs_le⟩
theorem RGS.score (n0 : n ≤ 800) (kn : kd n = 0) (kr : ∀ i, 0 ≤ i → i < 801 → -5 ≤ kd i ∧ kd i ≤ 100) (vq : ∀ i, 0 ≤ i → i < 801 → 0 ≤ vl i ∧ vl i ≤ 10000) (g : RGS w h hh t u b j kd st vl res n (f + 1) D L e9 sc nu px cl cd cm) (hk : kd e9 = 6) (ht : t + 7 ≤ h.2.1) (hb : b + 24 ≤ h.2.1)
    (p : ((z = 1 ∧ ∃ L' he', rW kd st vl (gm_hs L) e9 = .inr (L', he') ∧ (e9 < he' ∧ he' ≤ n) ∧ (∃ nu' cd', SU h2 t u b j kd st vl he' nu' px (L'.length : Int) 1 0 (-1) cd') ∧ BD h2 b D cm hh.2.1 ∧ CD h2 hh.2.1 L' ∧ h2.2.1 = hh.2.1 + 1) ∨ (z = 0 ∧ ∃ e a, rW kd st vl (gm_hs L) e9 = .inl (e, a) ∧ SF h2 t u b j kd st vl e a ∧ BA h2 b)) ∧ am_g2 hh h2 t b) : RI w h h2 t u b j kd st vl res n f z := by
  obtain ⟨g1, g2, g3, g4, g5, g6, g7, g8, g9⟩ := g
  have e1 : res = rB (rW kd st vl (gm_hs L) e9) (fun r => rR kd st vl f D (some r.1) r.2) := g1.trans ((if_neg (by omega)).trans ((if_neg (by omega)).trans ((if_neg (by omega)).trans (if_pos hk))))
  obtain ⟨⟨hz, L', he', p1, q3, ⟨nu', cd', p2⟩, p3, p5, p6⟩ | ⟨hz, e, a, p1, p2, p3⟩, p4⟩ := p
  · have hL : L.isSome = false := by
      unfold rW at p1
      split at p1
      · rename_i c
        cases L with
        | none => rfl
        | some l => cases c
      · cases p1
    have k : am_gn 1 h h2 t b := by
      have := g9.g2 p4
      rw [hL] at this
      exact this
    have k1 := g9.1.1
    obtain ⟨_, _, _, c0, c1, c2, c3⟩ := id p5
    exact Or.inl ⟨hz, D, some L', he', hh.2.1, nu', px, _, cd', cm, e1.trans (rB_r p1 _), ⟨by omega, by omega⟩, g3, g4, p2, ⟨by omega, by omega⟩, p3, ⟨by omega, by omega, p5, rW_w n0 kn kr vq g2.1 (by omega) p1⟩, k⟩
  · exact Or.inr ⟨hz, e, a, e1.trans (rB_l p1 _), p2, p3, by
      have := g9.g2 p4
      exact this.mo (by split <;> decide)⟩
theorem RGS.bad (g : RGS w h hh t u b j kd st vl res n (f + 1) D L e9 sc nu px cl cd cm) (hk : kd e9 ≠ 0 ∧ (kd e9 < 4 ∨ 6 < kd e9)) (ht : t + 7 ≤ h.2.1) (hb : b + 24 ≤ h.2.1) (hd : t + 7 ≤ b ∨ b + 24 ≤ t)
    (hz : z = 0) (p : SU h2 t u b j kd st vl e9 nu px cl (gm_hs L) (-2) (st e9) cd ∧ am_fr hh h2 t (t + 7)) : RI w h h2 t u b j kd st vl res n f z := by
  obtain ⟨g1, g2, g3, g4, g5, g6, g7, g8, g9⟩ := g
  have d3 := g3.2.2.2.1
  have e1 : res = .inl (-2, st e9) := g1.trans ((if_neg hk.1).trans ((if_neg (by omega)).trans ((if_neg (by omega)).trans (if_neg (by omega)))))
  exact Or.inr ⟨hz, _, _, e1, ⟨_, _, _, _, _, _, p.1, g6⟩, BD.ba (g7.kept p.2 (by omega) (by omega)), (g9.f3 (am_fr.t p.2)).mo gm_hs_le⟩
/-- the reading's end -/
def RE (w : am_w) (h hh : AH) (t u b j : Nat) (kd st vl : Int → Int) (res : (Int × Int) ⊕ ((Int → Int) × Option GL)) (z : Int) : Prop :=
  (z = 1 ∧ ∃ D L e9 sc nu px cl cd cm, res = .inr (D, L) ∧ VD D ∧ VE D ∧ SU hh t u b j kd st vl e9 nu px cl (gm_hs L) 0 (-1) cd ∧ (0 ≤ cl ∧ cl ≤ 800) ∧ BD hh b D cm sc ∧ SCL w h hh sc L ∧ am_gn 2 h hh t b) ∨ (z = 0 ∧ RBS h hh t u b j kd st vl res)
theorem RI.e (g : RI w h hh t u b j kd st vl res n f z) (hf : f = 0) : RE w h hh t u b j kd st vl res z := by
  rcases g with ⟨hz, D, L, e9, sc, nu, px, cl, cd, cm, g1, g2, g3, g4, g5, g6, g7, g8, g9⟩ | g
  · exact Or.inl ⟨hz, D, L, e9, sc, nu, px, cl, cd, cm, g1.trans (rR_e (Or.inl hf)), g3, g4, g5, g6, g7, g8, g9.mo gm_hs_le⟩
  · exact Or.inr g
theorem RGS.e (g : RGS w h hh t u b j kd st vl res n f D L e9 sc nu px cl cd cm) (hk : kd e9 = 0) : RE w h hh t u b j kd st vl res 1 := by
  obtain ⟨g1, g2, g3, g4, g5, g6, g7, g8, g9⟩ := g
  exact Or.inl ⟨rfl, D, L, e9, sc, nu, px, cl, cd, cm, g1.trans (rR_e (Or.inr hk)), g3, g4, g5, g6, g7, g8, g9.mo gm_hs_le⟩
theorem RI.x (g : RI w h hh t u b j kd st vl res n f z) (hz : z = 0) : RE w h hh t u b j kd st vl res z := by
  rcases g with ⟨hz2, -⟩ | g
  · omega
  · exact Or.inr g
end RIS

theorem gm_m800 {s : Int} {f : Nat} (h0 : 0 ≤ s) (hf : 800 - s.toNat = f + 1) : (800 - (s + 1)).toNat < (800 - s).toNat := by omega
theorem gm_n800 {s : Int} {f : Nat} (h0 : 0 ≤ s) (hf : 800 - s.toNat = f + 1) : 800 - (s + 1).toNat = f := by omega
theorem gm_hs_01 (L : Option GL) : gm_hs L = 0 ∨ gm_hs L = 1 := by
  unfold gm_hs; split <;> omega
theorem RI.b {w : am_w} {h hh : AH} {t u b j : Nat} {kd st vl : Int → Int} {res : (Int × Int) ⊕ ((Int → Int) × Option GL)} {n : Int} {f : Nat} {z : Int} (g : RI w h hh t u b j kd st vl res n f z) : z = 0 ∨ z = 1 := by
  rcases g with g | g
  · exact Or.inr g.1
  · exact Or.inl g.1
theorem RI.field {w : am_w} {h hh ha hb h2 : AH} {t u b j : Nat} {kd st vl : Int → Int} {n : Int} {px cl : Int} {cd : Int → Int} {z : Int} (n0 : 0 ≤ n) (kn : kd n = 0) (cl0 : 0 ≤ cl) (cl1 : cl ≤ 800)
    (f0 : am_fr h hh t (t + 7)) (p : (z = 1 ∧ ∃ x y, rF kd st vl = .inr (x, y) ∧ SU h2 t u b j kd st vl 4 y px cl 0 0 (-1) cd ∧ ∃ cm, BD h2 b (gm_emp x y) cm (w.2 100)) ∨ (z = 0 ∧ ∃ e a, rF kd st vl = .inl (e, a) ∧ SF h2 t u b j kd st vl e a ∧ BA h2 b))
    (fa : am_fr hh ha t (t + 7)) (fb : am_fr ha hb b (b + 24)) (fc : am_fr hb h2 t (t + 7)) : RI w h h2 t u b j kd st vl (rD kd st vl) n 800 z := by
  have F : ∀ m, am_gn m h h2 t b := fun m => ⟨by rw [fc.1, fb.1, fa.1, f0.1]; exact ⟨Nat.le_refl _, by omega, Nat.le_refl _, by omega⟩, fun q q0 q1 q2 => (fc.2 q q1).trans ((fb.2 q q2).trans ((fa.2 q q1).trans (f0.2 q q1)))⟩
  rcases p with ⟨hz, x, y, p1, p2, cm, p3⟩ | ⟨hz, e, a, p1, p2, p3⟩
  · obtain ⟨q1, q2, q3⟩ := rF_i n0 kn p1
    exact Or.inl ⟨hz, _, none, 4, _, y, px, cl, cd, cm, rB_r p1 _, ⟨by decide, q3⟩, gm_emp_vd q1 q2, gm_emp_ve, p2, ⟨cl0, cl1⟩, p3, rfl, F _⟩
  · exact Or.inr ⟨hz, e, a, rB_l p1 _, p2, p3, F _⟩

set_option maxHeartbeats 4000000 in
theorem c_X6_read {w : am_w} {h : AH} {t u b j : Nat} {kd st vl : Int → Int} {tc he nu px cl hs er ea : Int} {cd : Int → Int} (hS : ST h t u b j kd st vl tc he nu px cl hs er ea cd) {tx : Int → Int} (hX : GTX h u tx) (xr : ∀ i, -128 ≤ tx i ∧ tx i ≤ 127) (hu : u < t ∨ t + 7 ≤ u) (hK : TKA kd st vl []) {len : Int} (l0 : 0 ≤ len) (l1 : len ≤ 800) (cl0 : 0 ≤ cl) (cl1 : cl ≤ 800) (hA : BA h b) (hd : t + 7 ≤ b ∨ b + 24 ≤ t) (ht : t + 7 ≤ h.2.1) (hb : b + 24 ≤ h.2.1)  : AE w m_X6_read 20 [vr t, vi len] h (am_int (fun z h1 => ∃ kd' st' vl', TKA kd' st' vl' (gm_to tx len 801 0) ∧ (gm_to tx len 801 0).length ≤ 801 ∧ RE w h h1 t u b j kd' st' vl' (rD kd' st' vl') z)) := by
  refine AE.of wf_X6_read (Nat.le_of_ble_eq_true rfl) (am_ok_z (fun z h1 q => by obtain ⟨_, _, _, _, _, q⟩ := q; rcases q with q | q; exact Or.inr q.1; exact Or.inl q.1)) ?_
  obtain ⟨c0, c1, c2, c3, c4, cj, c5, cL⟩ := id hS
  refine q_blk (lv2 := [(0, vr t), (1, vi len)]) (st2 := [vi 0, vr t]) kX6_read_0 rfl ?_
  refine q_pi eX6_read_2 fl_RX6_28 (fun q hq => by cases hq; exact Or.inl rfl) (Or.inl rfl) c0 (Nat.le_of_ble_eq_true rfl) (l2 := [0, 0, 0, 0, 0, 0, 0, tc, 0, nu, px, cl, hs, er, ea]) rfl (fun h1 e2 => ?_)
  have k3 := am_at e2
  have k4 := (am_ne e2 (t + 3) (by omega)).trans c1
  have k5 := (am_ne e2 (t + 4) (by omega)).trans c2
  have k6 := (am_ne e2 (t + 5) (by omega)).trans c3
  have k7 := (am_ne e2 (t + 6) (by omega)).trans c4
  have k8 := (am_ne e2 j (by omega)).trans c5
  have k9 := cL.kept (lo := t) (hi := t + 1) (am_fr.st e2 (by omega) (by omega)) (by omega)
  refine q_blk (lv2 := [(0, vr t), (1, vi len)]) (st2 := [vi 0, vr t]) kX6_read_5 rfl ?_
  refine q_pi eX6_read_7 fl_RX6_40 (fun q hq => by cases hq; exact Or.inl rfl) (Or.inr ⟨rfl, by first | decide | omega⟩) k3 (Nat.le_of_ble_eq_true rfl) (l2 := [0, 0, 0, 0, 0, 0, 0, tc, 0, nu, px, cl, 0, er, ea]) rfl (fun h10 e11 => ?_)
  have k12 := am_at e11
  have k13 := (am_ne e11 (t + 3) (by omega)).trans k4
  have k14 := (am_ne e11 (t + 4) (by omega)).trans k5
  have k15 := (am_ne e11 (t + 5) (by omega)).trans k6
  have k16 := (am_ne e11 (t + 6) (by omega)).trans k7
  have k17 := (am_ne e11 j (by omega)).trans k8
  have k18 := k9.kept (lo := t) (hi := t + 1) (am_fr.st e11 (by omega) (by omega)) (by omega)
  refine q_blk (lv2 := [(0, vr t), (1, vi len)]) (st2 := [vi 0, vr t]) kX6_read_10 rfl ?_
  refine q_pi eX6_read_12 fl_RX6_44 (fun q hq => by cases hq; exact Or.inl rfl) (Or.inl rfl) k12 (Nat.le_of_ble_eq_true rfl) (l2 := [0, 0, 0, 0, 0, 0, 0, tc, 0, nu, px, cl, 0, 0, ea]) rfl (fun h19 e20 => ?_)
  have k21 := am_at e20
  have k22 := (am_ne e20 (t + 3) (by omega)).trans k13
  have k23 := (am_ne e20 (t + 4) (by omega)).trans k14
  have k24 := (am_ne e20 (t + 5) (by omega)).trans k15
  have k25 := (am_ne e20 (t + 6) (by omega)).trans k16
  have k26 := (am_ne e20 j (by omega)).trans k17
  have k27 := k18.kept (lo := t) (hi := t + 1) (am_fr.st e20 (by omega) (by omega)) (by omega)
  refine q_blk (lv2 := [(0, vr t), (1, vi len)]) (st2 := [vi (-1), vr t]) kX6_read_15 rfl ?_
  refine q_pi eX6_read_17 fl_RX6_47 (fun q hq => by cases hq; exact Or.inl rfl) (Or.inl rfl) k21 (Nat.le_of_ble_eq_true rfl) (l2 := [0, 0, 0, 0, 0, 0, 0, tc, 0, nu, px, cl, 0, 0, (-1)]) rfl (fun h28 e29 => ?_)
  have k30 := am_at e29
  have k31 := (am_ne e29 (t + 3) (by omega)).trans k22
  have k32 := (am_ne e29 (t + 4) (by omega)).trans k23
  have k33 := (am_ne e29 (t + 5) (by omega)).trans k24
  have k34 := (am_ne e29 (t + 6) (by omega)).trans k25
  have k35 := (am_ne e29 j (by omega)).trans k26
  have k36 := k27.kept (lo := t) (hi := t + 1) (am_fr.st e29 (by omega) (by omega)) (by omega)
  have S20 : ST h28 t u b j kd st vl tc 0 nu px cl 0 0 (-1) cd := ⟨k30, k31, k32, k33, k34, cj, k35, k36⟩
  have F20 : am_fr h h28 t (t + 7) := ((((am_fr.st e2 (by omega) (by omega)).tr (am_fr.st e11 (by omega) (by omega))).tr (am_fr.st e20 (by omega) (by omega))).tr (am_fr.st e29 (by omega) (by omega)))
  have X20 := hX.kept F20 hu
  refine q_blk (lv2 := [(0, vr t), (1, vi len)]) (st2 := [vi len, vr t]) kX6_read_20 rfl ?_
  refine AQ.callVv (av := [vi len]) (st := []) (c_X6_splitIntoTokens S20 X20 xr hu hK l0 l1) lk_RX6_62 (by decide) rfl rfl S20.ob ⟨_, rfl, rfl⟩ (Nat.le_of_ble_eq_true rfl) eX6_read_22 (fun h39 e38 => ?_)
  obtain ⟨k5, s5, v5, TK, ln, ⟨ll, hll⟩, T5, F5⟩ := e38
  have ln5 : (gm_to tx len 801 0).length = ll.length + 1 := by rw [hll, List.length_append, List.length_singleton]
  have kn : k5 (ll.length : Int) = 0 := (TK.1 ll.length (0, len, 0) (by rw [hll, List.getElem?_append_right (Nat.le_refl _), Nat.sub_self]; rfl)).1
  obtain ⟨n, hn⟩ : ∃ n : Int, n = (ll.length : Int) := ⟨_, rfl⟩
  rw [← hn] at kn
  have A5 : BA h39 b := (hA.kept F20 (by omega)).kept F5 (by omega)
  refine q_blk (lv2 := [(0, vr t), (1, vi len)]) (st2 := [vr t]) kX6_read_25 rfl ?_
  refine AQ.callVi (av := []) (st := []) (c_X6_readField T5.su (n := n) (by omega) kn (by omega) TK.2.1 TK.2.2 cl0 cl1 A5 hd) lk_RX6_66 (by decide) rfl rfl T5.ob ⟨_, rfl, rfl⟩ (Nat.le_of_ble_eq_true rfl) eX6_read_26 (fun z40 h42 e41 => ?_)
  obtain ⟨ha5, hb5, P5, Fa5, Fb5, Fc5⟩ := e41
  have R5 := RI.field (n := n) (by omega) kn cl0 cl1 (F20.tr F5) P5 Fa5 Fb5 Fc5
  refine q_blk (lv2 := [(0, vr t), (1, vi len), (2, vi z40), (3, vi 0)]) (st2 := []) kX6_read_29 rfl ?_
  refine q_sub (lv2 := [(0, vr t), (2, vi z40), (3, vi 0)]) [0, 2, 3] rfl ?_
  refine am_lp3 (I := fun (g : Int) (stp : Int) (hh : AH) => (0 ≤ stp ∧ stp ≤ 800) ∧ RI w h hh t u b j k5 s5 v5 (rD k5 s5 v5) n (800 - stp.toNat) g) (μ := fun (g : Int) (stp : Int) (hh : AH) => (800 - stp).toNat) (G := fun (g : Int) (stp : Int) (hh : AH) => AQ w m_X6_read 20 32 [(0, vr t), (2, vi g), (3, vi stp)] [] hh (am_int (fun z h1 => ∃ kd' st' vl', TKA kd' st' vl' (gm_to tx len 801 0) ∧ (gm_to tx len 801 0).length ≤ 801 ∧ RE w h h1 t u b j kd' st' vl' (rD kd' st' vl') z))) ?_ z40 0 h42 (⟨⟨by omega, by omega⟩, R5⟩)
  intro g stp hh hI44 ih43
  obtain ⟨⟨i0, i1⟩, hR⟩ := hI44
  have hRb := hR.b
  refine q_blk (lv2 := [(0, vr t), (2, vi g), (3, vi stp)]) (st2 := [vi 800, vi stp]) kX6_read_32 rfl ?_
  refine AQ.ic_ge (tgt := 117) eX6_read_36 (by decide) (by first | assumption | exact ⟨by omega, by omega⟩) ⟨by decide, by decide⟩ (fun br45 => ?_) (fun br45 => ?_)
  · skip
    refine q_blk (lv2 := [(0, vr t), (2, vi g), (3, vi stp)]) (st2 := [vi g]) kX6_read_117 rfl ?_
    exact q_rz rfl eX6_read_118 (by omega) ⟨g, rfl, _, _, _, TK, ln, by first | exact hR.e (by omega) | exact hR.x (by omega) | (rw [g1']; exact G9.e (by omega))⟩
  · skip
    refine q_blk (lv2 := [(0, vr t), (2, vi g), (3, vi stp)]) (st2 := [vi g]) kX6_read_39 rfl ?_
    refine AQ.if_eq (tgt := 117) eX6_read_40 (by decide) (by first | assumption | exact ⟨by omega, by omega⟩) (fun br46 => ?_) (fun br46 => ?_)
    · skip
      refine q_blk (lv2 := [(0, vr t), (2, vi g), (3, vi stp)]) (st2 := [vi g]) kX6_read_117 rfl ?_
      exact q_rz rfl eX6_read_118 (by omega) ⟨g, rfl, _, _, _, TK, ln, by first | exact hR.e (by omega) | exact hR.x (by omega) | (rw [g1']; exact G9.e (by omega))⟩
    · skip
      have g1' : g = 1 := by have := hR.b; omega
      obtain ⟨-, D9, L9, e9, sc9, nu9, px9, cl9, cd9, cm9, G9⟩ := hR.resolve_right (fun q => by have := q.1; omega)
      obtain ⟨f9, hf9⟩ : ∃ f, 800 - stp.toNat = f + 1 := ⟨799 - stp.toNat, by omega⟩
      rw [hf9] at G9
      obtain ⟨g1, g2, g3, g4, g5, g6, g7, g8, g9⟩ := id G9
      have kr9 := TK.2.1 e9 (by omega) (by omega)
      have g90 := g9.1.1
      refine q_blk (lv2 := [(0, vr t), (2, vi g), (3, vi stp)]) (st2 := [vr t]) kX6_read_43 rfl ?_
      refine q_Vi (av := []) (st := []) (c_X6_kindHere g5 (by omega) (by omega)) lk_RX6_70 (by decide) rfl rfl g5.ob ⟨_, rfl, rfl⟩ (Nat.le_of_ble_eq_true rfl) eX6_read_44 (fun z47 e48 => ?_)
      subst e48
      refine AQ.if_eq (tgt := 117) eX6_read_47 (by decide) (by first | assumption | exact ⟨by omega, by omega⟩) (fun br49 => ?_) (fun br49 => ?_)
      · skip
        refine q_blk (lv2 := [(0, vr t), (2, vi g), (3, vi stp)]) (st2 := [vi g]) kX6_read_117 rfl ?_
        exact q_rz rfl eX6_read_118 (by omega) ⟨g, rfl, _, _, _, TK, ln, by first | exact hR.e (by omega) | exact hR.x (by omega) | (rw [g1']; exact G9.e (by omega))⟩
      · skip
        refine q_blk (lv2 := [(0, vr t), (2, vi g), (3, vi stp)]) (st2 := [vr t]) kX6_read_50 rfl ?_
        refine q_Vi (av := []) (st := []) (c_X6_kindHere g5 (by omega) (by omega)) lk_RX6_70 (by decide) rfl rfl g5.ob ⟨_, rfl, rfl⟩ (Nat.le_of_ble_eq_true rfl) eX6_read_51 (fun z50 e51 => ?_)
        subst e51
        rcases (show (k5 e9) = 4 ∨ (k5 e9) = 5 ∨ (k5 e9) = 6 ∨ ((k5 e9) < 4 ∨ 6 < (k5 e9)) by omega) with sw52 | sw52 | sw52 | sw52
        · skip
          refine AQ.of (AS.tabIn (z := (k5 e9)) (off := 26) (tgt := 80) eX6_read_54 (by first | assumption | exact ⟨by omega, by omega⟩) (by omega) (by omega) (by rw [sw52]; rfl) (by decide)) ?_
          refine q_blk (lv2 := [(0, vr t), (2, vi g), (3, vi stp)]) (st2 := [vr t]) kX6_read_80 rfl ?_
          refine AQ.callVi (av := []) (st := []) (c_X6_readStone g5 (l := t + 2) (n := n) (by omega) kn (by omega) (by omega) TK.2.1 TK.2.2 g6.1 g6.2 g7 g3 hd (by omega) ) lk_RX6_74 (by decide) rfl rfl g5.ob ⟨_, rfl, rfl⟩ (Nat.le_of_ble_eq_true rfl) eX6_read_81 (fun z53 h55 e54 => ?_)
          have R9 := RGS.stone G9 kn (by omega) ht hb (z := z53) e54
          refine q_blk (lv2 := [(0, vr t), (2, vi z53), (3, vi stp)]) (st2 := []) kX6_read_84 rfl ?_
          refine q_goto (tgt := 111) eX6_read_85 (by decide) ?_
          refine q_blk (lv2 := [(0, vr t), (2, vi z53), (3, vi (stp + 1))]) (st2 := []) kX6_read_111 rfl ?_
          refine q_goto (tgt := 32) eX6_read_114 (by decide) ?_
          exact ih43 z53 (stp + 1) h55 (⟨⟨by omega, by omega⟩, by rw [gm_n800 i0 hf9]; exact R9⟩) (by exact gm_m800 i0 hf9)
        · skip
          refine AQ.of (AS.tabIn (z := (k5 e9)) (off := 34) (tgt := 88) eX6_read_54 (by first | assumption | exact ⟨by omega, by omega⟩) (by omega) (by omega) (by rw [sw52]; rfl) (by decide)) ?_
          refine q_blk (lv2 := [(0, vr t), (2, vi g), (3, vi stp)]) (st2 := [vr t]) kX6_read_88 rfl ?_
          refine AQ.callVi (av := []) (st := []) (c_X6_readPolygon g5 (n := n) (by omega) kn (by omega) (by omega) TK.2.1 TK.2.2 g6.1 g6.2 g7 g3 hd g4 (by omega) ) lk_RX6_77 (by decide) rfl rfl g5.ob ⟨_, rfl, rfl⟩ (Nat.le_of_ble_eq_true rfl) eX6_read_89 (fun z56 h58 e57 => ?_)
          have R9 := RGS.poly G9 kn (by omega) ht hb (z := z56) e57
          refine q_blk (lv2 := [(0, vr t), (2, vi z56), (3, vi stp)]) (st2 := []) kX6_read_92 rfl ?_
          refine q_goto (tgt := 111) eX6_read_93 (by decide) ?_
          refine q_blk (lv2 := [(0, vr t), (2, vi z56), (3, vi (stp + 1))]) (st2 := []) kX6_read_111 rfl ?_
          refine q_goto (tgt := 32) eX6_read_114 (by decide) ?_
          exact ih43 z56 (stp + 1) h58 (⟨⟨by omega, by omega⟩, by rw [gm_n800 i0 hf9]; exact R9⟩) (by exact gm_m800 i0 hf9)
        · skip
          refine AQ.of (AS.tabIn (z := (k5 e9)) (off := 42) (tgt := 96) eX6_read_54 (by first | assumption | exact ⟨by omega, by omega⟩) (by omega) (by omega) (by rw [sw52]; rfl) (by decide)) ?_
          refine q_blk (lv2 := [(0, vr t), (2, vi g), (3, vi stp)]) (st2 := [vr t]) kX6_read_96 rfl ?_
          refine AQ.callVi (av := []) (st := []) (c_X6_readScore g5 (n := n) (by omega) kn (by omega) (by omega) TK.2.1 TK.2.2 g6.1 g6.2 g7 g3 hd (by omega) (gm_hs_01 L9) (by omega) (by omega) ) lk_RX6_80 (by decide) rfl rfl g5.ob ⟨_, rfl, rfl⟩ (Nat.le_of_ble_eq_true rfl) eX6_read_97 (fun z59 h61 e60 => ?_)
          have R9 := RGS.score (by omega) kn TK.2.1 TK.2.2 G9 (by omega) ht hb (z := z59) e60
          refine q_blk (lv2 := [(0, vr t), (2, vi z59), (3, vi stp)]) (st2 := []) kX6_read_100 rfl ?_
          refine q_goto (tgt := 111) eX6_read_101 (by decide) ?_
          refine q_blk (lv2 := [(0, vr t), (2, vi z59), (3, vi (stp + 1))]) (st2 := []) kX6_read_111 rfl ?_
          refine q_goto (tgt := 32) eX6_read_114 (by decide) ?_
          exact ih43 z59 (stp + 1) h61 (⟨⟨by omega, by omega⟩, by rw [gm_n800 i0 hf9]; exact R9⟩) (by exact gm_m800 i0 hf9)
        · skip
          refine AQ.of (AS.tabOut (z := (k5 e9)) (tgt := 104) eX6_read_54 (by first | assumption | exact ⟨by omega, by omega⟩) sw52 (by decide)) ?_
          refine q_blk (lv2 := [(0, vr t), (2, vi g), (3, vi stp)]) (st2 := [vi (-2), vr t]) kX6_read_104 rfl ?_
          refine AQ.callVi (av := [vi (-2)]) (st := []) (c_X6_fail (e := (-2)) g5 (by omega) (by omega)) lk_RX6_83 (by decide) rfl rfl g5.ob ⟨_, rfl, rfl⟩ (Nat.le_of_ble_eq_true rfl) eX6_read_107 (fun z62 h64 e63 => ?_)
          have R9 := G9.bad (z := z62) ⟨by omega, by omega⟩ ht hb hd e63.1 e63.2
          refine q_blk (lv2 := [(0, vr t), (2, vi z62), (3, vi stp)]) (st2 := []) kX6_read_110 rfl ?_
          refine q_blk (lv2 := [(0, vr t), (2, vi z62), (3, vi (stp + 1))]) (st2 := []) kX6_read_111 rfl ?_
          refine q_goto (tgt := 32) eX6_read_114 (by decide) ?_
          exact ih43 z62 (stp + 1) h64 (⟨⟨by omega, by omega⟩, by rw [gm_n800 i0 hf9]; exact R9⟩) (by exact gm_m800 i0 hf9)
