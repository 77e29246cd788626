/-! The law: one round of it. -/
/-- the law's entry: its name and its handlers play no part -/
abbrev mL (nm : String) (T : List (Nat × Nat × Nat × Nat)) : YR := (⟨RL, nm, "([I)Z"⟩, cL_law, 7, some FieldType.boolean, T)
/-- what every round keeps -/
def JI (w : am_w) (h : AH) (o n out : Nat) : Prop := ∃ (D cm : Int → Int) (sc : Nat) (L : GL) (tx : Int → Int) (bl le : Int) (Hs : List GE) (f : Int → Int) (th ud : Int) (bf : Int → Int) (rw : Int → Int → Int), JC w h o n out D cm sc L tx bl le Hs f ∧ MA h n th bl le ud bf rw D ∧ BX bf tx bl ∧ CO D L ∧ HR ud rw Hs
/-- what a round costs, and what it leaves alone -/
def JG (o : Nat) (h h1 : AH) : Prop := (h.2.1 ≤ h1.2.1 ∧ h1.2.1 ≤ h.2.1 + 2 ∧ h.2.2 ≤ h1.2.2 ∧ h1.2.2 ≤ h.2.2 + 1600) ∧ ∀ q, q < o → h1.1 q = h.1 q
/-- the script, and where the law stands in it -/
def SKR (h : AH) (b o : Nat) (len : Int) (g : Int → Int) (i : Int) : Prop := (∃ G, h.1 b = some (110, len, g, G)) ∧ b < o ∧ 0 ≤ i ∧ i + 6 ≤ len ∧ len ≤ 3072 ∧ ∀ k, am_r (g k)
theorem SKR.go {h h1 : AH} {b o : Nat} {len i : Int} {g : Int → Int} (k : SKR h b o len g i) (e : JG o h h1) : SKR h1 b o len g i := by
  obtain ⟨⟨G, k1⟩, k2, k3⟩ := k
  exact ⟨⟨G, (e.2 _ k2).trans k1⟩, k2, k3⟩
section JS
variable {w : am_w} {h h1 h2 : AH} {o n out b : Nat} {D cm E : Int → Int} {sc : Nat} {L : GL} {tx : Int → Int} {bl le bl' eo ud th : Int} {Hs : List GE} {f bf : Int → Int} {rw : Int → Int → Int} {A A0 : Int ⊕ Nat → Prop} {S : Int → AH → Prop} {C : Nat → Int} {y : YR} {d : Nat} {av : List AV}
theorem JG.fr {lo hi : Nat} (g : JG o h h1) (k : am_fr h1 h2 lo hi) (l : o ≤ lo) : JG o h h2 := ⟨by rw [k.1]; exact g.1, fun q q0 => (k.2 q (by omega)).trans (g.2 q q0)⟩
theorem JG.st {x : AC} (g : JG o h h1) (e : h2 = am_set h1 out x) (l : o ≤ out) : JG o h h2 := g.fr (am_fr.st (lo := out) (hi := out + 1) e (Nat.le_refl _) (Nat.lt_succ_self _)) l
theorem JG.go {m : Nat} (g : am_go m h h1 o) (hm : m ≤ 2) (l : o ≤ h.2.1) : JG o h h1 := by
  obtain ⟨⟨a, b, c, e⟩, k⟩ := g
  refine ⟨⟨a, by omega, c, Nat.le_trans e (Nat.add_le_add_left (Nat.le_trans (Nat.mul_le_mul_left 800 hm) (by decide)) _)⟩, fun q q0 => k q (by omega) (by omega)⟩
theorem JG.thr : JG o h (gm_thr h) := ⟨⟨Nat.le_succ _, by show h.2.1 + 1 ≤ _; omega, Nat.le_add_right _ _, Nat.add_le_add_left (by decide) _⟩, fun _ _ => rfl⟩
theorem JC.o0 (k : JC w h o n out D cm sc L tx bl le Hs f) : o ≤ h.2.1 := by have := k.2.2.1; omega
/-- a reading of the class, in one form -/
def JR (w : am_w) (h : AH) (o n out : Nat) (D cm : Int → Int) (sc : Nat) (L : GL) (tx : Int → Int) (bl le : Int) (Hs : List GE) (f : Int → Int) (A : Int ⊕ Nat → Prop) (z : Int) (h1 : AH) : Prop := A (.inl z) ∧ JC w h1 o n out D cm sc L tx bl le Hs f ∧ am_go 0 h h1 o
theorem JC.an (k : JC w h o n out D cm sc L tx bl le Hs f) (hE : AE w y d av h (am_an h A)) : AE w y d av h (am_or (am_int (JR w h o n out D cm sc L tx bl le Hs f A)) (fun k h1 => A (.inr k) ∧ h1 = gm_thr h)) :=
  hE.mono fun r h' q => by
    rcases q with ⟨z, e, a, rfl⟩ | q
    · exact Or.inl ⟨z, e, a, k, am_go.rf⟩
    · exact Or.inr q
theorem JC.ay (k : JC w h o n out D cm sc L tx bl le Hs f) (hE : AE w y d av h (am_ay h A0 (fun z h1 => A (.inl z) ∧ CCS h1 o (o + 1) (o + 2) (o + 26) (o + 50) (o + 52) (o + 59) (o + 62) D cm sc L tx bl le Hs ∧ am_go 0 h h1 o))) (hA : ∀ k, A0 (.inr k) → A (.inr k)) : AE w y d av h (am_or (am_int (JR w h o n out D cm sc L tx bl le Hs f A)) (fun k h1 => A (.inr k) ∧ h1 = gm_thr h)) :=
  hE.mono fun r h' q => by
    rcases q with ⟨z, e, a, c, g⟩ | ⟨z, e, a, q⟩
    · exact Or.inl ⟨z, e, a, k.c c g, g⟩
    · exact Or.inr ⟨z, e, hA z a, q⟩
/-- after the law's call of it -/
theorem JC.rd (k : JC w h o n out D cm sc L tx bl le Hs f) (a : MA h n th bl' eo ud bf rw E) {z : Int} (p : (z = 0 ∧ ∃ v h1, JR w h o n out D cm sc L tx bl le Hs f A v h1 ∧ h2 = am_set h1 out (102, 1, am_uI f 0 (am_wr v), am_N)) ∨ ∃ k, (A (.inr k) ∧ h2 = gm_thr h) ∧ z = C k) : ∃ r f', A r ∧ JC w h2 o n out D cm sc L tx bl le Hs f' ∧ MA h2 n th bl' eo ud bf rw E ∧ JG o h h2 ∧ ((∃ v, r = .inl v ∧ z = 0 ∧ f' 0 = am_wr v) ∨ ∃ k, r = .inr k ∧ z = C k) := by
  rcases p with ⟨e, v, h1, ⟨q1, q2, q3⟩, q4⟩ | ⟨i, ⟨q1, q2⟩, q3⟩
  · exact ⟨_, _, q1, q2.wo q4, (a.c k q3).wo q2 q4, (JG.go q3 (by decide) k.o0).st q4 (by have := k.2.2.1; omega), Or.inl ⟨v, rfl, e, am_uI_at _ _ _⟩⟩
  · subst q2
    exact ⟨_, f, q1, k.thr, a.thr, JG.thr, Or.inr ⟨i, rfl, q3⟩⟩
/-- both answers, side by side -/
theorem gm_cmp {r : Int ⊕ Nat} {z1 z2 : Int} {f' : Int → Int} {C' : Nat → Int} (hC : ∀ k, C k = C' k) (h0 : ∀ k, 1 ≤ C k ∧ C k ≤ 3) (t : (∃ v, r = .inl v ∧ z1 = 0 ∧ f' 0 = am_wr v) ∨ ∃ k, r = .inr k ∧ z1 = C k) (m : gm_an C' r th z2) : z1 = th ∧ (0 ≤ z1 ∧ z1 ≤ 3) ∧ (z1 = 0 → f' 0 = am_wr z2) := by
  rcases t with ⟨v, rfl, e1, e2⟩ | ⟨k, rfl, e1⟩ <;> rcases m with ⟨v', a, e3, e4⟩ | ⟨k', a, e3⟩
  · cases a
    exact ⟨e1.trans e3.symm, by omega, fun _ => by rw [e4]; exact e2⟩
  · cases a
  · cases a
  · cases a
    have := h0 k
    rw [← hC] at e3
    exact ⟨e1.trans e3.symm, by omega, fun z => by omega⟩
end JS
/-- how the law compares -/
theorem jt {nm : String} {T : List (Nat × Nat × Nat × Nat)} {w : am_w} {d b o n out pc : Nat} {h : AH} {Q : RV → AH → Prop} {i z1 z2 th off : Int} {f : Int → Int} (k1 : am_dec cL_law pc [.iload 5] (pc + 2) = true) (k2 : decode cL_law (pc + 2) = .ok (.if_icmp .eq 5, 3)) (k3 : am_dec cL_law (pc + 7) [.iload 5] (pc + 9) = true) (k4 : decode cL_law (pc + 9) = .ok (.ifCond .ne 15, 3)) (k5 : am_dec cL_law (pc + 12) [.aload_n 3, .iconst 0] (pc + 14) = true) (k6 : decode cL_law (pc + 14) = .ok (.laload, 1)) (k7 : am_dec cL_law (pc + 15) [.iload 6] (pc + 17) = true) (k8 : decode cL_law (pc + 17) = .ok (.i2l, 1)) (k9 : decode cL_law (pc + 18) = .ok (.lcmp, 1)) (k10 : decode cL_law (pc + 19) = .ok (.ifCond .eq 5, 3)) (k11 : decode cL_law (pc + 24) = .ok (.goto off, 3)) (ht : ((pc + 24 : Nat) : Int) + off = ((1582 : Nat) : Int))
    (ho : h.1 out = some (102, 1, f, am_N)) (e : z1 = th ∧ (0 ≤ z1 ∧ z1 ≤ 3) ∧ (z1 = 0 → f 0 = am_wr z2)) (kk : AQ w (mL nm T) d 1582 [(0, vr b), (1, vr o), (2, vr n), (3, vr out), (4, vi i)] [] h Q) : AQ w (mL nm T) d pc [(0, vr b), (1, vr o), (2, vr n), (3, vr out), (4, vi i), (5, vi z1), (6, vi z2)] [vi th] h Q := by
  obtain ⟨rfl, e2, e3⟩ := e
  have fin : AQ w (mL nm T) d (pc + 24) [(0, vr b), (1, vr o), (2, vr n), (3, vr out), (4, vi i), (5, vi z1), (6, vi z2)] [] h Q := q_goto k11 ht (q_sub [0, 1, 2, 3, 4] rfl kk)
  refine q_blk (lv2 := [(0, vr b), (1, vr o), (2, vr n), (3, vr out), (4, vi i), (5, vi z1), (6, vi z2)]) (st2 := [vi z1, vi z1]) k1 rfl ?_
  refine AQ.of (AS.ic_eq_s (tgt := pc + 7) k2 (by omega)) ?_
  refine q_blk (lv2 := [(0, vr b), (1, vr o), (2, vr n), (3, vr out), (4, vi i), (5, vi z1), (6, vi z2)]) (st2 := [vi z1]) k3 rfl ?_
  refine AQ.if_ne (tgt := pc + 24) k4 (by omega) ⟨by omega, by omega⟩ (fun _ => fin) (fun z => ?_)
  have e4 := e3 z
  refine q_blk (lv2 := [(0, vr b), (1, vr o), (2, vr n), (3, vr out), (4, vi i), (5, vi z1), (6, vi z2)]) (st2 := [vi 0, vr out]) k5 rfl ?_
  refine q_la k6 ho (by decide) (by decide) e4 ?_
  refine q_blk (lv2 := [(0, vr b), (1, vr o), (2, vr n), (3, vr out), (4, vi i), (5, vi z1), (6, vi z2)]) (st2 := [vi z2, vl (am_wr z2)]) k7 rfl ?_
  refine AQ.of (AS.i2lw k8) ?_
  refine AQ.of (AS.lcmpE k9) ?_
  exact AQ.of (AS.if_eq_t (tgt := pc + 24) k10 (by omega) ⟨by decide, by decide⟩ rfl) fin
