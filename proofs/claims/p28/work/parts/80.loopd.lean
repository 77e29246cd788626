/-! The law's loop: what holds at each round. -/
abbrev mL (nm : String) (T : List (Nat × Nat × Nat × Nat)) : YR := (⟨RL, nm, "([I)Z"⟩, cL_law, 23, some FieldType.boolean, T)
/-- the reasons are one -/
theorem gm_lr_u {D : Int → Int} {lp lc l1 l2 ax ay bx by' z z' : Int} (h : gm_lr D lp lc l1 l2 ax ay bx by' z) (h' : gm_lr D lp lc l1 l2 ax ay bx by' z') : z = z' := by
  rcases h with ⟨a, e⟩ | ⟨a, ⟨b, e⟩ | ⟨b, e⟩⟩ <;> rcases h' with ⟨a', e'⟩ | ⟨a', ⟨b', e'⟩ | ⟨b', e'⟩⟩ <;> first | omega | contradiction
theorem gm_rC_u {D : Int → Int} {p x y z z' : Int} (h : gm_rC D p x y z) (h' : gm_rC D p x y z') : z = z' := by
  rcases h with ⟨a, e⟩ | ⟨a, ⟨b, e⟩ | ⟨b, ⟨c, e⟩ | ⟨c, e⟩⟩⟩ <;> rcases h' with ⟨a', e'⟩ | ⟨a', ⟨b', e'⟩ | ⟨b', ⟨c', e'⟩ | ⟨c', e'⟩⟩⟩ <;> first | omega | contradiction | exact gm_lr_u e e'
theorem gm_rL_u {D : Int → Int} {p z z' : Int} (h : gm_rL D p z) (h' : gm_rL D p z') : z = z' := by
  rcases h with ⟨a, e⟩ | ⟨a, ⟨b, e⟩ | ⟨b, e⟩⟩ <;> rcases h' with ⟨a', e'⟩ | ⟨a', ⟨b', e'⟩ | ⟨b', e'⟩⟩ <;> first | omega | contradiction | exact gm_lr_u e e'
theorem gm_rT_u {D : Int → Int} {p k z z' : Int} (h : gm_rT D p k z) (h' : gm_rT D p k z') : z = z' := by
  rcases h with ⟨a, e⟩ | ⟨a, ⟨b, e⟩ | ⟨b, e⟩⟩ <;> rcases h' with ⟨a', e'⟩ | ⟨a', ⟨b', e'⟩ | ⟨b', e'⟩⟩ <;> first | omega | contradiction | exact gm_lr_u e e'
theorem gm_rB_u {D : Int → Int} {p k x y z z' : Int} (h : gm_rB D p k x y z) (h' : gm_rB D p k x y z') : z = z' := by
  rcases h with ⟨a, e⟩ | ⟨a, ⟨b, e⟩ | ⟨b, ⟨c, e⟩ | ⟨c, q, f, g⟩⟩⟩ <;> rcases h' with ⟨a', e'⟩ | ⟨a', ⟨b', e'⟩ | ⟨b', ⟨c', e'⟩ | ⟨c', q', f', g'⟩⟩⟩ <;> first | omega | contradiction | skip
  have e := gm_lr_u f f'
  subst e
  rcases g with ⟨n, e⟩ | ⟨n, e⟩ <;> rcases g' with ⟨n', e'⟩ | ⟨n', e'⟩ <;> first | omega | contradiction | exact gm_lr_u e e'
theorem gm_rC_0r {D : Int → Int} {p x y z : Int} (h : gm_rC D p x y z) : 0 ≤ z ∧ z ≤ 6 := by
  rcases h with ⟨a, e⟩ | ⟨a, ⟨b, e⟩ | ⟨b, ⟨c, e⟩ | ⟨c, e⟩⟩⟩ <;> first | omega | (have := gm_lr_r e; omega)
theorem gm_rL_0r {D : Int → Int} {p z : Int} (h : gm_rL D p z) : 0 ≤ z ∧ z ≤ 6 := by
  rcases h with ⟨a, e⟩ | ⟨a, ⟨b, e⟩ | ⟨b, e⟩⟩ <;> first | omega | (have := gm_lr_r e; omega)
theorem gm_rT_0r {D : Int → Int} {p k z : Int} (h : gm_rT D p k z) : 0 ≤ z ∧ z ≤ 6 := by
  rcases h with ⟨a, e⟩ | ⟨a, ⟨b, e⟩ | ⟨b, e⟩⟩ <;> first | omega | (have := gm_lr_r e; omega)
theorem gm_rB_0r {D : Int → Int} {p k x y z : Int} (h : gm_rB D p k x y z) : 0 ≤ z ∧ z ≤ 6 := by
  rcases h with ⟨a, e⟩ | ⟨a, ⟨b, e⟩ | ⟨b, ⟨c, e⟩ | ⟨c, q, f, ⟨n, g⟩ | ⟨n, g⟩⟩⟩⟩
  · omega
  · omega
  · omega
  · have := gm_lr_r f; omega
  · have := gm_lr_r g; omega
/-- what belongs to the law's own, but its buffer, its numbers by chance and its row of copies -/
def LB (o bu r bf : Nat) (h : AH) (q : Nat) : Prop := (o + 256 ≤ q ∧ q < h.2.1) ∧ q ≠ bu ∧ q ≠ r ∧ q ≠ bf
def LBM (o bu r bf : Nat) (f : Nat) (gp : Int → Option Nat) (n : Int) (h : AH) (q : Nat) : Prop := LB o bu r bf h q ∧ ¬ MS f gp n q
/-- a copy of an earlier state -/
def CPO (o bu r bf f : Nat) (gp : Int → Option Nat) (n : Int) (T : Option Nat) (L : GL) (h : AH) (g : Nat) (e : GE) : Prop := ∃ sa' pa' gs' gp', FLD h (LBM o bu r bf f gp n h) g sa' pa' gs' gp' T e.1 ∧ FX e.1 ∧ e.2.2.2 = L
/-- the row of copies: the latest first -/
def CPR (o bu r bf f : Nat) (gp : Int → Option Nat) (n : Int) (T : Option Nat) (L : GL) (h : AH) (H1 : List GE) : Prop := ∃ fz gb, h.1 bf = some (107, 9, fz, gb) ∧ (∀ j, 0 ≤ j → j < 9 → gb j = none ∨ ∃ q, gb j = some q ∧ am_ob h q 8 ∧ LBM o bu r bf f gp n h q) ∧ ∀ (j : Nat) (e : GE), H1[j]? = some e → ∃ g, gb j = some g ∧ CPO o bu r bf f gp n T L h g e
section JLP
variable {o bu r bf f sa pa : Nat} {gs gp gp' : Int → Option Nat} {n n' : Int} {T : Option Nat} {L : GL} {h h1 : AH} {D : Int → Int}
/-- what a step may touch beside what is new -/
def OKP (o bu f : Nat) (gp : Int → Option Nat) (n : Int) (P : Nat → Prop) : Prop := ∀ q, P q → (o ≤ q ∧ q < o + 256) ∨ q = bu ∨ MS f gp n q
theorem LB.up {q : Nat} (b : LB o bu r bf h q) (t : h.2.1 ≤ h1.2.1) : LB o bu r bf h1 q := ⟨⟨b.1.1, Nat.lt_of_lt_of_le b.1.2 t⟩, b.2⟩
theorem LBM.up {q : Nat} (b : LBM o bu r bf f gp n h q) (t : h.2.1 ≤ h1.2.1) (hm : ∀ q, MS f gp' n' q → MS f gp n q ∨ h.2.1 ≤ q) : LBM o bu r bf f gp' n' h1 q := ⟨b.1.up t, fun m => (hm q m).elim b.2 (fun z => by have := b.1.1.2; omega)⟩
theorem LBM.fr {P : Nat → Prop} {c s q : Nat} (b : LBM o bu r bf f gp n h q) (k : KF h h1 P c s) (hP : OKP o bu f gp n P) : h1.1 q = h.1 q := k.1 q b.1.1.2 fun z => by
  rcases hP q z with a | a | a
  · have := b.1.1.1; omega
  · exact b.1.2.1 a
  · exact b.2 a
theorem CPO.kf {g : Nat} {e : GE} {P : Nat → Prop} {c s : Nat} (x : CPO o bu r bf f gp n T L h g e) (k : KF h h1 P c s) (hP : OKP o bu f gp n P) (hm : ∀ q, MS f gp' n' q → MS f gp n q ∨ h.2.1 ≤ q) : CPO o bu r bf f gp' n' T L h1 g e := by
  obtain ⟨sa', pa', gs', gp2, F, y⟩ := x
  exact ⟨sa', pa', gs', gp2, F.loc (fun q b => b.fr k hP) (fun q b => b.up k.2.1.1 hm), y⟩
theorem TRM.kf {P : Nat → Prop} {c s : Nat} (x : TRM h (LBM o bu r bf f gp n h) T L) (k : KF h h1 P c s) (hP : OKP o bu f gp n P) (hm : ∀ q, MS f gp' n' q → MS f gp n q ∨ h.2.1 ≤ q) : TRM h1 (LBM o bu r bf f gp' n' h1) T L := x.mv (fun q b => b.fr k hP) (fun q b => b.up k.2.1.1 hm)
theorem MS.k {B : Nat → Prop} {q : Nat} (hF : FLD h B f sa pa gs gp T D) (m : MS f gp (D 3) q) : am_ob h q 8 ∨ am_ob h q 11 := by
  rcases m with rfl | ⟨p, p0, p1, e⟩
  · exact Or.inl hF.ob
  · obtain ⟨a, g, ca, c, -, c0, -⟩ := hF.2.2.2.2.2.1 p p0 p1
    rw [e] at g
    cases g
    exact Or.inr ⟨_, _, _, c0⟩
/-- what stands beside the field -/
def OTH (o bu r bf f : Nat) (gp : Int → Option Nat) (n : Int) (T : Option Nat) (L : GL) (h : AH) (H1 : List GE) : Prop := (RND h r ∧ (o + 256 ≤ r ∧ r < h.2.1 ∧ r ≠ bu) ∧ (o + 256 ≤ bf ∧ bf < h.2.1 ∧ bf ≠ bu)) ∧ CPR o bu r bf f gp n T L h H1 ∧ TRM h (LBM o bu r bf f gp n h) T L
theorem OTH.kf {H1 : List GE} {P : Nat → Prop} {c s : Nat} {B : Nat → Prop} (x : OTH o bu r bf f gp (D 3) T L h H1) (hF : FLD h B f sa pa gs gp T D) (k : KF h h1 P c s) (hP : OKP o bu f gp (D 3) P) (hm : ∀ q, MS f gp' n' q → MS f gp (D 3) q ∨ h.2.1 ≤ q) : OTH o bu r bf f gp' n' T L h1 H1 := by
  obtain ⟨⟨R, ⟨r1, r2, r3⟩, ⟨f1, f2, f3⟩⟩, ⟨fz, gb, c0, nb, cp⟩, tr⟩ := x
  have t := k.2.1.1
  have nk : ∀ q ci nn ff fg, h.1 q = some (ci, nn, ff, fg) → ci ≠ 8 → ci ≠ 11 → ¬ MS f gp (D 3) q := fun q ci nn ff fg e a b m => by
    rcases MS.k hF m with ⟨_, _, _, z⟩ | ⟨_, _, _, z⟩ <;> (rw [e] at z; cases z; contradiction)
  have keep : ∀ q, o + 256 ≤ q → q < h.2.1 → q ≠ bu → ¬ MS f gp (D 3) q → h1.1 q = h.1 q := fun q a b c d => k.1 q b fun z => by
    rcases hP q z with w | w | w
    · omega
    · exact c w
    · exact d w
  obtain ⟨sd, rc⟩ := id R
  have er := keep r r1 r2 r3 (nk r _ _ _ _ rc (by decide) (by decide))
  have ef := keep bf f1 f2 f3 (nk bf _ _ _ _ c0 (by decide) (by decide))
  refine ⟨⟨R.mv er, ⟨r1, by omega, r3⟩, ⟨f1, by omega, f3⟩⟩, ⟨fz, gb, ef.trans c0, fun j j0 j1 => ?_, fun j e he => ?_⟩, tr.kf k hP hm⟩
  · rcases nb j j0 j1 with w | ⟨q, w, ⟨nn, ff, fg, z⟩, b⟩
    · exact Or.inl w
    · exact Or.inr ⟨q, w, ⟨nn, ff, fg, (b.fr k hP).trans z⟩, b.up t hm⟩
  · obtain ⟨g, a, b⟩ := cp j e he
    exact ⟨g, a, b.kf k hP hm⟩
/-- the class, the field, all that stands beside -/
def INV (w : am_w) (o bu r bf f sa pa : Nat) (gs gp : Int → Option Nat) (T : Option Nat) (L : GL) (h : AH) (D cm : Int → Int) (sc : Nat) (tx : Int → Int) (bl le : Int) (Hs H1 : List GE) : Prop := LC w h o bu D cm sc L tx bl le Hs ∧ FLD h (LB o bu r bf h) f sa pa gs gp T D ∧ FX D ∧ OTH o bu r bf f gp (D 3) T L h H1
theorem INV.ms {w : am_w} {cm : Int → Int} {sc : Nat} {tx : Int → Int} {bl le : Int} {Hs H1 : List GE} (x : INV w o bu r bf f sa pa gs gp T L h D cm sc tx bl le Hs H1) {q : Nat} (m : MS f gp (D 3) q) : LB o bu r bf h q ∧ ∀ ci nn ff fg, h.1 q = some (ci, nn, ff, fg) → ci ≠ 100 ∧ ci ≠ 110 := by
  refine ⟨?_, fun ci nn ff fg e => ?_⟩
  · rcases m with rfl | ⟨p, p0, p1, e⟩
    · exact x.2.1.1.1
    · obtain ⟨a, g, ca, c, ⟨b, -⟩, -⟩ := x.2.1.2.2.2.2.2.1 p p0 p1
      rw [e] at g; cases g; exact b
  · rcases MS.k x.2.1 m with ⟨_, _, _, z⟩ | ⟨_, _, _, z⟩ <;> (rw [e] at z; cases z; decide)
/-- the field alone has changed -/
theorem INV.fl {w : am_w} {cm : Int → Int} {sc : Nat} {tx : Int → Int} {bl le : Int} {Hs H1 : List GE} {sa' pa' : Nat} {gs' : Int → Option Nat} {E : Int → Int} {P : Nat → Prop} {c s : Nat} (x : INV w o bu r bf f sa pa gs gp T L h D cm sc tx bl le Hs H1) (k : KF h h1 P c s) (hP : ∀ q, P q → MS f gp (D 3) q) (hF : FLD h1 (fun q => LB o bu r bf h q ∨ FR h h1 q) f sa' pa' gs' gp' T E) (hm : ∀ q, MS f gp' (E 3) q → MS f gp (D 3) q ∨ h.2.1 ≤ q) : LC w h1 o bu D cm sc L tx bl le Hs ∧ FLD h1 (LB o bu r bf h1) f sa' pa' gs' gp' T E ∧ OTH o bu r bf f gp' (E 3) T L h1 H1 := by
  have t := k.2.1.1
  have ob := x.2.2.2.1
  refine ⟨x.1.kf k fun q z => ?_, hF.loc (fun _ _ => rfl) (fun q b => b.elim (fun a => a.up t) fun a => ?_), x.2.2.2.kf x.2.1 k (fun q z => Or.inr (Or.inr (hP q z))) hm⟩
  · have := x.ms (hP q z)
    exact ⟨this.1.1.1, Or.inr this.2⟩
  · have := x.1.1.1.2.2.2.2.2.2.2
    have := x.1.2.2.1
    exact ⟨⟨by have := a.1; omega, a.2⟩, by have := a.1; omega, by have := a.1; have := ob.2.1; omega, by have := a.1; have := ob.2.2; omega⟩
/-- what touches neither the field nor the class's object: numbers by chance, things made -/
theorem INV.kn {w : am_w} {cm : Int → Int} {sc : Nat} {tx : Int → Int} {bl le : Int} {Hs H1 : List GE} {c s : Nat} (x : INV w o bu r bf f sa pa gs gp T L h D cm sc tx bl le Hs H1) (k : KF h h1 NO c s) : INV w o bu r bf f sa pa gs gp T L h1 D cm sc tx bl le Hs H1 := by
  obtain ⟨a, b, c9⟩ := x.fl k (fun q z => z.elim) (x.2.1.loc (fun q b => k.1 q b.1.2 id) (fun q b => Or.inl b)) (fun q m => Or.inl m)
  exact ⟨a, b, x.2.2.1, c9⟩
theorem INV.kr {w : am_w} {cm : Int → Int} {sc : Nat} {tx : Int → Int} {bl le : Int} {Hs H1 : List GE} {c s : Nat} (x : INV w o bu r bf f sa pa gs gp T L h D cm sc tx bl le Hs H1) (k : KF h h1 (fun q => q = r) c s) (hR : RND h1 r) : INV w o bu r bf f sa pa gs gp T L h1 D cm sc tx bl le Hs H1 := by
  obtain ⟨xL, xF, xX, ⟨⟨R, ⟨r1, r2, r3⟩, ⟨f1, f2, f3⟩⟩, ⟨fz, gb, c0, nb, cp⟩, tr⟩⟩ := x
  have t := k.2.1.1
  have fb : ∀ q, LBM o bu r bf f gp (D 3) h q → h1.1 q = h.1 q := fun q b => k.1 q b.1.1.2 b.1.2.2.1
  have up : ∀ q, LBM o bu r bf f gp (D 3) h q → LBM o bu r bf f gp (D 3) h1 q := fun q b => ⟨b.1.up t, b.2⟩
  obtain ⟨sd, rc⟩ := R
  have nr : r ≠ bf := fun e => by rw [e, c0] at rc; cases rc
  refine ⟨xL.kf k fun q z => ?_, xF.loc (fun q b => k.1 q b.1.2 b.2.2.1) (fun q b => b.up t), xX, ⟨hR, ⟨r1, by omega, r3⟩, ⟨f1, by omega, f3⟩⟩, ⟨fz, gb, (k.1 bf f2 (fun e => nr e.symm)).trans c0, fun j j0 j1 => ?_, fun j e he => ?_⟩, tr.mv fb up⟩
  · have z : q = r := z
    subst z
    refine ⟨r1, Or.inr fun ci nn ff fg e => ?_⟩
    rw [rc] at e; cases e; decide
  · rcases nb j j0 j1 with w9 | ⟨q, w9, ⟨nn, ff, fg, z⟩, b⟩
    · exact Or.inl w9
    · exact Or.inr ⟨q, w9, ⟨nn, ff, fg, (fb q b).trans z⟩, up q b⟩
  · obtain ⟨g, a, sa', pa', gs', gp2, F, y⟩ := cp j e he
    exact ⟨g, a, sa', pa', gs', gp2, F.loc fb up, y⟩
/-- a call of the class -/
theorem INV.go {w : am_w} {cm : Int → Int} {sc : Nat} {tx : Int → Int} {bl le : Int} {Hs H1 : List GE} {E cm' : Int → Int} {sc' n9 : Nat} {tx' : Int → Int} {bl' le' : Int} {Hs' : List GE} (xL : LC w h o bu E cm sc L tx bl le Hs) (xF : FLD h (LB o bu r bf h) f sa pa gs gp T D) (xX : FX D) (xO : OTH o bu r bf f gp (D 3) T L h H1) (C : CCS h1 o (o + 1) (o + 2) (o + 26) (o + 50) (o + 52) (o + 59) (o + 62) D cm' sc' L tx' bl' le' Hs') (g : am_go n9 h h1 o) (hn : sc' ≠ bu ∧ ∀ e ∈ Hs', e.2.2.1 ≠ bu) : INV w o bu r bf f sa pa gs gp T L h1 D cm' sc' tx' bl' le' Hs' H1 :=
  ⟨xL.go C g hn, xF.loc (fun q b => g.kf.1 q b.1.2 (fun z => by have := b.1.1; omega)) (fun q b => b.up g.1.1), xX, xO.kf xF g.kf (fun q z => Or.inl z) (fun q m => Or.inl m)⟩
end JLP
