/-! The text that the law writes: its data read. -/
theorem rN_ok {kd st vl : Int → Int} {lo hi he : Int} (h : kd he = 2) (a : lo ≤ vl he) (b : vl he ≤ hi) : rN kd st vl lo hi he = .inr (vl he) := by
  unfold rN
  rw [if_pos h, if_pos ⟨a, b⟩]
theorem rT_ok {kd st : Int → Int} {k he : Int} (h : kd he = k) : rT kd st k he = .inr () := if_pos h
theorem rP_ok {kd st vl : Int → Int} {w hh he : Int} (h : kd he = 2) (h' : kd (he + 1) = 2) (a : 0 ≤ vl he ∧ vl he ≤ w) (b : 0 ≤ vl (he + 1) ∧ vl (he + 1) ≤ hh) : rP kd st vl w hh he = .inr (vl he, vl (he + 1)) := by
  unfold rP
  rw [rB_r (rN_ok h a.1 a.2), rB_r (rN_ok h' b.1 b.2)]
/-- what is read of this text: these data; then the rest, in so many steps less -/
def RDS (Z : List Int) (D : Int → Int) (Lo : Option GL) (j : Nat) : Prop := ∃ l, SEP Z l ∧ ∀ kd st vl : Int → Int, ATK kd vl 0 l → rD kd st vl = rR kd st vl (800 - j) D Lo (l.length : Int)
theorem SEP.lit (i : Nat) {l : List (Int × Int)} {X : List Int} (e : gm_lit i = X) (h : SEP X l) : SEP (gm_lit i) l := by rw [e]; exact h
theorem SEG.lit (i : Nat) {l : List (Int × Int)} {X : List Int} (e : gm_lit i = X) (h : SEG X l) : SEG (gm_lit i) l := by rw [e]; exact h
theorem gx_l20 : gm_lit 20 = [59] := by decide +kernel
theorem gx_l24 : gm_lit 24 = [32, 59] := by decide +kernel
theorem gx_l23 : gm_lit 23 = [] := by decide +kernel
theorem gx_l18 : gm_lit 18 = [102, 105, 101, 108, 100] := by decide +kernel
theorem gx_l21 : gm_lit 21 = [115, 116, 111, 110, 101] := by decide +kernel
theorem gx_l22 : gm_lit 22 = [112, 111, 108, 121, 103, 111, 110] := by decide +kernel
theorem gx_l25 : gm_lit 25 = [115, 99, 111, 114, 101, 32] := by decide +kernel
theorem gx_59 : SEP [59] [(59, 0)] := SEP.y (by unfold gx_al; omega) (by decide)
theorem gx_g18 : SEG (gm_lit 18) [(3, 0)] := by rw [gx_l18]; exact SEG.wd (by decide +kernel) (by decide) (by decide)
theorem gx_g21 : SEG (gm_lit 21) [(4, 0)] := by rw [gx_l21]; exact SEG.wd (by decide +kernel) (by decide) (by decide)
theorem gx_g22 : SEG (gm_lit 22) [(5, 0)] := by rw [gx_l22]; exact SEG.wd (by decide +kernel) (by decide) (by decide)
theorem gx_g25 : SEP (gm_lit 25) [(6, 0)] := by
  rw [gx_l25]
  exact (SEG.wd (X := [115, 99, 111, 114, 101]) (k := 6) (by decide +kernel) (by decide) (by decide)).sp SEP.b (by unfold gx_al; omega)
theorem gx_p59 {X : List Int} {l : List (Int × Int)} (h : SEG X l) : SEP (X ++ gm_lit 20) (l ++ [(59, 0)]) := by
  rw [gx_l20]
  exact h.sp gx_59 (by unfold gx_al; omega)
theorem gx_p24 {X : List Int} {l : List (Int × Int)} (h : SEG X l) : SEP (X ++ gm_lit 24) (l ++ [(59, 0)]) := by
  rw [gx_l24]
  exact h.sp (SEP.b.app gx_59) (by unfold gx_al; omega)
/-- the field's own statement -/
theorem RDS.field {f : Int → Int} (hx : 2 ≤ f 0 ∧ f 0 ≤ 30) (hy : 2 ≤ f 1 ∧ f 1 ≤ 30) : RDS ([] ++ gm_lit 18 ++ gx_nums f (2 : Int).toNat ++ gm_lit 20) (gm_emp (f 0) (f 1)) none 0 := by
  refine ⟨_, gx_p59 (gx_g18.nums (f := f) (2 : Int).toNat fun i i0 i1 => ?_), fun kd st vl a => ?_⟩
  · have i1 : i < 2 := i1
    rcases (show i = 0 ∨ i = 1 by omega) with rfl | rfl <;> omega
  · have a : ATK kd vl 0 [(3, 0), (2, f 0), (2, f 1), (59, 0)] := a
    obtain ⟨⟨e0, -⟩, a⟩ := a.hd
    obtain ⟨⟨e1, v1⟩, a⟩ := a.hd
    obtain ⟨⟨e2, v2⟩, a⟩ := a.hd
    obtain ⟨⟨e3, -⟩, -⟩ := a.hd
    have e1 : kd 1 = 2 := e1
    have v1 : vl 1 = f 0 := v1
    have e2 : kd 2 = 2 := e2
    have v2 : vl 2 = f 1 := v2
    have e3 : kd 3 = 59 := e3
    unfold rD rF
    rw [rB_r (rT_ok e0), rB_r (rN_ok e1 (by omega) (by omega)), rB_r (rN_ok e2 (by omega) (by omega)), rB_r (rT_ok e3), v1, v2]
    rfl
theorem gx_r800 {kd st vl D : Int → Int} {j : Nat} (hj : j < 800) {Lo : Option GL} {he : Int} : rR kd st vl (800 - j) D Lo he = if kd he = 0 then .inr (D, Lo) else if kd he = 4 then rB (rS kd st vl D he) (fun D' => rR kd st vl (800 - (j + 1)) D' Lo (he + 1 + 1 + 1 + 1 + 1)) else if kd he = 5 then rB (rG kd st vl D he) (fun r => rR kd st vl (800 - (j + 1)) r.1 Lo r.2) else if kd he = 6 then rB (rW kd st vl (if Lo.isSome then 1 else 0) he) (fun r => rR kd st vl (800 - (j + 1)) D (some r.1) r.2) else .inl (-2, st he) := by
  rw [show 800 - j = (800 - (j + 1)) + 1 by omega, rR]
/-- a stone -/
theorem RDS.stone {Z : List Int} {D f : Int → Int} {j : Nat} (h : RDS Z D none j) (hj : j < 800) (h2 : D 2 < 20) (hx : 0 ≤ f 0 ∧ f 0 ≤ D 0) (hy : 0 ≤ f 1 ∧ f 1 ≤ D 1) (hd : D 0 ≤ 30 ∧ D 1 ≤ 30) (hv : 1 ≤ f 2 ∧ f 2 ≤ 99) (ho : ¬ gm_oc D (f 0) (f 1)) : RDS (Z ++ gm_lit 21 ++ gx_nums f (3 : Int).toNat ++ gm_lit 20) (gm_addS D (f 0) (f 1) (f 2)) none (j + 1) := by
  obtain ⟨l, s, r⟩ := h
  have q := s.app (gx_p59 (gx_g21.nums (f := f) (3 : Int).toNat fun i i0 i1 => by
    have i1 : i < 3 := i1
    rcases (show i = 0 ∨ i = 1 ∨ i = 2 by omega) with rfl | rfl | rfl <;> omega))
  rw [← List.append_assoc, ← List.append_assoc] at q
  refine ⟨_, q, fun kd st vl a => ?_⟩
  obtain ⟨a0, a⟩ := a.app
  obtain ⟨he, hh⟩ : ∃ he : Int, he = (l.length : Int) := ⟨_, rfl⟩
  have e9 : ((l ++ ([(4, 0)] ++ gx_tn f (3 : Int).toNat ++ [(59, 0)])).length : Int) = he + 1 + 1 + 1 + 1 + 1 := by
    rw [List.length_append]
    show ((l.length + 5 : Nat) : Int) = _
    omega
  rw [r kd st vl a0, gx_r800 hj, e9, ← hh]
  rw [Int.zero_add, ← hh] at a
  have a : ATK kd vl he [(4, 0), (2, f 0), (2, f 1), (2, f 2), (59, 0)] := a
  obtain ⟨⟨e0, -⟩, a⟩ := a.hd
  obtain ⟨⟨e1, v1⟩, a⟩ := a.hd
  obtain ⟨⟨e2, v2⟩, a⟩ := a.hd
  obtain ⟨⟨e3, v3⟩, a⟩ := a.hd
  obtain ⟨⟨e4, -⟩, -⟩ := a.hd
  rw [if_neg (by omega), if_pos e0]
  unfold rS
  rw [if_pos h2, rB_r (rP_ok e1 e2 (by omega) (by omega))]
  show rB (gm_ite (gm_oc D (vl (he + 1)) (vl (he + 1 + 1))) _ _) _ = _
  rw [v1, v2, gm_ite_f ho, rB_r (rN_ok e3 (by omega) (by omega)), rB_r (rT_ok e4), v3]
  rfl
/-- a polygon's corners: tokens, text -/
def gx_tp (E : Int → Int) (p : Int) : Nat → List (Int × Int)
  | 0 => []
  | n + 1 => gx_tp E p n ++ [(2, pX E p n), (2, pY E p n)]
def gx_xy (E : Int → Int) (p : Int) (n : Int) (i : Int) : Int := if i = 0 then pX E p n else pY E p n
def gx_xp (E : Int → Int) (p : Int) : Nat → List Int
  | 0 => []
  | n + 1 => gx_xp E p n ++ gx_nums (gx_xy E p n) 2
theorem gx_tp_l {E : Int → Int} {p : Int} : ∀ n : Nat, (gx_tp E p n).length = 2 * n
  | 0 => rfl
  | n + 1 => by
    rw [gx_tp, List.length_append, gx_tp_l n]
    show 2 * n + 2 = _
    omega
theorem gx_tp_e {E E' : Int → Int} {p : Int} : ∀ n : Nat, (∀ k : Int, 0 ≤ k → k < n → pX E' p k = pX E p k ∧ pY E' p k = pY E p k) → gx_tp E' p n = gx_tp E p n
  | 0, _ => rfl
  | n + 1, h => by
    have e := h n (by omega) (by omega)
    rw [gx_tp, gx_tp, gx_tp_e n (fun k k0 k1 => h k k0 (by omega)), e.1, e.2]
theorem SEG.xp {X : List Int} {l : List (Int × Int)} {E : Int → Int} {p : Int} (h : SEG X l) : ∀ n : Nat, (∀ k : Int, 0 ≤ k → k < n → (0 ≤ pX E p k ∧ pX E p k ≤ 9999) ∧ (0 ≤ pY E p k ∧ pY E p k ≤ 9999)) → SEG (X ++ gx_xp E p n) (l ++ gx_tp E p n)
  | 0, _ => by rw [show gx_xp E p 0 = [] from rfl, show gx_tp E p 0 = [] from rfl, List.append_nil, List.append_nil]; exact h
  | n + 1, hf => by
    have e := hf n (by omega) (by omega)
    have q := (SEG.xp h n (fun k k0 k1 => hf k k0 (by omega))).nums (f := gx_xy E p n) 2 fun i i0 i1 => by
      unfold gx_xy
      split <;> omega
    rw [List.append_assoc, List.append_assoc] at q
    exact q
/-- a polygon, so far as it is read -/
def RPK (D E : Int → Int) : Prop := ∀ (kd st vl : Int → Int) (he : Int), ATK kd vl he ((5, 0) :: (2, pO E (D 3)) :: gx_tp E (D 3) (pN E (D 3)).toNat) → rG kd st vl D he = rB (rK kd st vl (D 3) (801 - (pN E (D 3)).toNat) E (he + 2 + 2 * pN E (D 3))) (fun r => if kd r.2 = 59 then gm_ite (gm_rL r.1 (D 3) 0) (.inr (gm_clP r.1 (D 3), r.2 + 1)) (.inl (-4, st r.2)) else .inl (-2, st r.2))
theorem RPK.st {D : Int → Int} (h3 : 0 ≤ D 3 ∧ D 3 < 6) {o x y : Int} (ho : 0 ≤ o ∧ o ≤ 3) (hx : 0 ≤ x ∧ x ≤ D 0) (hy : 0 ≤ y ∧ y ≤ D 1) (hn : ¬ gm_oc D x y) : RPK D (gm_stP D o x y) := fun kd st vl he a => by
  obtain ⟨p1, p2, -, p3, p4⟩ := gm_stP_p (o := o) (x := x) (y := y) h3.1
  rw [p1, p2, show (1 : Int).toNat = 0 + 1 from rfl, gx_tp, show pX (gm_stP D o x y) (D 3) ((0 : Nat) : Int) = x from p3, show pY (gm_stP D o x y) (D 3) ((0 : Nat) : Int) = y from p4] at a
  have a : ATK kd vl he [(5, 0), (2, o), (2, x), (2, y)] := a
  obtain ⟨-, a⟩ := a.hd
  obtain ⟨⟨e1, v1⟩, a⟩ := a.hd
  obtain ⟨⟨e2, v2⟩, a⟩ := a.hd
  obtain ⟨⟨e3, v3⟩, -⟩ := a.hd
  unfold rG
  rw [if_pos h3.2, rB_r (rN_ok e1 (by omega) (by omega)), rB_r (rP_ok e2 e3 (by omega) (by omega))]
  show gm_ite (gm_oc D (vl (he + 1 + 1)) (vl (he + 1 + 1 + 1))) _ (rB (rK kd st vl (D 3) 800 (gm_stP D _ (vl (he + 1 + 1)) (vl (he + 1 + 1 + 1))) _) _) = _
  rw [v1, v2, v3, gm_ite_f hn, p2, show he + 1 + 1 + 1 + 1 = he + 2 + 2 * 1 by omega]
  rfl
theorem RPK.ad {D E : Int → Int} (h : RPK D E) {x y : Int} (h0 : E 0 = D 0 ∧ E 1 = D 1) (hx : 0 ≤ x ∧ x ≤ D 0) (hy : 0 ≤ y ∧ y ≤ D 1) (h1 : 1 ≤ pN E (D 3) ∧ pN E (D 3) < 12) (hr : gm_rC E (D 3) x y 0) : RPK D (gm_adC E (D 3) x y) := fun kd st vl he a => by
  have en : pN (gm_adC E (D 3) x y) (D 3) = pN E (D 3) + 1 := gm_setP_n
  have ex : ∀ k : Int, 0 ≤ k → k < 12 → _ := fun k k0 k1 => gm_setP_x (D := E) (p := D 3) (n := pN E (D 3) + 1) (c := pC E (D 3)) (xs := gm_in (pN E (D 3)) x (pX E (D 3))) (ys := gm_in (pN E (D 3)) y (pY E (D 3))) (k := k) k0 k1
  obtain ⟨n, hn⟩ : ∃ n : Nat, (pN E (D 3)).toNat = n := ⟨_, rfl⟩
  have hn' : pN E (D 3) = n := by omega
  have q := h kd st vl he
  rw [en, show pO (gm_adC E (D 3) x y) (D 3) = pO E (D 3) from gm_setP_w, show (pN E (D 3) + 1).toNat = n + 1 by omega, gx_tp, gx_tp_e (E := E) n (fun k k0 k1 => by
    have := ex k k0 (by omega)
    rw [gm_in_lt (by omega), gm_in_lt (by omega)] at this
    exact this)] at a
  have e := ex n (by omega) (by omega)
  rw [← hn', gm_in_eq, gm_in_eq] at e
  have ex1 : pX (gm_adC E (D 3) x y) (D 3) ((n : Nat) : Int) = x := by rw [← hn']; exact e.1
  have ey1 : pY (gm_adC E (D 3) x y) (D 3) ((n : Nat) : Int) = y := by rw [← hn']; exact e.2
  rw [ex1, ey1] at a
  have a : ATK kd vl he (((5, 0) :: (2, pO E (D 3)) :: gx_tp E (D 3) n) ++ [(2, x), (2, y)]) := a
  obtain ⟨a1, a2⟩ := a.app
  rw [hn] at q
  rw [q a1, en, show 801 - n = (801 - (n + 1)) + 1 by omega, show (pN E (D 3) + 1).toNat = n + 1 by omega]
  have ln : (((5, 0) :: (2, pO E (D 3)) :: gx_tp E (D 3) n : List (Int × Int)).length : Int) = 2 + 2 * pN E (D 3) := by
    rw [List.length_cons, List.length_cons, gx_tp_l]
    omega
  rw [ln, ← Int.add_assoc] at a2
  obtain ⟨⟨e1, v1⟩, a2⟩ := a2.hd
  obtain ⟨⟨e2, v2⟩, -⟩ := a2.hd
  have go := rK_go (kd := kd) (st := st) (vl := vl) (p := D 3) (f := 801 - (n + 1) + 1) (D := E) (he := he + 2 + 2 * pN E (D 3)) (x := x) (y := y) (Nat.succ_pos _) e1 (by
    have := rP_ok (st := st) (vl := vl) (w := E 0) (hh := E 1) e1 e2 (by omega) (by omega)
    rwa [v1, v2] at this) hr
  rw [go, show he + 2 + 2 * pN E (D 3) + 1 + 1 = he + 2 + 2 * (pN E (D 3) + 1) by omega]
  rfl
/-- a polygon -/
theorem RDS.poly {Z : List Int} {D E : Int → Int} {j : Nat} (h : RDS Z D none j) (hj : j < 800) (k : RPK D E) (hr : gm_rL E (D 3) 0) {f : Int → Int} (hf : f 0 = pO E (D 3)) (ho : 0 ≤ pO E (D 3) ∧ pO E (D 3) ≤ 3) (hn : 0 ≤ pN E (D 3) ∧ pN E (D 3) ≤ 12) (hp : ∀ k : Int, 0 ≤ k → k < pN E (D 3) → (0 ≤ pX E (D 3) k ∧ pX E (D 3) k ≤ 30) ∧ (0 ≤ pY E (D 3) k ∧ pY E (D 3) k ≤ 30)) : RDS (Z ++ gm_lit 22 ++ gx_nums f (1 : Int).toNat ++ gx_xp E (D 3) (pN E (D 3)).toNat ++ gm_lit 24) (gm_clP E (D 3)) none (j + 1) := by
  obtain ⟨l, s, r⟩ := h
  have q := s.app (gx_p24 ((gx_g22.nums (f := f) (1 : Int).toNat fun i i0 i1 => by
    have i1 : i < 1 := i1
    obtain rfl : i = 0 := by omega
    omega).xp (E := E) (p := D 3) (pN E (D 3)).toNat fun k k0 k1 => by
      have := hp k k0 (by omega)
      omega))
  rw [← List.append_assoc, ← List.append_assoc, ← List.append_assoc] at q
  refine ⟨_, q, fun kd st vl a => ?_⟩
  obtain ⟨a0, a⟩ := a.app
  obtain ⟨he, hh⟩ : ∃ he : Int, he = (l.length : Int) := ⟨_, rfl⟩
  obtain ⟨n, hn'⟩ : ∃ n : Nat, (pN E (D 3)).toNat = n := ⟨_, rfl⟩
  rw [hn'] at a ⊢
  have e9 : ((l ++ ([(5, 0)] ++ gx_tn f (1 : Int).toNat ++ gx_tp E (D 3) n ++ [(59, 0)])).length : Int) = he + 2 + 2 * pN E (D 3) + 1 := by
    rw [List.length_append, List.length_append, List.length_append, gx_tp_l]
    show ((l.length + (2 + 2 * n + 1) : Nat) : Int) = _
    omega
  rw [r kd st vl a0, gx_r800 hj, e9, ← hh]
  rw [Int.zero_add, ← hh] at a
  obtain ⟨a1, a2⟩ := a.app
  have a1 : ATK kd vl he ((5, 0) :: (2, f 0) :: gx_tp E (D 3) n) := a1
  rw [hf, ← hn'] at a1
  obtain ⟨⟨e0, -⟩, -⟩ := a1.hd
  have ln : (([(5, 0)] ++ gx_tn f (1 : Int).toNat ++ gx_tp E (D 3) n).length : Int) = 2 + 2 * pN E (D 3) := by
    rw [List.length_append, gx_tp_l]
    show ((2 + 2 * n : Nat) : Int) = _
    omega
  rw [ln, ← Int.add_assoc] at a2
  obtain ⟨⟨e1, -⟩, -⟩ := a2.hd
  rw [if_neg (by omega), if_neg (by omega), if_pos e0, k kd st vl he a1, rK_end (Or.inr (by omega))]
  show rB (if kd (he + 2 + 2 * pN E (D 3)) = 59 then gm_ite (gm_rL E (D 3) 0) _ _ else _) _ = _
  rw [if_pos e1, gm_ite_t hr]
  rfl
/-- the score -/
theorem RDS.score {Z : List Int} {D : Int → Int} {j d : Nat} {L : GL} {X : Int → List Int} (h : RDS Z D none j) (hj : j < 800) (hd : d ≤ 4) (x : PX d L X) : RDS (Z ++ gm_lit 25 ++ X 0 ++ gm_lit 20) D (some L) (j + 1) := by
  obtain ⟨l, s, r⟩ := h
  obtain ⟨l2, s2, r2⟩ := x.scr hd
  have q := s.app (gx_g25.app (gx_p59 s2))
  rw [← List.append_assoc, ← List.append_assoc] at q
  refine ⟨_, q, fun kd st vl a => ?_⟩
  obtain ⟨a0, a⟩ := a.app
  obtain ⟨he, hh⟩ : ∃ he : Int, he = (l.length : Int) := ⟨_, rfl⟩
  have e9 : ((l ++ ([(6, 0)] ++ (l2 ++ [(59, 0)]))).length : Int) = he + 1 + l2.length + 1 := by
    rw [List.length_append, List.length_append, List.length_append]
    show ((l.length + (1 + (l2.length + 1)) : Nat) : Int) = _
    omega
  rw [r kd st vl a0, gx_r800 hj, e9, ← hh]
  rw [Int.zero_add, ← hh] at a
  have a : ATK kd vl he ((6, 0) :: (l2 ++ [(59, 0)])) := a
  obtain ⟨⟨e0, -⟩, a⟩ := a.hd
  rw [if_neg (by omega), if_neg (by omega), if_neg (by omega), if_pos e0, show (if (none : Option GL).isSome then (1 : Int) else 0) = 0 from rfl, rB_r (r2 kd st vl he a)]
/-- the whole text -/
theorem RDS.rd {Z : List Int} {D : Int → Int} {Lo : Option GL} {j : Nat} (h : RDS Z D Lo j) {tx : Int → Int} (d : ATL tx 0 Z) (hl : (Z.length : Int) ≤ 800) {kd st vl : Int → Int} (hT : TKA kd st vl (gm_to tx Z.length 801 0)) : rD kd st vl = .inr (D, Lo) := by
  obtain ⟨l, s, r⟩ := h
  have q := s.rd d hl hT
  have a : ATK kd vl 0 (l ++ [(0, 0)]) := fun k o e => by rw [Int.zero_add]; exact q k o e
  obtain ⟨a1, a2⟩ := a.app
  obtain ⟨⟨e, -⟩, -⟩ := a2.hd
  rw [Int.zero_add] at e
  rw [r kd st vl a1, rR_e (Or.inr e)]
