/-! Fields. -/
/-- entry idx of the class own is the field k of the class with number ci -/
def am_fl (own : String) (idx ci k : Nat) : Prop := ∃ q : vw_C, vwCl[ci]? = some q ∧ k < q.2.2 ∧ (Cond.fieldLink own idx (q.2.1 k).1 (q.2.1 k).2.1 (q.2.1 k).2.2.1 ∈ GW ∨ ∃ host : String, Cond.fieldLinkNest own idx (q.2.1 k).1 (q.2.1 k).2.1 (q.2.1 k).2.2.1 host ∈ am_NW)
section AMEM
variable {p : Program} {l : Launch} {e : Env} {R : Room} {s : State} {m : MethodId} {args : Array Value} {below : List Frame} {meth : Method} {c : Code} {H : Heap} {locs : List Loc} {cells slots : Nat} {Q : State → Prop} {ls : Array Slot} {rest : List Value}
theorem am_obj {b : Nat} {a ci : Nat} {n : Int} {f : Int → Int} {g : Int → Option Nat} {q : vw_C} (h : am_CR b s H a (ci, n, f, g)) (hq : vwCl[ci]? = some q) : b ≤ a ∧ n = (q.2.2 : Int) ∧ ∃ (cC : ClassId) (iS : Nat → Nat), u_Kn s q.1 q.2.1 q.2.2 cC iS ∧ t_OB a cC q.2.2 iS H (fun j => am_sv (am_fty ci j) (f j) (g j)) := by
  have h9 := (am_cls ci q hq).2.2.2
  unfold am_CR at h
  rw [if_pos h9] at h
  obtain ⟨h0, q', cC, iS, h1, h2, h3, h4⟩ := h
  cases hq.symm.trans h1
  exact ⟨h0, h2, cC, iS, h3, h4⟩
theorem am_objI {b : Nat} {a ci : Nat} {n : Int} {f : Int → Int} {g : Int → Option Nat} {q : vw_C} (hq : vwCl[ci]? = some q) (h0 : b ≤ a) (h1 : n = (q.2.2 : Int)) {cC : ClassId} {iS : Nat → Nat} (h2 : u_Kn s q.1 q.2.1 q.2.2 cC iS) (h3 : t_OB a cC q.2.2 iS H (fun j => am_sv (am_fty ci j) (f j) (g j))) : am_CR b s H a (ci, n, f, g) := by
  have h9 := (am_cls ci q hq).2.2.2
  unfold am_CR
  rw [if_pos h9]
  exact ⟨h0, q, cC, iS, hq, h1, h2, h3⟩
theorem am_getW {w : am_w} {y : YR} {d pc idx ci k a : Nat} {n : Int} {f : Int → Int} {g : Int → Option Nat} (hC : am_Ctx y d p l R s m args meth c) (hKS : KS w s) (hcr : am_CR w.1 s H a (ci, n, f, g)) (hf : am_fl y.1.cls idx ci k) (hdg : decode y.2.1 pc = .ok (.getfield idx, 3))
    (kk : W p l e R s m args below meth c H locs cells slots Q (F0 m (pc + 3) ls (am_sv (am_fty ci k) (f k) (g k) :: rest))) : W p l e R s m args below meth c H locs cells slots Q (F0 m pc ls (.ref a :: rest)) := by
  obtain ⟨q, hq, hk, hlk⟩ := hf
  obtain ⟨hin, hnm, hty, -⟩ := am_cls ci q hq
  obtain ⟨-, -, cC, iS, ⟨hS, hfc, kC, hkC, hkind⟩, cell, q1, q2, q3, q4⟩ := am_obj hcr hq
  obtain ⟨cf, kf, fi, fd, hi, hsl⟩ := hS k hk
  have hst := (u_facts hfc hkC (u_lays hC.2.2.2.2.1 hin hk) hi).1
  have hslot : cell.slots[fd.slot]? = some (am_sv (am_fty ci k) (f k) (g k)) := by rw [hsl]; exact q4 k hk
  have hkn : cell.vm ≠ .unknown := by rw [q3]; exact fun h => by cases h
  rcases hlk with hlk | ⟨host, hlk⟩
  · exact W.getf hC.1 hC.2.1 hC.2.2.2.1 (hC.2.2.2.2.1 _ hlk) hi hst q1 hkn hslot rfl rfl hdg kk
  · exact va_Wgetf hC.1 hC.2.1 hC.2.2.2.1 ((hKS.1 _ hlk).use rfl) hi hst q1 hkn hslot rfl rfl hdg kk
/-- a value of a field's type, by its number or reference -/
def am_fitS (ty : FieldType) (z : Int) (r : Option Nat) : Prop := match ty with
  | .int => True
  | .byte => -128 ≤ z ∧ z < 128
  | .long => True
  | .boolean => z = 0 ∨ z = 1
  | .object _ => True
  | .array _ => True
  | _ => False
theorem am_fit_ok {ty : FieldType} {z : Int} {r : Option Nat} (h : am_fitS ty z r) : narrow ty (am_sv ty z r) = am_sv ty z r ∧ fits ty (am_sv ty z r) = true := by
  cases ty with
  | byte =>
    have hz : am_r z := ⟨by have := h.1; omega, by have := h.2; omega⟩
    refine ⟨?_, ?_⟩
    · show narrow .byte (.int (Int32.ofInt z)) = .int (Int32.ofInt z)
      have := h.1
      have := h.2
      rw [narrow_byte, am_i2b]
      congr 2
      omega
    · show (decide (Int32.ofInt (-128) ≤ Int32.ofInt z) && decide (Int32.ofInt z ≤ Int32.ofInt 127)) = true
      have := h.1
      have := h.2
      rw [decide_eq_true ((am_le ⟨by decide, by decide⟩ hz).mpr (by omega)), decide_eq_true ((am_le hz ⟨by decide, by decide⟩).mpr (by omega))]
      rfl
  | boolean =>
    rcases h with rfl | rfl
    · exact ⟨(by decide : narrow .boolean (.int (Int32.ofInt 0)) = .int (Int32.ofInt 0)), (by decide : fits .boolean (.int (Int32.ofInt 0)) = true)⟩
    · exact ⟨(by decide : narrow .boolean (.int (Int32.ofInt 1)) = .int (Int32.ofInt 1)), (by decide : fits .boolean (.int (Int32.ofInt 1)) = true)⟩
  | object _ => cases r <;> exact ⟨rfl, rfl⟩
  | array _ => cases r <;> exact ⟨rfl, rfl⟩
  | int => exact ⟨rfl, rfl⟩
  | long => exact ⟨rfl, rfl⟩
  | char => exact h.elim
  | short => exact h.elim
  | float => exact h.elim
  | double => exact h.elim
def am_uI (f : Int → Int) (k : Int) (z : Int) : Int → Int := fun j => if j = k then z else f j
def am_uR (g : Int → Option Nat) (k : Int) (r : Option Nat) : Int → Option Nat := fun j => if j = k then r else g j
theorem am_putW {w : am_w} {y : YR} {d pc idx ci k a : Nat} {h : AH} {n : Int} {f : Int → Int} {g : Int → Option Nat} {z : Int} {r : Option Nat} (hC : am_Ctx y d p l R s m args meth c) (hKS : KS w s) (hKH : KH w s H) (hR : Rep w.1 s h H) (hcr : h.1 a = some (ci, n, f, g)) (hf : am_fl y.1.cls idx ci k)
    (hfin : ∀ q, vwCl[ci]? = some q → (q.2.1 k).2.2.2 = false ∨ (y.1.name = "<init>" ∧ (q.2.1 k).1 = y.1.cls ∧ Cond.fieldLink y.1.cls idx (q.2.1 k).1 (q.2.1 k).2.1 (q.2.1 k).2.2.1 ∈ GW)) (hfit : am_fitS (am_fty ci k) z r) (hl : ∀ q ∈ locs, am_Fr w.1 q.base) (hdg : decode y.2.1 pc = .ok (.putfield idx, 3))
    (kk : ∀ (H1 : Heap) (locs1 : List Loc), KH w s H1 → Rep w.1 s (am_set h a (ci, n, am_uI f k z, am_uR g k r)) H1 → (∀ q ∈ locs1, am_Fr w.1 q.base) → W p l e R s m args below meth c H1 locs1 cells slots Q (F0 m (pc + 3) ls rest)) : W p l e R s m args below meth c H locs cells slots Q (F0 m pc ls (am_sv (am_fty ci k) z r :: .ref a :: rest)) := by
  obtain ⟨q, hq, hk, hlk⟩ := hf
  have hfin := hfin q hq
  obtain ⟨hin, hnm, hty, -⟩ := am_cls ci q hq
  obtain ⟨h0, hn, cC, iS, hKn, cell, q1, q2, q3, q4⟩ := am_obj (hR.2 a _ hcr) hq
  obtain ⟨hS, hfc, kC, hkC, hkind⟩ := id hKn
  obtain ⟨cf, kf, fi, fd, hi, hsl⟩ := hS k hk
  have hst := (u_facts hfc hkC (u_lays hC.2.2.2.2.1 hin hk) hi).1
  have hap : ∀ x y, x < q.2.2 → y < q.2.2 → x ≠ y → iS x ≠ iS y := by
    intro x y hx hy hne
    obtain ⟨_, _, _, fa, hia, ea⟩ := hS x hx
    obtain ⟨_, _, _, fb, hib, eb⟩ := hS y hy
    rw [← ea, ← eb]
    refine u_apart (u_lays hC.2.2.2.2.1 hin hx) (u_lays hC.2.2.2.2.1 hin hy) hia hib ?_
    rw [(State.fieldFound?_type hia (hty x hx)).1, (State.fieldFound?_type hib (hty y hy)).1]
    exact hnm x hx y hy hne
  have hlay := hC.2.2.2.2.1 _ (hin _ (u_in_lay hk))
  unfold u_lay at hlay
  obtain ⟨hnar, hfits⟩ := am_fit_ok hfit
  have hsl2 : fd.slot < cell.slots.size := by rw [hsl]; exact k2_hasslot (q4 k hk)
  have fin : ∀ H' : Heap, H'[a]? = some (cell.setSlot fd.slot (am_sv (am_fty ci k) z r)) → H'.size = H.size → (∀ q, q ≠ a → H'[q]? = H[q]?) → W p l e R s m args below meth c H' (locs ++ [⟨a, fd.slot⟩]) cells slots Q (F0 m (pc + 3) ls rest) := by
    intro H' e1 e2 e3
    rw [hsl] at e1
    refine kk H' _ (hKH.one h0 e2 e3) (hR.set e2 e3 (am_objI hq h0 hn hKn ?_)) (fun x hx => ?_)
    · refine t_OB.to (V := updV (fun j => am_sv (am_fty ci j) (f j) (g j)) k (am_sv (am_fty ci k) z r)) ⟨_, e1, q2, q3, t_set q4 hap hk _⟩ (fun j hj => ?_)
      simp only [updV, am_uI, am_uR]
      by_cases hjk : j = k
      · subst hjk; simp
      · rw [if_neg hjk, if_neg (by omega), if_neg (by omega)]
    · rcases List.mem_append.mp hx with hx | hx
      · exact hl x hx
      · rw [List.mem_singleton.mp hx]; exact h0
  by_cases hff : (q.2.1 k).2.2.2 = true
  · rw [if_pos hff] at hlay
    obtain ⟨hin2, hdecl, hlk2⟩ := hfin.resolve_left (by rw [hff]; decide)
    have hcf : m.cls = cf := by
      obtain ⟨_, _, c', _, _, _, -, -, hf', -, -, -, hown2, -⟩ := Cond.laysFinal_spec hlay
      have e1 : c' = cf := by have := hi.symm.trans hf'; simp at this; exact this.1.symm
      rw [hdecl] at hown2
      rw [← e1]; exact Option.some.inj (hC.2.2.2.1.symm.trans hown2)
    have h6 := u_fits hfc hkC hkind (Or.inr hlay) hi (hty k hk) hnar hfits
    exact W.putFinK hC.1 hC.2.1 hC.2.2.2.1 (hC.2.2.2.2.1 _ hlk2) hi hst hcf (hC.2.2.2.2.2.2.2.2.2.2.2.trans hin2) (by rw [q2]; exact h6) q1 q3 hsl2 rfl rfl hdg fin
  · rw [if_neg hff] at hlay
    have h6 := u_store hfc hkC hkind hlay hi (hty k hk) hnar hfits
    rcases hlk with hlk | ⟨host, hlk⟩
    · exact W.putK hC.1 hC.2.1 (f := fd) ⟨hC.2.2.2.1, hC.2.2.2.2.1 _ hlk, ⟨_, _, _, hi⟩, hst⟩ (by rw [q2]; exact h6) q1 q3 hsl2 rfl rfl hdg fin
    · exact va_WputK hC.1 hC.2.1 (f := fd) hC.2.2.2.1 ((hKS.1 _ hlk).use rfl) hi hst (by rw [q2]; exact h6) q1 q3 hsl2 rfl rfl hdg fin
end AMEM

section AMS
variable {w : am_w} {y : YR} {d pc : Nat} {lv lv2 : List (Nat × AV)} {st st2 : List AV} {h h2 : AH}
/-- the form for what writes: the counts stay -/
theorem AS.liftH {pc2 : Nat} (hc : h2.2 = h.2)
    (row : ∀ (p : Program) (l : Launch) (e : Env) (R : Room) (s : State) (m : MethodId) (args : Array Value) (below : List Frame) (meth : Method) (c : Code) (H : Heap) (locs : List Loc) (cells slots : Nat) (Q : State → Prop) (ls : Array Slot),
      am_Ctx y d p l R s m args meth c → KS w s → KH w s H → Rep w.1 s h H → (∀ q ∈ locs, am_Fr w.1 q.base) → cells ≤ R.cells → slots ≤ R.slots → lv_has ls y.2.2.1 (am_lv lv) →
      (∀ (H1 : Heap) (locs1 : List Loc) (ls2 : Array Slot), KH w s H1 → Rep w.1 s h2 H1 → (∀ q ∈ locs1, am_Fr w.1 q.base) → lv_has ls2 y.2.2.1 (am_lv lv2) → W p l e R s m args below meth c H1 locs1 cells slots Q (F0 m pc2 ls2 (am_st st2))) → W p l e R s m args below meth c H locs cells slots Q (F0 m pc ls (am_st st))) :
    AS w y d pc lv st h pc2 lv2 st2 h2 := by
  intro r h' k
  obtain ⟨k1, k2, k3⟩ := k
  rw [hc] at k1 k2
  refine ⟨k1, k2, fun p l e R s m args below meth c H locs cells slots Q ls hC hKS hKH hR hl hv hcl hsl hE => ?_⟩
  refine row p l e R s m args below meth c H locs cells slots Q ls hC hKS hKH hR hl (by omega) (by omega) hv fun H1 locs1 ls2 hKH1 hR1 hl1 hv2 => ?_
  have k4 := k3 p l e R s m args below meth c H1 locs1 cells slots Q ls2 hC hKS hKH1 hR1 hl1 hv2
  rw [hc] at k4
  exact k4 hcl hsl hE
variable {idx ci k a : Nat} {n : Int} {f : Int → Int} {g : Int → Option Nat}
theorem AS.getI (hd : decode y.2.1 pc = .ok (.getfield idx, 3)) (hf : am_fl y.1.cls idx ci k) (hty : am_fty ci k = .int ∨ am_fty ci k = .boolean) (hc : h.1 a = some (ci, n, f, g)) : AS w y d pc lv (vr a :: st) h (pc + 3) lv (vi (f k) :: st) h :=
  AS.lift fun p l e R s m args below meth c H locs cells slots Q ls hC hKS hKH hR hl hcl hsl hv kk => am_getW hC hKS (hR.2 a _ hc) hf hd (by
    have := kk ls hv
    rcases hty with e | e <;> (rw [e]; exact this))
theorem AS.getR {q : Nat} (hd : decode y.2.1 pc = .ok (.getfield idx, 3)) (hf : am_fl y.1.cls idx ci k) (hty : (∃ z, am_fty ci k = .object z) ∨ ∃ z, am_fty ci k = .array z) (hc : h.1 a = some (ci, n, f, g)) (hg : g k = some q) : AS w y d pc lv (vr a :: st) h (pc + 3) lv (vr q :: st) h :=
  AS.lift fun p l e R s m args below meth c H locs cells slots Q ls hC hKS hKH hR hl hcl hsl hv kk => am_getW hC hKS (hR.2 a _ hc) hf hd (by
    have := kk ls hv
    rw [hg]
    rcases hty with ⟨z, e⟩ | ⟨z, e⟩ <;> (rw [e]; exact this))
/-- a field of a class's own, or of a nest mate's, that may be written here -/
def am_fw (y : YR) (idx ci k : Nat) : Prop := ∀ q, vwCl[ci]? = some q → (q.2.1 k).2.2.2 = false ∨ (y.1.name = "<init>" ∧ (q.2.1 k).1 = y.1.cls ∧ Cond.fieldLink y.1.cls idx (q.2.1 k).1 (q.2.1 k).2.1 (q.2.1 k).2.2.1 ∈ GW)
theorem AS.putI {z : Int} (hd : decode y.2.1 pc = .ok (.putfield idx, 3)) (hf : am_fl y.1.cls idx ci k) (hfw : am_fw y idx ci k) (hty : am_fty ci k = .int ∨ (am_fty ci k = .boolean ∧ (z = 0 ∨ z = 1))) (hc : h.1 a = some (ci, n, f, g)) : AS w y d pc lv (vi z :: vr a :: st) h (pc + 3) lv st (am_set h a (ci, n, am_uI f k z, g)) :=
  AS.liftH rfl fun p l e R s m args below meth c H locs cells slots Q ls hC hKS hKH hR hl hcl hsl hv kk => by
    have e1 : am_sv (am_fty ci k) z (g k) = .int (Int32.ofInt z) := by
      rcases hty with e | e
      · rw [e]; rfl
      · rw [e.1]; rfl
    have e3 : am_fitS (am_fty ci k) z (g k) := by
      rcases hty with e | e
      · rw [e]; trivial
      · rw [e.1]; exact e.2
    have e2 : am_uR g k (g k) = g := funext fun j => by
      simp only [am_uR]
      split
      · rename_i e; rw [e]
      · rfl
    have := am_putW (z := z) (r := g k) (rest := am_st st) (Q := Q) (ls := ls) (cells := cells) (slots := slots) (e := e) (below := below) hC hKS hKH hR hc hf hfw e3 hl hd (fun H1 locs1 hKH1 hR1 hl1 => kk H1 locs1 ls hKH1 (by rw [e2] at hR1; exact hR1) hl1 hv)
    rw [e1] at this
    exact this
theorem AS.putR {q : Nat} (hd : decode y.2.1 pc = .ok (.putfield idx, 3)) (hf : am_fl y.1.cls idx ci k) (hfw : am_fw y idx ci k) (hty : (∃ z, am_fty ci k = .object z) ∨ ∃ z, am_fty ci k = .array z) (hc : h.1 a = some (ci, n, f, g)) : AS w y d pc lv (vr q :: vr a :: st) h (pc + 3) lv st (am_set h a (ci, n, f, am_uR g k (some q))) :=
  AS.liftH rfl fun p l e R s m args below meth c H locs cells slots Q ls hC hKS hKH hR hl hcl hsl hv kk => by
    have e1 : am_sv (am_fty ci k) (f k) (some q) = .ref q := by rcases hty with ⟨z, e⟩ | ⟨z, e⟩ <;> (rw [e]; rfl)
    have e2 : am_uI f k (f k) = f := funext fun j => by
      simp only [am_uI]
      split
      · rename_i e; rw [e]
      · rfl
    have := am_putW (z := f k) (r := some q) (rest := am_st st) (Q := Q) (ls := ls) (cells := cells) (slots := slots) (e := e) (below := below) hC hKS hKH hR hc hf hfw (by rcases hty with ⟨z, e⟩ | ⟨z, e⟩ <;> (rw [e]; trivial)) hl hd (fun H1 locs1 hKH1 hR1 hl1 => kk H1 locs1 ls hKH1 (by rw [e2] at hR1; exact hR1) hl1 hv)
    rw [e1] at this
    exact this
end AMS
