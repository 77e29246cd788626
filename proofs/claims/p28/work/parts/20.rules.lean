/-! The rules in the form in which scripts use them. -/
/-- an object's numbers and references, by a list each -/
def am_L (l : List Int) : Int → Int
  | .ofNat j => l.getD j 0
  | .negSucc _ => 0
def am_G (l : List (Option Nat)) : Int → Option Nat
  | .ofNat j => l.getD j none
  | .negSucc _ => none
def am_N : Int → Option Nat := fun _ => none
theorem am_uI_L {l : List Int} {k : Nat} {z : Int} (hk : k < l.length) : am_uI (am_L l) k z = am_L (l.set k z) := by
  funext j
  cases j with
  | ofNat j =>
    show (if Int.ofNat j = (k : Int) then z else l.getD j 0) = (l.set k z).getD j 0
    by_cases e : j = k
    · subst e
      have e2 : Int.ofNat j = (j : Int) := rfl
      rw [if_pos e2]
      simp [List.getD_eq_getElem?_getD, hk]
    · have e2 : ¬ Int.ofNat j = (k : Int) := fun q => e (Int.ofNat.inj q)
      rw [if_neg e2]
      simp [List.getD_eq_getElem?_getD, List.getElem?_set, Ne.symm e]
  | negSucc j =>
    show (if Int.negSucc j = (k : Int) then z else 0) = 0
    rw [if_neg (fun q => by cases q)]
theorem am_uR_G {l : List (Option Nat)} {k : Nat} {z : Option Nat} (hk : k < l.length) : am_uR (am_G l) k z = am_G (l.set k z) := by
  funext j
  cases j with
  | ofNat j =>
    show (if Int.ofNat j = (k : Int) then z else l.getD j none) = (l.set k z).getD j none
    by_cases e : j = k
    · subst e
      have e2 : Int.ofNat j = (j : Int) := rfl
      rw [if_pos e2]
      simp [List.getD_eq_getElem?_getD, hk]
    · have e2 : ¬ Int.ofNat j = (k : Int) := fun q => e (Int.ofNat.inj q)
      rw [if_neg e2]
      simp [List.getD_eq_getElem?_getD, List.getElem?_set, Ne.symm e]
  | negSucc j =>
    show (if Int.negSucc j = (k : Int) then z else none) = none
    rw [if_neg (fun q => by cases q)]
/-- a boolean answer -/
def am_b (z : Int) (P : Prop) : Prop := (z = 1 ∧ P) ∨ (z = 0 ∧ ¬ P)
/-- nothing of the heap changes -/
def am_intp (h : AH) (P : Int → Prop) : RV → AH → Prop := am_int fun z h1 => P z ∧ h = h1
def am_refp (h : AH) (P : Nat → Prop) : RV → AH → Prop := am_ref fun z h1 => P z ∧ h = h1
def am_lngp (h : AH) (P : Int → Prop) : RV → AH → Prop := am_lng fun z h1 => P z ∧ h = h1
theorem am_at {h h2 : AH} {a : Nat} {x : AC} (e : h2 = am_set h a x) : h2.1 a = some x := by rw [e]; exact am_set_at h a x
theorem am_ne {h h2 : AH} {a : Nat} {x : AC} (e : h2 = am_set h a x) : ∀ q, q ≠ a → h2.1 q = h.1 q := by rw [e]; exact fun q hq => am_set_ne x hq
theorem am_z {h h2 : AH} {a : Nat} {x : AC} (e : h2 = am_set h a x) : h2.2 = h.2 := by rw [e]; rfl
theorem am_uI_at (f : Int → Int) (i z : Int) : am_uI f i z i = z := if_pos rfl
theorem am_uI_ne (f : Int → Int) {i j : Int} (z : Int) (h : j ≠ i) : am_uI f i z j = f j := if_neg h
/-- nothing changes but from lo on below hi, and nothing is made -/
def am_fr (h h1 : AH) (lo hi : Nat) : Prop := h1.2 = h.2 ∧ ∀ q, ¬ (lo ≤ q ∧ q < hi) → h1.1 q = h.1 q
theorem am_fr.rf {h : AH} {lo hi : Nat} : am_fr h h lo hi := ⟨rfl, fun _ _ => rfl⟩
theorem am_fr.tr {h h1 h2 : AH} {lo hi : Nat} (a : am_fr h h1 lo hi) (b : am_fr h1 h2 lo hi) : am_fr h h2 lo hi := ⟨b.1.trans a.1, fun q hq => (b.2 q hq).trans (a.2 q hq)⟩
theorem am_fr.mo {h h1 : AH} {lo hi lo' hi' : Nat} (a : am_fr h h1 lo hi) (l : lo' ≤ lo) (u : hi ≤ hi') : am_fr h h1 lo' hi' := ⟨a.1, fun q hq => a.2 q (fun z => hq ⟨Nat.le_trans l z.1, Nat.lt_of_lt_of_le z.2 u⟩)⟩
theorem am_fr.st {h h2 : AH} {a : Nat} {x : AC} {lo hi : Nat} (e : h2 = am_set h a x) (l : lo ≤ a) (u : a < hi) : am_fr h h2 lo hi := ⟨am_z e, fun q hq => am_ne e q (fun z => hq (by rw [z]; exact ⟨l, u⟩))⟩
section QR
variable {w : am_w} {y y2 : YR} {d d2 pc pc2 idx n a b tgt : Nat} {lv lv2 : List (Nat × AV)} {av st st2 stk : List AV} {h : AH} {Q : RV → AH → Prop} {off : Int}
theorem q_blk {l : List Instr} (hd : am_dec y.2.1 pc l pc2 = true) (hr : am_run y.2.2.1 l lv st = some (lv2, st2)) (k : AQ w y d pc2 lv2 st2 h Q) : AQ w y d pc lv st h Q := AQ.of (am_run_ok hd hr) k
theorem q_sub (ks : List Nat) (hp : am_pick lv ks = lv2) (k : AQ w y d pc lv2 st h Q) : AQ w y d pc lv st h Q := AQ.of (AS.sub ks hp) k
theorem q_goto (hd : decode y.2.1 pc = .ok (.goto off, 3)) (ht : (pc : Int) + off = (tgt : Int)) (k : AQ w y d tgt lv st h Q) : AQ w y d pc lv st h Q := AQ.of (AS.goto hd ht) k
theorem q_gi {ci k : Nat} {nn z : Int} {f : Int → Int} {g : Int → Option Nat} (hd : decode y.2.1 pc = .ok (.getfield idx, 3)) (hf : am_fl y.1.cls idx ci k) (hty : am_fty ci k = .int ∨ am_fty ci k = .boolean) (hc : h.1 a = some (ci, nn, f, g)) (he : f k = z) (kk : AQ w y d (pc + 3) lv (vi z :: st) h Q) : AQ w y d pc lv (vr a :: st) h Q := AQ.of (AS.getI hd hf hty hc) (he.symm ▸ kk)
theorem q_gr {ci k q : Nat} {nn : Int} {f : Int → Int} {g : Int → Option Nat} (hd : decode y.2.1 pc = .ok (.getfield idx, 3)) (hf : am_fl y.1.cls idx ci k) (hty : (∃ z, am_fty ci k = .object z) ∨ ∃ z, am_fty ci k = .array z) (hc : h.1 a = some (ci, nn, f, g)) (hg : g k = some q) (kk : AQ w y d (pc + 3) lv (vr q :: st) h Q) : AQ w y d pc lv (vr a :: st) h Q := AQ.of (AS.getR hd hf hty hc hg) kk
theorem q_al {ci : Nat} {nn : Int} {f : Int → Int} {g : Int → Option Nat} (hd : decode y.2.1 pc = .ok (.arraylength, 1)) (hc : h.1 a = some (ci, nn, f, g)) (hk : ci = 100 ∨ ci = 101 ∨ ci = 102 ∨ ci = 103 ∨ ci = 104 ∨ ci = 105 ∨ ci = 110 ∨ ci = 111 ∨ ci = 106 ∨ ci = 107) (kk : AQ w y d (pc + 1) lv (vi nn :: st) h Q) : AQ w y d pc lv (vr a :: st) h Q := AQ.of (AS.alen hd hk hc) kk
theorem q_ia {ci : Nat} {nn i z : Int} {f : Int → Int} {g : Int → Option Nat} (hd : decode y.2.1 pc = .ok (.iaload, 1)) (hc : h.1 a = some (ci, nn, f, g)) (hk : ci = 100 ∨ ci = 110) (h0 : 0 ≤ i) (h1 : i < nn) (he : f i = z) (kk : AQ w y d (pc + 1) lv (vi z :: st) h Q) : AQ w y d pc lv (vi i :: vr a :: st) h Q := AQ.of (AS.iald hd hc hk h0 h1) (he.symm ▸ kk)
theorem q_ba {ci : Nat} {nn i z : Int} {f : Int → Int} {g : Int → Option Nat} (hd : decode y.2.1 pc = .ok (.baload, 1)) (hc : h.1 a = some (ci, nn, f, g)) (hk : ci = 101 ∨ ci = 111) (h0 : 0 ≤ i) (h1 : i < nn) (he : f i = z) (kk : AQ w y d (pc + 1) lv (vi z :: st) h Q) : AQ w y d pc lv (vi i :: vr a :: st) h Q := AQ.of (AS.bald hd hc hk h0 h1) (he.symm ▸ kk)
theorem q_la {nn i z : Int} {f : Int → Int} {g : Int → Option Nat} (hd : decode y.2.1 pc = .ok (.laload, 1)) (hc : h.1 a = some (102, nn, f, g)) (h0 : 0 ≤ i) (h1 : i < nn) (he : f i = z) (kk : AQ w y d (pc + 1) lv (vl z :: st) h Q) : AQ w y d pc lv (vi i :: vr a :: st) h Q := AQ.of (AS.lald hd hc h0 h1) (he.symm ▸ kk)
theorem q_aa {ci q : Nat} {nn i : Int} {f : Int → Int} {g : Int → Option Nat} (hd : decode y.2.1 pc = .ok (.aaload, 1)) (hc : h.1 a = some (ci, nn, f, g)) (hk : ci = 103 ∨ ci = 104 ∨ ci = 105 ∨ ci = 106 ∨ ci = 107) (h0 : 0 ≤ i) (h1 : i < nn) (hg : g i = some q) (kk : AQ w y d (pc + 1) lv (vr q :: st) h Q) : AQ w y d pc lv (vi i :: vr a :: st) h Q := AQ.of (AS.aald hd hc hk h0 h1 hg) kk
/-- a number is stored in a field: the new heap by a name -/
theorem q_pi {ci k : Nat} {nn z : Int} {l l2 : List Int} {g : Int → Option Nat} (hd : decode y.2.1 pc = .ok (.putfield idx, 3)) (hf : am_fl y.1.cls idx ci k) (hfw : am_fw y idx ci k) (hty : am_fty ci k = .int ∨ (am_fty ci k = .boolean ∧ (z = 0 ∨ z = 1))) (hc : h.1 a = some (ci, nn, am_L l, g)) (hk : k < l.length) (hl : l.set k z = l2) (kk : ∀ h2 : AH, h2 = am_set h a (ci, nn, am_L l2, g) → AQ w y d (pc + 3) lv st h2 Q) : AQ w y d pc lv (vi z :: vr a :: st) h Q := by
  refine AQ.of (AS.putI hd hf hfw hty hc) ?_
  rw [am_uI_L hk, hl]
  exact kk _ rfl
theorem q_pr {ci k q : Nat} {nn : Int} {f : Int → Int} {l l2 : List (Option Nat)} (hd : decode y.2.1 pc = .ok (.putfield idx, 3)) (hf : am_fl y.1.cls idx ci k) (hfw : am_fw y idx ci k) (hty : (∃ z, am_fty ci k = .object z) ∨ ∃ z, am_fty ci k = .array z) (hc : h.1 a = some (ci, nn, f, am_G l)) (hk : k < l.length) (hl : l.set k (some q) = l2) (kk : ∀ h2 : AH, h2 = am_set h a (ci, nn, f, am_G l2) → AQ w y d (pc + 3) lv st h2 Q) : AQ w y d pc lv (vr q :: vr a :: st) h Q := by
  refine AQ.of (AS.putR hd hf hfw hty hc) ?_
  rw [am_uR_G hk, hl]
  exact kk _ rfl
theorem q_is {nn i z : Int} {f : Int → Int} {g : Int → Option Nat} (hd : decode y.2.1 pc = .ok (.iastore, 1)) (hc : h.1 a = some (100, nn, f, g)) (h0 : 0 ≤ i) (h1 : i < nn) (kk : ∀ h2 : AH, h2 = am_set h a (100, nn, am_uI f i z, g) → AQ w y d (pc + 1) lv st h2 Q) : AQ w y d pc lv (vi z :: vi i :: vr a :: st) h Q := AQ.of (AS.iast hd hc h0 h1) (kk _ rfl)
theorem q_ls {nn i z : Int} {f : Int → Int} {g : Int → Option Nat} (hd : decode y.2.1 pc = .ok (.lastore, 1)) (hc : h.1 a = some (102, nn, f, g)) (h0 : 0 ≤ i) (h1 : i < nn) (kk : ∀ h2 : AH, h2 = am_set h a (102, nn, am_uI f i z, g) → AQ w y d (pc + 1) lv st h2 Q) : AQ w y d pc lv (vl z :: vi i :: vr a :: st) h Q := AQ.of (AS.last hd hc h0 h1) (kk _ rfl)
theorem q_bs {nn i z : Int} {f : Int → Int} {g : Int → Option Nat} (hd : decode y.2.1 pc = .ok (.bastore, 1)) (hc : h.1 a = some (101, nn, f, g)) (h0 : 0 ≤ i) (h1 : i < nn) (b1 : -128 ≤ z) (b2 : z < 128) (kk : ∀ h2 : AH, h2 = am_set h a (101, nn, am_uI f i z, g) → AQ w y d (pc + 1) lv st h2 Q) : AQ w y d pc lv (vi z :: vi i :: vr a :: st) h Q := AQ.of (AS.bast hd hc h0 h1 b1 b2) (kk _ rfl)
theorem q_as {ci ck q : Nat} {nn n2 i : Int} {f f2 : Int → Int} {g g2 : Int → Option Nat} (hd : decode y.2.1 pc = .ok (.aastore, 1)) (hk : (ci = 103 ∧ ck = 0) ∨ (ci = 104 ∧ ck = 6) ∨ (ci = 106 ∧ ck = 11) ∨ (ci = 107 ∧ ck = 8)) (hc : h.1 a = some (ci, nn, f, g)) (h0 : 0 ≤ i) (h1 : i < nn) (hq : h.1 q = some (ck, n2, f2, g2)) (kk : ∀ h2 : AH, h2 = am_set h a (ci, nn, f, am_uR g i (some q)) → AQ w y d (pc + 1) lv st h2 Q) : AQ w y d pc lv (vr q :: vi i :: vr a :: st) h Q := AQ.of (AS.aast hd hk hc h0 h1 hq) (kk _ rfl)
theorem q_ac {a1 b1 : Nat} {n0 n1 sp dp k : Int} {f0 f1 : Int → Int} {g0 g1 : Int → Option Nat} (hd : decode y.2.1 pc = .ok (.invokestatic idx, 3)) (ha : h.1 a1 = some (100, n0, f0, g0)) (hb : h.1 b1 = some (100, n1, f1, g1)) (p1 : 0 ≤ sp) (p2 : 0 ≤ dp) (p3 : 0 ≤ k) (p4 : sp + k ≤ n0) (p5 : dp + k ≤ n1) (h1 : Cond.methodLink y.1.cls idx arraycopyName ∈ GW) (h2 : Cond.native arraycopyName ∈ GW) (h3 : Cond.static arraycopyName ∈ GW) (h4 : Cond.initialized "java/lang/System" ∈ GW) (hd1 : 2 ≤ d) (h8 : am_cat8 st ≤ 8)
    (kk : ∀ h2 : AH, h2 = am_set h b1 (100, n1, am_cpy f0 f1 sp dp k, g1) → AQ w y d (pc + 3) lv st h2 Q) : AQ w y d pc lv (vi k :: vi dp :: vr b1 :: vi sp :: vr a1 :: st) h Q := AQ.of (AS.acopy hd ha hb p1 p2 p3 p4 p5 h1 h2 h3 h4 hd1 h8) (kk _ rfl)
theorem q_ret {v : Option AV} (hd : decode y.2.1 pc = .ok (am_retI y.2.2.2.1, 1)) (hok : am_okr y.2.2.2.1 v) (hst : st = v.toList) (hq : Q (.inl v) h) : AQ w y d pc lv st h Q := by
  subst hst
  exact AQ.ret hd hok hq
theorem q_rv (hr : y.2.2.2.1 = none) (hd : decode y.2.1 pc = .ok (.return_, 1)) (hq : Q (.inl none) h) : AQ w y d pc lv [] h Q := AQ.ret (v := none) (by rw [hr]; exact hd) (by rw [hr]; rfl) hq
theorem q_ri {z : Int} (hr : y.2.2.2.1 = some .int) (hd : decode y.2.1 pc = .ok (.ireturn, 1)) (hq : Q (.inl (some (vi z))) h) : AQ w y d pc lv [vi z] h Q := AQ.ret (v := some (vi z)) (by rw [hr]; exact hd) (by rw [hr]; exact ⟨z, rfl⟩) hq
theorem q_rz {z : Int} (hr : y.2.2.2.1 = some .boolean) (hd : decode y.2.1 pc = .ok (.ireturn, 1)) (hz : z = 0 ∨ z = 1) (hq : Q (.inl (some (vi z))) h) : AQ w y d pc lv [vi z] h Q := AQ.ret (v := some (vi z)) (by rw [hr]; exact hd) (by rw [hr]; exact ⟨z, rfl, hz⟩) hq
theorem q_rl {z : Int} (hr : y.2.2.2.1 = some .long) (hd : decode y.2.1 pc = .ok (.lreturn, 1)) (hq : Q (.inl (some (vl z))) h) : AQ w y d pc lv [vl z] h Q := AQ.ret (v := some (vl z)) (by rw [hr]; exact hd) (by rw [hr]; exact ⟨z, rfl⟩) hq
theorem q_ra {q : Nat} {C : String} (hr : y.2.2.2.1 = some (.object C)) (hd : decode y.2.1 pc = .ok (.areturn, 1)) (hq : Q (.inl (some (vr q))) h) : AQ w y d pc lv [vr q] h Q := AQ.ret (v := some (vr q)) (by rw [hr]; exact hd) (by rw [hr]; exact ⟨q, rfl⟩) hq
end QR
section QC
variable {w : am_w} {y y2 : YR} {d d2 pc idx n b : Nat} {lv : List (Nat × AV)} {av st stk : List AV} {h : AH} {Q : RV → AH → Prop}
theorem q_Vi {P : Int → Prop} {ci : Nat} (hE : AE w y2 d2 (vr b :: av) h (am_intp h P)) (hlk : am_lkV y.1.cls idx y2 n) (hdd : d2 + 1 ≤ d) (hst : stk = av.reverse ++ vr b :: st) (hn : av.length = n) (hb : am_ob h b ci) (hcl : ∃ q, vwCl[ci]? = some q ∧ q.1 = y2.1.cls) (h8 : am_cat8 st ≤ 8) (hd : decode y.2.1 pc = .ok (.invokevirtual idx, 3)) (kk : ∀ z, P z → AQ w y d (pc + 3) lv (vi z :: st) h Q) : AQ w y d pc lv stk h Q := by
  refine AQ.callVi hE hlk hdd hst hn hb hcl h8 hd (fun z h1 hp => ?_)
  obtain ⟨hp, rfl⟩ := hp
  exact kk z hp
theorem q_Vl {P : Int → Prop} {ci : Nat} (hE : AE w y2 d2 (vr b :: av) h (am_lngp h P)) (hlk : am_lkV y.1.cls idx y2 n) (hdd : d2 + 1 ≤ d) (hst : stk = av.reverse ++ vr b :: st) (hn : av.length = n) (hb : am_ob h b ci) (hcl : ∃ q, vwCl[ci]? = some q ∧ q.1 = y2.1.cls) (h8 : am_cat8 st ≤ 8) (hd : decode y.2.1 pc = .ok (.invokevirtual idx, 3)) (kk : ∀ z, P z → AQ w y d (pc + 3) lv (vl z :: st) h Q) : AQ w y d pc lv stk h Q := by
  refine AQ.callVl hE hlk hdd hst hn hb hcl h8 hd (fun z h1 hp => ?_)
  obtain ⟨hp, rfl⟩ := hp
  exact kk z hp
theorem q_Vr {P : Nat → Prop} {ci : Nat} (hE : AE w y2 d2 (vr b :: av) h (am_refp h P)) (hlk : am_lkV y.1.cls idx y2 n) (hdd : d2 + 1 ≤ d) (hst : stk = av.reverse ++ vr b :: st) (hn : av.length = n) (hb : am_ob h b ci) (hcl : ∃ q, vwCl[ci]? = some q ∧ q.1 = y2.1.cls) (h8 : am_cat8 st ≤ 8) (hd : decode y.2.1 pc = .ok (.invokevirtual idx, 3)) (kk : ∀ z, P z → AQ w y d (pc + 3) lv (vr z :: st) h Q) : AQ w y d pc lv stk h Q := by
  refine AQ.callVr hE hlk hdd hst hn hb hcl h8 hd (fun z h1 hp => ?_)
  obtain ⟨hp, rfl⟩ := hp
  exact kk z hp
theorem q_Si {P : Int → Prop}  (hE : AE w y2 d2 av h (am_intp h P)) (hlk : am_lkS y.1.cls idx y2 n) (hdd : d2 + 1 ≤ d) (hst : stk = av.reverse ++ st) (hn : av.length = n) (h8 : am_cat8 st ≤ 8) (hd : decode y.2.1 pc = .ok (.invokestatic idx, 3)) (kk : ∀ z, P z → AQ w y d (pc + 3) lv (vi z :: st) h Q) : AQ w y d pc lv stk h Q := by
  refine AQ.callSi hE hlk hdd hst hn h8 hd (fun z h1 hp => ?_)
  obtain ⟨hp, rfl⟩ := hp
  exact kk z hp
theorem q_Sl {P : Int → Prop}  (hE : AE w y2 d2 av h (am_lngp h P)) (hlk : am_lkS y.1.cls idx y2 n) (hdd : d2 + 1 ≤ d) (hst : stk = av.reverse ++ st) (hn : av.length = n) (h8 : am_cat8 st ≤ 8) (hd : decode y.2.1 pc = .ok (.invokestatic idx, 3)) (kk : ∀ z, P z → AQ w y d (pc + 3) lv (vl z :: st) h Q) : AQ w y d pc lv stk h Q := by
  refine AQ.callSl hE hlk hdd hst hn h8 hd (fun z h1 hp => ?_)
  obtain ⟨hp, rfl⟩ := hp
  exact kk z hp
theorem q_Sr {P : Nat → Prop}  (hE : AE w y2 d2 av h (am_refp h P)) (hlk : am_lkS y.1.cls idx y2 n) (hdd : d2 + 1 ≤ d) (hst : stk = av.reverse ++ st) (hn : av.length = n) (h8 : am_cat8 st ≤ 8) (hd : decode y.2.1 pc = .ok (.invokestatic idx, 3)) (kk : ∀ z, P z → AQ w y d (pc + 3) lv (vr z :: st) h Q) : AQ w y d pc lv stk h Q := by
  refine AQ.callSr hE hlk hdd hst hn h8 hd (fun z h1 hp => ?_)
  obtain ⟨hp, rfl⟩ := hp
  exact kk z hp
end QC
/-- loops: some numbers vary, a measure falls -/
theorem am_lp1 {A : Type} {I : A → Prop} {G : A → Prop} (μ : A → Nat) (hs : ∀ a, I a → (∀ b, I b → μ b < μ a → G b) → G a) : ∀ a, I a → G a := by
  have : ∀ (n : Nat) (a : A), μ a < n → I a → G a := by
    intro n
    induction n with
    | zero => intro a h; exact absurd h (Nat.not_lt_zero _)
    | succ n ih => intro a h hI; exact hs a hI fun b hb hlt => ih b (by omega) hb
  exact fun a => this (μ a + 1) a (Nat.lt_succ_self _)
theorem am_lp2 {A B : Type} {I : A → B → Prop} {G : A → B → Prop} (μ : A → B → Nat) (hs : ∀ a b, I a b → (∀ a' b', I a' b' → μ a' b' < μ a b → G a' b') → G a b) (a : A) (b : B) (h : I a b) : G a b :=
  am_lp1 (I := fun q : A × B => I q.1 q.2) (G := fun q : A × B => G q.1 q.2) (fun q => μ q.1 q.2) (fun q hI k => hs q.1 q.2 hI fun a' b' => k (a', b')) (a, b) h
theorem am_lp3 {A B C : Type} {I : A → B → C → Prop} {G : A → B → C → Prop} (μ : A → B → C → Nat) (hs : ∀ a b c, I a b c → (∀ a' b' c', I a' b' c' → μ a' b' c' < μ a b c → G a' b' c') → G a b c) (a : A) (b : B) (c : C) (h : I a b c) : G a b c :=
  am_lp1 (I := fun q : A × B × C => I q.1 q.2.1 q.2.2) (G := fun q : A × B × C => G q.1 q.2.1 q.2.2) (fun q => μ q.1 q.2.1 q.2.2) (fun q hI k => hs q.1 q.2.1 q.2.2 hI fun a' b' c' => k (a', b', c')) (a, b, c) h
theorem am_lp4 {A B C E : Type} {I : A → B → C → E → Prop} {G : A → B → C → E → Prop} (μ : A → B → C → E → Nat) (hs : ∀ a b c e, I a b c e → (∀ a' b' c' e', I a' b' c' e' → μ a' b' c' e' < μ a b c e → G a' b' c' e') → G a b c e) (a : A) (b : B) (c : C) (e : E) (h : I a b c e) : G a b c e :=
  am_lp1 (I := fun q : A × B × C × E => I q.1 q.2.1 q.2.2.1 q.2.2.2) (G := fun q : A × B × C × E => G q.1 q.2.1 q.2.2.1 q.2.2.2) (fun q => μ q.1 q.2.1 q.2.2.1 q.2.2.2) (fun q hI k => hs q.1 q.2.1 q.2.2.1 q.2.2.2 hI fun a' b' c' e' => k (a', b', c', e')) (a, b, c, e) h
/-- answers are of the method's kind -/
theorem am_bz {z : Int} {P : Prop} (h : am_b z P) : z = 0 ∨ z = 1 := by
  rcases h with ⟨h, -⟩ | ⟨h, -⟩
  · exact Or.inr h
  · exact Or.inl h
theorem am_ok_i {P : Int → AH → Prop} : ∀ v h', am_int P (.inl v) h' → am_okr (some .int) v := fun v h' ⟨z, e, _⟩ => by cases e; exact ⟨z, rfl⟩
theorem am_ok_z {P : Int → AH → Prop} (hz : ∀ z h', P z h' → z = 0 ∨ z = 1) : ∀ v h', am_int P (.inl v) h' → am_okr (some .boolean) v := fun v h' ⟨z, e, p⟩ => by cases e; exact ⟨z, rfl, hz z h' p⟩
theorem am_ok_ip {h : AH} {P : Int → Prop} : ∀ v h', am_intp h P (.inl v) h' → am_okr (some .int) v := am_ok_i
theorem am_ok_zp {h : AH} {P : Int → Prop} (hz : ∀ z, P z → z = 0 ∨ z = 1) : ∀ v h', am_intp h P (.inl v) h' → am_okr (some .boolean) v := am_ok_z fun z _ p => hz z p.1
theorem am_ok_l {P : Int → AH → Prop} : ∀ v h', am_lng P (.inl v) h' → am_okr (some .long) v := fun v h' ⟨z, e, _⟩ => by cases e; exact ⟨z, rfl⟩
theorem am_ok_lp {h : AH} {P : Int → Prop} : ∀ v h', am_lngp h P (.inl v) h' → am_okr (some .long) v := am_ok_l
theorem am_ok_r {P : Nat → AH → Prop} {C : String} : ∀ v h', am_ref P (.inl v) h' → am_okr (some (.object C)) v := fun v h' ⟨z, e, _⟩ => by cases e; exact ⟨z, rfl⟩
theorem am_ok_rp {h : AH} {P : Nat → Prop} {C : String} : ∀ v h', am_refp h P (.inl v) h' → am_okr (some (.object C)) v := am_ok_r
theorem am_ok_v {P : AH → Prop} : ∀ v h', am_unit P (.inl v) h' → am_okr none v := fun v h' ⟨e, _⟩ => by cases e; rfl
theorem am_ok_or {Q : RV → AH → Prop} {X : Nat → AH → Prop} {ret : Option FieldType} (k : ∀ v h', Q (.inl v) h' → am_okr ret v) : ∀ v h', am_or Q X (.inl v) h' → am_okr ret v := fun v h' p => by
  rcases p with p | ⟨k2, e, _⟩
  · exact k v h' p
  · cases e
