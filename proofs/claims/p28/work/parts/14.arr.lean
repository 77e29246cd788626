/-! Arrays. -/
section AARR
variable {w : am_w} {y : YR} {d pc : Nat} {lv : List (Nat × AV)} {st : List AV} {h : AH} {a : Nat} {n : Int} {f : Int → Int} {g : Int → Option Nat}
def am_aty (k : Nat) : FieldType := if k = 110 then .int else if k = 111 then .byte else am_ety k
theorem am_arr {b : Nat} {s : State} {H : Heap} {ci : Nat} (hk : ci = 100 ∨ ci = 101 ∨ ci = 102 ∨ ci = 103 ∨ ci = 104 ∨ ci = 105 ∨ ci = 110 ∨ ci = 111 ∨ ci = 106 ∨ ci = 107) (h : am_CR b s H a (ci, n, f, g)) :
    0 ≤ n ∧ n < 2147483648 ∧ ∃ cell : Cell, H[a]? = some cell ∧ s.isArrayOf cell (am_aty ci) ∧ cell.vm ≠ .unknown ∧ cell.slots.size = n.toNat ∧ ∀ j : Nat, j < n.toNat → cell.slots[j]? = some (am_sv (am_aty ci) (f j) (g j)) := by
  unfold am_CR at h
  by_cases h1 : ci < 14
  · omega
  rw [if_neg h1] at h
  by_cases h2 : ci < 110
  · rw [if_pos h2] at h
    obtain ⟨-, cA, k1, k2, k3, k4, k5⟩ := h
    have e : am_aty ci = am_ety ci := by
      unfold am_aty
      rw [if_neg (by omega), if_neg (by omega)]
    rw [e]
    exact ⟨k3, k4, _, k5, k1 _ _, (fun q => by cases q), arrV_size _ _ _, fun j hj => arrV_read _ _ hj⟩
  · rw [if_neg h2, if_pos (by omega)] at h
    obtain ⟨cell, k1, k2, k3, k4, k5, k6, k7⟩ := h
    refine ⟨k5, k6, cell, k1, ?_, k3, k4, fun j hj => ?_⟩
    · have e : am_aty ci = if ci = 110 then .int else .byte := by
        unfold am_aty
        by_cases h3 : ci = 110
        · rw [if_pos h3, if_pos h3]
        · rw [if_neg h3, if_neg h3, if_pos (by omega)]
      rw [e]
      exact k2
    · rw [k7 j hj]
      have : ci = 110 ∨ ci = 111 := by omega
      rcases this with rfl | rfl <;> rfl
theorem am_ix {i n : Int} (h0 : 0 ≤ i) (h1 : i < n) (hn : n < 2147483648) {z : Nat} (hz : z = n.toNat) : ¬ (Int32.ofInt i < 0 ∨ z ≤ (Int32.ofInt i).toNatClampNeg) ∧ (Int32.ofInt i).toNatClampNeg = i.toNat ∧ i.toNat < n.toNat ∧ ((i.toNat : Nat) : Int) = i := by
  have hi : am_r i := ⟨by omega, by omega⟩
  rw [am_clamp hi, hz]
  refine ⟨?_, rfl, by omega, by omega⟩
  rintro (q | q)
  · have := (am_lt hi am_r0).mp q
    omega
  · omega
theorem AS.alen {ci : Nat} (hd : decode y.2.1 pc = .ok (.arraylength, 1)) (hk : ci = 100 ∨ ci = 101 ∨ ci = 102 ∨ ci = 103 ∨ ci = 104 ∨ ci = 105 ∨ ci = 110 ∨ ci = 111 ∨ ci = 106 ∨ ci = 107) (hc : h.1 a = some (ci, n, f, g)) : AS w y d pc lv (vr a :: st) h (pc + 1) lv (vi n :: st) h :=
  AS.lift fun p l e R s m args below meth c H locs cells slots Q ls hC hKS hKH hR hl hcl hsl hv kk => by
    obtain ⟨k1, k2, cell, k3, k4, k5, k6, k7⟩ := am_arr hk (hR.2 a _ hc)
    refine W.alen hC.1 hC.2.1 k3 k4 ?_ rfl rfl hd (kk ls hv)
    rw [k6]
    show Int32.ofNat n.toNat = Int32.ofInt n
    rw [← Int32.ofInt_eq_ofNat, Int.toNat_of_nonneg k1]
theorem AS.iald {ci : Nat} {i : Int} (hd : decode y.2.1 pc = .ok (.iaload, 1)) (hc : h.1 a = some (ci, n, f, g)) (hk : ci = 100 ∨ ci = 110) (h0 : 0 ≤ i) (h1 : i < n) : AS w y d pc lv (vi i :: vr a :: st) h (pc + 1) lv (vi (f i) :: st) h :=
  AS.lift fun p l e R s m args below meth c H locs cells slots Q ls hC hKS hKH hR hl hcl hsl hv kk => by
    obtain ⟨k1, k2, cell, k3, k4, k5, k6, k7⟩ := am_arr (by omega) (hR.2 a _ hc)
    obtain ⟨j1, j2, j3, j4⟩ := am_ix h0 h1 k2 k6
    have ev : cell.slots[(Int32.ofInt i).toNatClampNeg]? = some (.int (Int32.ofInt (f i))) := by
      rw [j2, k7 _ j3, j4]
      rcases hk with rfl | rfl <;> rfl
    exact W.iald hC.1 hC.2.1 k3 (by rcases hk with rfl | rfl <;> exact k4) k5 j1 ev rfl rfl hd (kk ls hv)
theorem AS.bald {ci : Nat} {i : Int} (hd : decode y.2.1 pc = .ok (.baload, 1)) (hc : h.1 a = some (ci, n, f, g)) (hk : ci = 101 ∨ ci = 111) (h0 : 0 ≤ i) (h1 : i < n) : AS w y d pc lv (vi i :: vr a :: st) h (pc + 1) lv (vi (f i) :: st) h :=
  AS.lift fun p l e R s m args below meth c H locs cells slots Q ls hC hKS hKH hR hl hcl hsl hv kk => by
    obtain ⟨k1, k2, cell, k3, k4, k5, k6, k7⟩ := am_arr (by omega) (hR.2 a _ hc)
    obtain ⟨j1, j2, j3, j4⟩ := am_ix h0 h1 k2 k6
    have ev : cell.slots[(Int32.ofInt i).toNatClampNeg]? = some (.int (Int32.ofInt (f i))) := by
      rw [j2, k7 _ j3, j4]
      rcases hk with rfl | rfl <;> rfl
    exact W.bald hC.1 hC.2.1 k3 (by rcases hk with rfl | rfl <;> exact k4) k5 j1 ev rfl rfl hd (kk ls hv)
theorem AS.lald {i : Int} (hd : decode y.2.1 pc = .ok (.laload, 1)) (hc : h.1 a = some (102, n, f, g)) (h0 : 0 ≤ i) (h1 : i < n) : AS w y d pc lv (vi i :: vr a :: st) h (pc + 1) lv (vl (f i) :: st) h :=
  AS.lift fun p l e R s m args below meth c H locs cells slots Q ls hC hKS hKH hR hl hcl hsl hv kk => by
    obtain ⟨k1, k2, cell, k3, k4, k5, k6, k7⟩ := am_arr (by omega) (hR.2 a _ hc)
    obtain ⟨j1, j2, j3, j4⟩ := am_ix h0 h1 k2 k6
    have ev : cell.slots[(Int32.ofInt i).toNatClampNeg]? = some (.long (Int64.ofInt (f i))) := by
      rw [j2, k7 _ j3, j4]
      rfl
    exact W.lald hC.1 hC.2.1 k3 k4 k5 j1 ev rfl rfl hd (kk ls hv)
theorem AS.aald {ci : Nat} {i : Int} {q : Nat} (hd : decode y.2.1 pc = .ok (.aaload, 1)) (hc : h.1 a = some (ci, n, f, g)) (hk : ci = 103 ∨ ci = 104 ∨ ci = 105 ∨ ci = 106 ∨ ci = 107) (h0 : 0 ≤ i) (h1 : i < n) (hg : g i = some q) : AS w y d pc lv (vi i :: vr a :: st) h (pc + 1) lv (vr q :: st) h :=
  AS.lift fun p l e R s m args below meth c H locs cells slots Q ls hC hKS hKH hR hl hcl hsl hv kk => by
    obtain ⟨k1, k2, cell, k3, k4, k5, k6, k7⟩ := am_arr (by omega) (hR.2 a _ hc)
    obtain ⟨j1, j2, j3, j4⟩ := am_ix h0 h1 k2 k6
    have ev : cell.slots[(Int32.ofInt i).toNatClampNeg]? = some (.ref q) := by
      rw [j2, k7 _ j3, j4, hg]
      rcases hk with rfl | rfl | rfl | rfl | rfl <;> rfl
    exact W.aald (ty := am_aty ci) hC.1 hC.2.1 k3 k4 (by rcases hk with rfl | rfl | rfl | rfl | rfl <;> rfl) k5 j1 ev rfl rfl hd (kk ls hv)
theorem am_own {b : Nat} {s : State} {H : Heap} {ci : Nat} (h9 : ¬ ci < 14) (hk : ci < 110) (h : am_CR b s H a (ci, n, f, g)) : b ≤ a ∧ 0 ≤ n ∧ n < 2147483648 ∧ ∃ cA : ClassId, ArrOfT s cA (am_ety ci) ∧ va_RA s cA (am_ety ci) ∧ H[a]? = some (arrV cA n.toNat (fun j => am_sv (am_ety ci) (f j) (g j))) := by
  unfold am_CR at h
  rw [if_neg h9, if_pos hk] at h
  obtain ⟨h0, cA, k1, k2, k3, k4, k5⟩ := h
  exact ⟨h0, k3, k4, cA, k1, k2, k5⟩
theorem am_ownI {b : Nat} {s : State} {H : Heap} {ci : Nat} (h9 : ¬ ci < 14) (hk : ci < 110) (h0 : b ≤ a) (h1 : 0 ≤ n) (h2 : n < 2147483648) {cA : ClassId} (h3 : ArrOfT s cA (am_ety ci)) (h4 : va_RA s cA (am_ety ci)) (h5 : H[a]? = some (arrV cA n.toNat (fun j => am_sv (am_ety ci) (f j) (g j)))) : am_CR b s H a (ci, n, f, g) := by
  unfold am_CR
  rw [if_neg h9, if_pos hk]
  exact ⟨h0, cA, h3, h4, h1, h2, h5⟩
theorem am_updI {ty : FieldType} {i z : Int} {v : Value} (h0 : 0 ≤ i) (hv : am_sv ty z (g i) = v) : updV (fun j => am_sv ty (f j) (g j)) i.toNat v = fun j : Nat => am_sv ty (am_uI f i z j) (g j) := by
  funext j
  simp only [updV, am_uI]
  by_cases e : j = i.toNat
  · rw [if_pos e, if_pos (by omega), ← hv]
    congr 2
    omega
  · rw [if_neg e, if_neg (by omega)]
theorem am_updR {ty : FieldType} {i : Int} {r : Option Nat} {v : Value} (h0 : 0 ≤ i) (hv : am_sv ty (f i) r = v) : updV (fun j => am_sv ty (f j) (g j)) i.toNat v = fun j : Nat => am_sv ty (f j) (am_uR g i r j) := by
  funext j
  simp only [updV, am_uR]
  by_cases e : j = i.toNat
  · rw [if_pos e, if_pos (by omega), ← hv]
    congr 2
    omega
  · rw [if_neg e, if_neg (by omega)]
theorem am_locs {b a k : Nat} {locs : List Loc} (hl : ∀ q ∈ locs, am_Fr b q.base) (ha : b ≤ a) : ∀ q ∈ locs ++ [⟨a, k⟩], am_Fr b q.base := by
  intro x hx
  rcases List.mem_append.mp hx with hx | hx
  · exact hl x hx
  · rw [List.mem_singleton.mp hx]; exact ha
theorem AS.iast {i z : Int} (hd : decode y.2.1 pc = .ok (.iastore, 1)) (hc : h.1 a = some (100, n, f, g)) (h0 : 0 ≤ i) (h1 : i < n)  : AS w y d pc lv (vi z :: vi i :: vr a :: st) h (pc + 1) lv st (am_set h a (100, n, am_uI f i z, g)) :=
  AS.liftH rfl fun p l e R s m args below meth c H locs cells slots Q ls hC hKS hKH hR hl hcl hsl hv kk => by
    obtain ⟨k0, k1, k2, cA, k3, k4, k5⟩ := am_own (by decide) (by decide) (hR.2 a _ hc)
    obtain ⟨j1, j2, j3, j4⟩ := am_ix h0 h1 k2 (arrV_size cA n.toNat (fun j => am_sv (am_ety 100) (f j) (g j)))
    refine W.iast hC.1 hC.2.1 k5 (k3 _ _) (fun q => by cases q) j1 rfl rfl hd fun H1 e1 e2 e3 => ?_
    have e1 : H1[a]? = some (arrV cA n.toNat (fun j => am_sv (am_ety 100) (am_uI f i z j) (g j))) := by
      rw [e1, j2, arrV_store, am_updI (v := .int (Int32.ofInt z)) h0 rfl]
    exact kk H1 _ ls (hKH.one k0 e2 e3) (hR.set e2 e3 (am_ownI (by decide) (by decide) k0 k1 k2 k3 k4 e1)) (am_locs hl k0) hv
theorem AS.last {i z : Int} (hd : decode y.2.1 pc = .ok (.lastore, 1)) (hc : h.1 a = some (102, n, f, g)) (h0 : 0 ≤ i) (h1 : i < n)  : AS w y d pc lv (vl z :: vi i :: vr a :: st) h (pc + 1) lv st (am_set h a (102, n, am_uI f i z, g)) :=
  AS.liftH rfl fun p l e R s m args below meth c H locs cells slots Q ls hC hKS hKH hR hl hcl hsl hv kk => by
    obtain ⟨k0, k1, k2, cA, k3, k4, k5⟩ := am_own (by decide) (by decide) (hR.2 a _ hc)
    obtain ⟨j1, j2, j3, j4⟩ := am_ix h0 h1 k2 (arrV_size cA n.toNat (fun j => am_sv (am_ety 102) (f j) (g j)))
    refine W.last hC.1 hC.2.1 k5 (k3 _ _) (fun q => by cases q) j1 rfl rfl hd fun H1 e1 e2 e3 => ?_
    have e1 : H1[a]? = some (arrV cA n.toNat (fun j => am_sv (am_ety 102) (am_uI f i z j) (g j))) := by
      rw [e1, j2, arrV_store, am_updI (v := .long (Int64.ofInt z)) h0 rfl]
    exact kk H1 _ ls (hKH.one k0 e2 e3) (hR.set e2 e3 (am_ownI (by decide) (by decide) k0 k1 k2 k3 k4 e1)) (am_locs hl k0) hv
theorem AS.bast {i z : Int} (hd : decode y.2.1 pc = .ok (.bastore, 1)) (hc : h.1 a = some (101, n, f, g)) (h0 : 0 ≤ i) (h1 : i < n) (hb1 : -128 ≤ z) (hb2 : z < 128) : AS w y d pc lv (vi z :: vi i :: vr a :: st) h (pc + 1) lv st (am_set h a (101, n, am_uI f i z, g)) :=
  AS.liftH rfl fun p l e R s m args below meth c H locs cells slots Q ls hC hKS hKH hR hl hcl hsl hv kk => by
    obtain ⟨k0, k1, k2, cA, k3, k4, k5⟩ := am_own (by decide) (by decide) (hR.2 a _ hc)
    obtain ⟨j1, j2, j3, j4⟩ := am_ix h0 h1 k2 (arrV_size cA n.toNat (fun j => am_sv (am_ety 101) (f j) (g j)))
    refine W.bast hC.1 hC.2.1 k5 (k3 _ _) (fun q => by cases q) j1 rfl rfl hd fun H1 e1 e2 e3 => ?_
    have e1 : H1[a]? = some (arrV cA n.toNat (fun j => am_sv (am_ety 101) (am_uI f i z j) (g j))) := by
      have e8 : narrow .byte (.int (Int32.ofInt z)) = .int (Int32.ofInt z) := by
        rw [narrow_byte, am_i2b]
        congr 2
        omega
      rw [e8] at e1
      rw [e1, j2, arrV_store, am_updI (v := .int (Int32.ofInt z)) h0 rfl]
    exact kk H1 _ ls (hKH.one k0 e2 e3) (hR.set e2 e3 (am_ownI (by decide) (by decide) k0 k1 k2 k3 k4 e1)) (am_locs hl k0) hv
theorem AS.aast {ci ck : Nat} {i n2 : Int} {q : Nat} {f2 : Int → Int} {g2 : Int → Option Nat} (hd : decode y.2.1 pc = .ok (.aastore, 1)) (hk : (ci = 103 ∧ ck = 0) ∨ (ci = 104 ∧ ck = 6) ∨ (ci = 106 ∧ ck = 11) ∨ (ci = 107 ∧ ck = 8)) (hc : h.1 a = some (ci, n, f, g)) (h0 : 0 ≤ i) (h1 : i < n) (hq : h.1 q = some (ck, n2, f2, g2)) : AS w y d pc lv (vr q :: vi i :: vr a :: st) h (pc + 1) lv st (am_set h a (ci, n, f, am_uR g i (some q))) :=
  AS.liftH rfl fun p l e R s m args below meth c H locs cells slots Q ls hC hKS hKH hR hl hcl hsl hv kk => by
    obtain ⟨k0, k1, k2, cA, k3, k4, k5⟩ := am_own (by omega) (by omega) (hR.2 a _ hc)
    obtain ⟨j1, j2, j3, j4⟩ := am_ix h0 h1 k2 (arrV_size cA n.toNat (fun j => am_sv (am_ety ci) (f j) (g j)))
    obtain ⟨C, eC, qc, hqc, eqc⟩ : ∃ C : String, am_ety ci = .object C ∧ ∃ qc : vw_C, vwCl[ck]? = some qc ∧ qc.1 = C := by
      rcases hk with ⟨rfl, rfl⟩ | ⟨rfl, rfl⟩ | ⟨rfl, rfl⟩ | ⟨rfl, rfl⟩ <;> exact ⟨_, rfl, _, rfl, rfl⟩
    obtain ⟨-, -, cC, iS, hKn, cellV, g1, g2', g3, -⟩ := am_obj (hR.2 q _ hq) hqc
    rw [eC] at k4
    obtain ⟨kA, comp, m1, m2, m3, m4⟩ := k4
    have hcls := hKn.2
    rw [eqc] at hcls
    have hcomp : comp = cC := Option.some.inj (m3.symm.trans hcls.1)
    subst hcomp
    obtain ⟨kC, hkC, -⟩ := hcls.2
    refine W.aast hC.1 hC.2.1 k5 (fun q h => by cases h) (fun h => by cases h) m1 m2 rfl hkC ⟨fun z => j1 (Or.inl z), by rw [arrV_size, j2]; exact j3⟩ g1 (fun q h => by rw [g3] at h; cases h) (by rw [g2']; exact hkC) (by rw [g2']; exact va_assign hcls) rfl rfl hd fun H1 e1 e2 e3 => ?_
    have e1 : H1[a]? = some (arrV cA n.toNat (fun j => am_sv (am_ety ci) (f j) (am_uR g i (some q) j))) := by
      rw [e1, j2, arrV_store, am_updR h0 (show am_sv (am_ety ci) (f i) (some q) = .ref q by rw [eC]; rfl)]
    exact kk H1 _ ls (hKH.one k0 e2 e3) (hR.set e2 e3 (am_ownI (by omega) (by omega) k0 k1 k2 k3 (by rw [eC]; exact ⟨kA, _, m1, m2, m3, m4⟩) e1)) (am_locs hl k0) hv
end AARR
