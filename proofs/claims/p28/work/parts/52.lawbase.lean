/-! More instructions: null, rows of rows, bits, what is only read. -/
section LMORE
variable {w : am_w} {y : YR} {d pc tgt : Nat} {lv : List (Nat × AV)} {st : List AV} {h : AH} {a : Nat} {n : Int} {f : Int → Int} {g : Int → Option Nat} {off : Int} {Q : RV → AH → Prop}
theorem AS.null (hd : decode y.2.1 pc = .ok (.aconst_null, 1)) : AS w y d pc lv st h (pc + 1) lv (vn none :: st) h :=
  AS.lift fun p l e R s m args below meth c H locs cells slots Q ls hC hKS hKH hR hl hcl hsl hv kk => lv_null hC.1 hC.2.1 hd (kk ls hv)
theorem AS.nn_t {q : Nat} (hd : decode y.2.1 pc = .ok (.ifnonnull off, 3)) (ht : (pc : Int) + off = (tgt : Int)) : AS w y d pc lv (vr q :: st) h tgt lv st h :=
  AS.lift fun p l e R s m args below meth c H locs cells slots Q ls hC hKS hKH hR hl hcl hsl hv kk => lv_ifnonnull hC.1 hC.2.1 hd ht (kk ls hv)
theorem AS.nn_f (hd : decode y.2.1 pc = .ok (.ifnonnull off, 3)) : AS w y d pc lv (vn none :: st) h (pc + 3) lv st h :=
  AS.lift fun p l e R s m args below meth c H locs cells slots Q ls hC hKS hKH hR hl hcl hsl hv kk => lv_ifnonnullN hC.1 hC.2.1 hd (kk ls hv)
theorem AS.astN {i : Nat} (hd : decode y.2.1 pc = .ok (.astore i, 2)) (hi : i < y.2.2.1) : AS w y d pc lv (vn none :: st) h (pc + 2) (am_st1 lv i (vn none)) st h :=
  AS.lift fun p l e R s m args below meth c H locs cells slots Q ls hC hKS hKH hR hl hcl hsl hv kk => lv_astoreN hC.1 hC.2.1 hd hv hi rfl fun ls2 h2 => kk ls2 (am_has1 (v := vn none) h2)
theorem am_ushr16 (z : Int) : ∃ v : Int, (0 ≤ v ∧ v < 65536) ∧ ((Int32.ofInt z).toUInt32 >>> ((Int32.ofInt 16).toUInt32 &&& Int32.toUInt32 31)).toInt32 = Int32.ofInt v := by
  generalize (Int32.ofInt z).toUInt32 = u
  have e : ((Int32.ofInt 16).toUInt32 &&& Int32.toUInt32 31) = 16 := by decide
  rw [e]
  refine ⟨(u.toNat / 65536 : Nat), ⟨by omega, ?_⟩, ?_⟩
  · have := u.toNat_lt
    omega
  · have h1 : (u >>> 16).toNat = u.toNat / 65536 := by
      rw [UInt32.toNat_shiftRight]
      show u.toNat >>> 16 = _
      rw [Nat.shiftRight_eq_div_pow]
    have h2 : u.toNat / 65536 < 2 ^ 31 := by have := u.toNat_lt; omega
    rw [← h1]
    apply Int32.toBitVec_inj.mp
    show (u >>> 16).toBitVec = _
    rw [Int32.toBitVec_ofInt]
    apply BitVec.eq_of_toNat_eq
    rw [BitVec.ofInt_natCast, BitVec.toNat_ofNat]
    show (u >>> 16).toNat = _
    have := (u >>> 16).toNat_lt
    omega
theorem AQ.iushr16 {z : Int} (hd : decode y.2.1 pc = .ok (.iushr, 1)) (kk : ∀ v : Int, 0 ≤ v → v < 65536 → AQ w y d (pc + 1) lv (vi v :: st) h Q) : AQ w y d pc lv (vi 16 :: vi z :: st) h Q := by
  obtain ⟨v, ⟨h0, h1⟩, e⟩ := am_ushr16 z
  exact AQ.of (AS.lift fun p l e2 R s m args below meth c H locs cells slots Q ls hC hKS hKH hR hl hcl hsl hv kk => lv_iushr hC.1 hC.2.1 hd e (kk ls hv)) (kk v h0 h1)
/-- or, of booleans -/
def am_orb (a b : Int) : Int := if a = 1 ∨ b = 1 then 1 else 0
theorem AS.iorB {a b : Int} (hd : decode y.2.1 pc = .ok (.ior, 1)) (ha : a = 0 ∨ a = 1) (hb : b = 0 ∨ b = 1) : AS w y d pc lv (vi b :: vi a :: st) h (pc + 1) lv (vi (am_orb a b) :: st) h :=
  AS.lift fun p l e R s m args below meth c H locs cells slots Q ls hC hKS hKH hR hl hcl hsl hv kk => lv_ior hC.1 hC.2.1 hd (by
    rw [show Int32.ofInt a ||| Int32.ofInt b = Int32.ofInt (am_orb a b) by rcases ha with rfl | rfl <;> rcases hb with rfl | rfl <;> decide]
    exact kk ls hv)
theorem am_bv32 {a : Int} (h0 : 0 ≤ a) (h1 : a < 2147483648) : (Int32.ofInt a).toBitVec.toNat = a.toNat := by
  rw [Int32.toBitVec_ofInt, BitVec.toNat_ofInt]
  omega
theorem am_i32n {u v : Int32} (h : u.toBitVec.toNat = v.toBitVec.toNat) : u = v := Int32.toBitVec_inj.mp (BitVec.eq_of_toNat_eq h)
/-- or, of numbers whose bits are apart -/
theorem am_orS {a b : Int} (k : Nat) (h0 : 0 ≤ a) (h1 : a % (2 ^ k : Nat) = 0) (h2 : 0 ≤ b) (h3 : b < (2 ^ k : Nat)) (h4 : a + b < 2147483648) : Int32.ofInt a ||| Int32.ofInt b = Int32.ofInt (a + b) := by
  apply am_i32n
  rw [am_bv32 (by omega) h4]
  show ((Int32.ofInt a).toBitVec ||| (Int32.ofInt b).toBitVec).toNat = _
  rw [BitVec.toNat_or, am_bv32 h0 (by omega), am_bv32 h2 (by omega)]
  obtain ⟨x, rfl⟩ := Int.eq_ofNat_of_zero_le h0
  obtain ⟨z, rfl⟩ := Int.eq_ofNat_of_zero_le h2
  have h1' : x % 2 ^ k = 0 := by exact_mod_cast h1
  have h3' : z < 2 ^ k := by exact_mod_cast h3
  have e : x = (x / 2 ^ k) * 2 ^ k := by have := Nat.div_add_mod x (2 ^ k); rw [h1'] at this; rw [Nat.mul_comm]; omega
  show x ||| z = _
  rw [show ((x : Int) + (z : Int)).toNat = x + z by omega]
  rw [e, ← Nat.shiftLeft_eq, Nat.shiftLeft_add_eq_or_of_lt h3']
theorem AS.iorS {a b : Int} (k : Nat) (hd : decode y.2.1 pc = .ok (.ior, 1)) (h0 : 0 ≤ a) (h1 : a % (2 ^ k : Nat) = 0) (h2 : 0 ≤ b) (h3 : b < (2 ^ k : Nat)) (h4 : a + b < 2147483648) : AS w y d pc lv (vi b :: vi a :: st) h (pc + 1) lv (vi (a + b) :: st) h :=
  AS.lift fun p l e R s m args below meth c H locs cells slots Q ls hC hKS hKH hR hl hcl hsl hv kk => lv_ior hC.1 hC.2.1 hd (by rw [am_orS k h0 h1 h2 h3 h4]; exact kk ls hv)
theorem am_shlS {a : Int} (k : Nat) (hk : k < 32) (h0 : 0 ≤ a) (h1 : a * (2 ^ k : Nat) < 2147483648) : Int32.ofInt a <<< (Int32.ofInt (k : Int) &&& 31) = Int32.ofInt (a * (2 ^ k : Nat)) := by
  have ek : ∀ k : Nat, k < 32 → (Int32.ofInt (k : Int) &&& 31).toBitVec.smod 32 = BitVec.ofNat 32 k := by decide +kernel
  have hp : (1 : Int) ≤ (2 ^ k : Nat) := by exact_mod_cast Nat.one_le_two_pow
  have ha : a ≤ a * (2 ^ k : Nat) := by
    have := Int.mul_le_mul_of_nonneg_left hp h0
    omega
  apply am_i32n
  rw [am_bv32 (by omega) h1]
  show ((Int32.ofInt a).toBitVec <<< ((Int32.ofInt (k : Int) &&& 31).toBitVec.smod 32)).toNat = _
  rw [ek k hk, BitVec.shiftLeft_eq', BitVec.toNat_shiftLeft, am_bv32 h0 (by omega), BitVec.toNat_ofNat, Nat.mod_eq_of_lt (show k < 2 ^ 32 by omega), Nat.shiftLeft_eq]
  obtain ⟨x, rfl⟩ := Int.eq_ofNat_of_zero_le h0
  have e : ((x : Int) * (2 ^ k : Nat)).toNat = x * 2 ^ k := by
    rw [← Int.natCast_mul]; rfl
  rw [e]
  show x * 2 ^ k % 2 ^ 32 = _
  have h9 : ((x * 2 ^ k : Nat) : Int) < 2147483648 := by rw [Int.natCast_mul]; exact h1
  generalize x * 2 ^ k = m at *
  omega
theorem AS.ishlS {a : Int} {k : Nat} (hd : decode y.2.1 pc = .ok (.ishl, 1)) (hk : k < 32) (h0 : 0 ≤ a) (h1 : a * (2 ^ k : Nat) < 2147483648) : AS w y d pc lv (vi (k : Int) :: vi a :: st) h (pc + 1) lv (vi (a * (2 ^ k : Nat)) :: st) h :=
  AS.lift fun p l e R s m args below meth c H locs cells slots Q ls hC hKS hKH hR hl hcl hsl hv kk => lv_ishl hC.1 hC.2.1 hd (by rw [am_shlS k hk h0 h1]; exact kk ls hv)
/-- references that may be null -/
theorem AS.getRN {idx ci k : Nat} (hd : decode y.2.1 pc = .ok (.getfield idx, 3)) (hf : am_fl y.1.cls idx ci k) (hty : (∃ z, am_fty ci k = .object z) ∨ ∃ z, am_fty ci k = .array z) (hc : h.1 a = some (ci, n, f, g)) : AS w y d pc lv (vr a :: st) h (pc + 3) lv (vn (g k) :: st) h :=
  AS.lift fun p l e R s m args below meth c H locs cells slots Q ls hC hKS hKH hR hl hcl hsl hv kk => am_getW hC hKS (hR.2 a _ hc) hf hd (by
    have := kk ls hv
    rcases hty with ⟨z, e⟩ | ⟨z, e⟩ <;> (rw [e]; exact this))
theorem AS.getB {idx ci k : Nat} (hd : decode y.2.1 pc = .ok (.getfield idx, 3)) (hf : am_fl y.1.cls idx ci k) (hty : am_fty ci k = .byte) (hc : h.1 a = some (ci, n, f, g)) : AS w y d pc lv (vr a :: st) h (pc + 3) lv (vi (f k) :: st) h :=
  AS.lift fun p l e R s m args below meth c H locs cells slots Q ls hC hKS hKH hR hl hcl hsl hv kk => am_getW hC hKS (hR.2 a _ hc) hf hd (by
    have := kk ls hv
    rw [hty]; exact this)
theorem AS.putRN {idx ci k : Nat} {r : Option Nat} (hd : decode y.2.1 pc = .ok (.putfield idx, 3)) (hf : am_fl y.1.cls idx ci k) (hfw : am_fw y idx ci k) (hty : (∃ z, am_fty ci k = .object z) ∨ ∃ z, am_fty ci k = .array z) (hc : h.1 a = some (ci, n, f, g)) : AS w y d pc lv (vn r :: vr a :: st) h (pc + 3) lv st (am_set h a (ci, n, f, am_uR g k r)) :=
  AS.liftH rfl fun p l e R s m args below meth c H locs cells slots Q ls hC hKS hKH hR hl hcl hsl hv kk => by
    have e1 : am_sv (am_fty ci k) (f k) r = cv (vn r) := by rcases hty with ⟨z, e⟩ | ⟨z, e⟩ <;> (rw [e]; rfl)
    have e2 : am_uI f k (f k) = f := by
      funext j
      unfold am_uI
      split
      · rename_i q; rw [q]
      · rfl
    have e3 : am_fitS (am_fty ci k) (f k) r := by rcases hty with ⟨z, e⟩ | ⟨z, e⟩ <;> (rw [e]; exact trivial)
    have := am_putW (z := f k) (r := r) hC hKS hKH hR hc hf hfw e3 hl hd (rest := am_st st) (fun H1 locs1 q1 q2 q3 => kk H1 locs1 ls q1 (by rw [e2] at q2; exact q2) q3 hv)
    rw [e1] at this
    exact this
theorem AS.putB {idx ci k : Nat} {z : Int} (hd : decode y.2.1 pc = .ok (.putfield idx, 3)) (hf : am_fl y.1.cls idx ci k) (hfw : am_fw y idx ci k) (hty : am_fty ci k = .byte) (hz : -128 ≤ z ∧ z < 128) (hc : h.1 a = some (ci, n, f, g)) : AS w y d pc lv (vi z :: vr a :: st) h (pc + 3) lv st (am_set h a (ci, n, am_uI f k z, g)) :=
  AS.liftH rfl fun p l e R s m args below meth c H locs cells slots Q ls hC hKS hKH hR hl hcl hsl hv kk => by
    have e1 : am_sv (am_fty ci k) z (g k) = .int (Int32.ofInt z) := by rw [hty]; rfl
    have e2 : am_uR g k (g k) = g := by
      funext j
      unfold am_uR
      split
      · rename_i q; rw [q]
      · rfl
    have e3 : am_fitS (am_fty ci k) z (g k) := by rw [hty]; exact hz
    have := am_putW (z := z) (r := g k) hC hKS hKH hR hc hf hfw e3 hl hd (rest := am_st st) (fun H1 locs1 q1 q2 q3 => kk H1 locs1 ls q1 (by rw [e2] at q2; exact q2) q3 hv)
    rw [e1] at this
    exact this
theorem AS.aaldN {ci : Nat} {i : Int} (hd : decode y.2.1 pc = .ok (.aaload, 1)) (hc : h.1 a = some (ci, n, f, g)) (hk : ci = 103 ∨ ci = 104 ∨ ci = 105 ∨ ci = 106 ∨ ci = 107) (h0 : 0 ≤ i) (h1 : i < n) : AS w y d pc lv (vi i :: vr a :: st) h (pc + 1) lv (vn (g i) :: st) h :=
  AS.lift fun p l e R s m args below meth c H locs cells slots Q ls hC hKS hKH hR hl hcl hsl hv kk => by
    obtain ⟨k1, k2, cell, k3, k4, k5, k6, k7⟩ := am_arr (by omega) (hR.2 a _ hc)
    obtain ⟨j1, j2, j3, j4⟩ := am_ix h0 h1 k2 k6
    have ev : cell.slots[(Int32.ofInt i).toNatClampNeg]? = some (cv (vn (g i))) := by
      rw [j2, k7 _ j3, j4]
      rcases hk with rfl | rfl | rfl | rfl | rfl <;> rfl
    exact W.aald (ty := am_aty ci) hC.1 hC.2.1 k3 k4 (by rcases hk with rfl | rfl | rfl | rfl | rfl <;> rfl) k5 j1 ev rfl rfl hd (kk ls hv)
theorem AS.aastN {ci : Nat} {i : Int} (hd : decode y.2.1 pc = .ok (.aastore, 1)) (hk : ci = 103 ∨ ci = 104 ∨ ci = 106 ∨ ci = 107) (hc : h.1 a = some (ci, n, f, g)) (h0 : 0 ≤ i) (h1 : i < n) : AS w y d pc lv (vn none :: vi i :: vr a :: st) h (pc + 1) lv st (am_set h a (ci, n, f, am_uR g i none)) :=
  AS.liftH rfl fun p l e R s m args below meth c H locs cells slots Q ls hC hKS hKH hR hl hcl hsl hv kk => by
    obtain ⟨k0, k1, k2, cA, k3, k4, k5⟩ := am_own (by omega) (by omega) (hR.2 a _ hc)
    obtain ⟨j1, j2, j3, j4⟩ := am_ix h0 h1 k2 (arrV_size cA n.toNat (fun j => am_sv (am_ety ci) (f j) (g j)))
    obtain ⟨C, eC⟩ : ∃ C : String, am_ety ci = .object C := by rcases hk with rfl | rfl | rfl | rfl <;> exact ⟨_, rfl⟩
    have ea : s.isArrayOf (arrV cA n.toNat (fun j => am_sv (am_ety ci) (f j) (g j))) (.object C) := by rw [← eC]; exact k3 _ _
    refine va_WaastN hC.1 hC.2.1 k5 ea (fun h => by cases h) j1 rfl rfl hd fun H1 e1 e2 e3 => ?_
    have e1 : H1[a]? = some (arrV cA n.toNat (fun j => am_sv (am_ety ci) (f j) (am_uR g i none j))) := by
      rw [e1, j2, arrV_store, am_updR h0 (show am_sv (am_ety ci) (f i) none = .null by rw [eC]; rfl)]
    exact kk H1 _ ls (hKH.one k0 e2 e3) (hR.set e2 e3 (am_ownI (by omega) (by omega) k0 k1 k2 k3 k4 e1)) (am_locs hl k0) hv
/-- a row put into a row of rows -/
theorem AS.aastA {i n2 : Int} {q : Nat} {f2 : Int → Int} {g2 : Int → Option Nat} (hd : decode y.2.1 pc = .ok (.aastore, 1)) (hc : h.1 a = some (105, n, f, g)) (h0 : 0 ≤ i) (h1 : i < n) (hq : h.1 q = some (100, n2, f2, g2)) : AS w y d pc lv (vr q :: vi i :: vr a :: st) h (pc + 1) lv st (am_set h a (105, n, f, am_uR g i (some q))) :=
  AS.liftH rfl fun p l e R s m args below meth c H locs cells slots Q ls hC hKS hKH hR hl hcl hsl hv kk => by
    obtain ⟨k0, k1, k2, cA, k3, k4, k5⟩ := am_own (by omega) (by omega) (hR.2 a _ hc)
    obtain ⟨r0, r1, r2, cB, r3, r4, r5⟩ := am_own (by omega) (by omega) (hR.2 q _ hq)
    obtain ⟨j1, j2, j3, j4⟩ := am_ix h0 h1 k2 (arrV_size cA n.toNat (fun j => am_sv (am_ety 105) (f j) (g j)))
    obtain ⟨comp, cA', kA, hcomp, hidx, hkA, hkindA, hnameA⟩ := arrayOverA_spec hKS.2.2.2.2.2.1
    have eA : cA' = cA := Option.some.inj (hnameA.symm.trans k4)
    subst eA
    have eB : comp = cB := Option.some.inj (hcomp.symm.trans r4)
    subst eB
    obtain ⟨-, kB, hkB, -⟩ := r3 0 (fun _ => .null)
    refine W.aast hC.1 hC.2.1 k5 (fun q h => by cases h) (fun h => by cases h) hkA hkindA rfl hkB ⟨fun z => j1 (Or.inl z), by rw [arrV_size, j2]; exact j3⟩ r5 (fun q h => by cases h) hkB (va_asg _ _) rfl rfl hd fun H1 e1 e2 e3 => ?_
    have e1 : H1[a]? = some (arrV cA' n.toNat (fun j => am_sv (am_ety 105) (f j) (am_uR g i (some q) j))) := by
      rw [e1, j2, arrV_store, am_updR h0 (show am_sv (am_ety 105) (f i) (some q) = .ref q from rfl)]
    exact kk H1 _ ls (hKH.one k0 e2 e3) (hR.set e2 e3 (am_ownI (by omega) (by omega) k0 k1 k2 k3 k4 e1)) (am_locs hl k0) hv
theorem AS.newAA {idx : Nat} (hd : decode y.2.1 pc = .ok (.anewarray idx, 3)) (hw : Cond.classLink y.1.cls idx "[I" ∈ GW) (h0 : 0 ≤ n) (h1 : n ≤ 1000000) : AS w y d pc lv (vi n :: st) h (pc + 3) lv (vr h.2.1 :: st) (am_new h (105, n, fun _ => 0, fun _ => none) n.toNat) :=
  AS.liftN rfl rfl fun p l e R s m args below meth c H locs cells slots Q ls hC hKS hKH hR hl hcl hsl hv kk => by
    have hn : am_r n := ⟨by omega, by omega⟩
    have hcn : (Int32.ofInt n).toNatClampNeg = n.toNat := am_clamp hn
    refine W.anewA (t := .int) hC.1 hC.2.1 hC.2.2.2.1 (hC.2.2.2.2.1 _ hw) hKS.2.2.2.2.2.1 rfl hd rfl (fun z => by have := (am_lt hn am_r0).mp z; omega) (by rw [hcn]; omega) hcl (by rw [hcn]; exact hsl) fun cA kA comp f1 f2 f3 f4 => ?_
    rw [hcn]
    generalize hH1 : H.push ({ cls := cA, slots := Array.replicate n.toNat .null, vm := .none } : Cell) = H1
    have z1 : H1.size = H.size + 1 := by rw [← hH1, Array.size_push]
    have e1 : H1[H.size]? = some (arrV cA n.toNat (fun _ => .null)) := by rw [← hH1, Array.getElem?_push_size, ← arrV_new]
    have o1 : ∀ q : Nat, q < H.size → H1[q]? = H[q]? := fun q hq => by rw [← hH1, Array.getElem?_push, if_neg (Nat.ne_of_lt hq)]
    have hAr : ArrOfT s cA (.array .int) := fun N z => ⟨(fun k h => by cases h), kA, f2, comp, f3⟩
    have e2 : H1[H.size]? = some (arrV cA n.toNat (fun j : Nat => am_sv (am_ety 105) ((fun _ => 0 : Int → Int) j) ((fun _ => none : Int → Option Nat) j))) := by
      rw [e1]; rfl
    have := kk H1 locs ls (hKH.grow (by omega) o1) (hR.new z1 o1 (am_ownI (by omega) (by omega) hKH.1 h0 (by omega) hAr f1 e2)) hl hv
    rw [hR.1] at this
    exact this
/-- statics that are only read; Strings by their bytes; rows of others -/
theorem AS.getSo {idx : Nat} (hd : decode y.2.1 pc = .ok (.getstatic idx, 3)) (hc : h.1 a = some (120, n, f, g)) (hw : Cond.fieldLink y.1.cls idx "java/lang/Integer" "DigitOnes" "[B" ∈ GW) : AS w y d pc lv st h (pc + 3) lv (vn (g 0) :: st) h :=
  AS.lift fun p l e R s m args below meth c H locs cells slots Q ls hC hKS hKH hR hl hcl hsl hv kk => by
    have k := hR.2 a _ hc
    unfold am_CR at k
    dsimp only at k
    rw [if_neg (by decide), if_neg (by decide), if_neg (by decide)] at k
    obtain ⟨cf, kf, fi, f9, cell, h1, h2, h3, h4, h5, h6, h7⟩ := (k.2.2.2.1 rfl).1
    exact W.gets hC.1 hC.2.1 hC.2.2.2.1 (hC.2.2.2.2.1 _ hw) h1 h2 h3 h4 h5 (fun e => by rw [e] at h6; cases h6) h7 rfl hd (kk ls hv)
theorem AS.getSt {idx : Nat} (hd : decode y.2.1 pc = .ok (.getstatic idx, 3)) (hc : h.1 a = some (120, n, f, g)) (hw : Cond.fieldLink y.1.cls idx "java/lang/Integer" "DigitTens" "[B" ∈ GW) : AS w y d pc lv st h (pc + 3) lv (vn (g 1) :: st) h :=
  AS.lift fun p l e R s m args below meth c H locs cells slots Q ls hC hKS hKH hR hl hcl hsl hv kk => by
    have k := hR.2 a _ hc
    unfold am_CR at k
    dsimp only at k
    rw [if_neg (by decide), if_neg (by decide), if_neg (by decide)] at k
    obtain ⟨cf, kf, fi, f9, cell, h1, h2, h3, h4, h5, h6, h7⟩ := (k.2.2.2.1 rfl).2
    exact W.gets hC.1 hC.2.1 hC.2.2.2.1 (hC.2.2.2.2.1 _ hw) h1 h2 h3 h4 h5 (fun e => by rw [e] at h6; cases h6) h7 rfl hd (kk ls hv)
theorem AS.getSV {idx : Nat} (hd : decode y.2.1 pc = .ok (.getstatic idx, 3)) (hc : h.1 a = some (122, n, f, g)) (hw : Cond.fieldLink y.1.cls idx "CornerClaimsLaw" "VARIABLES" "[Ljava/lang/String;" ∈ GW ∨ ∃ host : String, Cond.fieldLinkNest y.1.cls idx "CornerClaimsLaw" "VARIABLES" "[Ljava/lang/String;" host ∈ am_NW) : AS w y d pc lv st h (pc + 3) lv (vn (g 0) :: st) h :=
  AS.lift fun p l e R s m args below meth c H locs cells slots Q ls hC hKS hKH hR hl hcl hsl hv kk => by
    have k := hR.2 a _ hc
    unfold am_CR at k
    dsimp only at k
    rw [if_neg (by decide), if_neg (by decide), if_neg (by decide)] at k
    obtain ⟨cf, kf, fi, f9, cell, h1, h2, h3, h4, h5, h6, h7⟩ := k.2.2.2.2 rfl
    rcases hw with hw | ⟨host, hw⟩
    · exact W.gets hC.1 hC.2.1 hC.2.2.2.1 (hC.2.2.2.2.1 _ hw) h1 h2 h3 h4 h5 (fun e => by rw [e] at h6; cases h6) h7 rfl hd (kk ls hv)
    · exact va_WgetsN hC.1 hC.2.1 hC.2.2.2.1 ((hKS.1 _ hw).use rfl) h1 h2 h3 h4 h5 (fun e => by rw [e] at h6; cases h6) h7 rfl hd (kk ls hv)
theorem am_str {b : Nat} {s : State} {H : Heap} {x : AC} (hx : x.1 = 112) (k : am_CR b s H a x) : (∃ cell : Cell, H[a]? = some cell ∧ cell.vm.isStatics = false ∧ s.vm.findClass "java/lang/String" = some cell.cls) ∧ am_Oa "java/lang/String" "coder" "B" (.int (Int32.ofInt 0)) s H a ∧ am_Oa "java/lang/String" "value" "[B" (va_rf (x.2.2.2 0)) s H a := by
  unfold am_CR at k
  rw [if_neg (by omega), if_neg (by omega), if_neg (by omega)] at k
  exact k.2.1 hx
theorem AS.strCo {idx : Nat} (hd : decode y.2.1 pc = .ok (.getfield idx, 3)) (hc : h.1 a = some (112, n, f, g)) (hw : Cond.fieldLink y.1.cls idx "java/lang/String" "coder" "B" ∈ GW) : AS w y d pc lv (vr a :: st) h (pc + 3) lv (vi 0 :: st) h :=
  AS.lift fun p l e R s m args below meth c H locs cells slots Q ls hC hKS hKH hR hl hcl hsl hv kk => by
    obtain ⟨cf, k, fi, f9, cell, h1, h2, h3, h4, h5⟩ := (am_str rfl (hR.2 a _ hc)).2.1
    exact W.getf hC.1 hC.2.1 hC.2.2.2.1 (hC.2.2.2.2.1 _ hw) h1 h2 h3 h4 h5 rfl rfl hd (kk ls hv)
theorem AS.strVa {idx : Nat} (hd : decode y.2.1 pc = .ok (.getfield idx, 3)) (hc : h.1 a = some (112, n, f, g)) (hw : Cond.fieldLink y.1.cls idx "java/lang/String" "value" "[B" ∈ GW) : AS w y d pc lv (vr a :: st) h (pc + 3) lv (vn (g 0) :: st) h :=
  AS.lift fun p l e R s m args below meth c H locs cells slots Q ls hC hKS hKH hR hl hcl hsl hv kk => by
    obtain ⟨cf, k, fi, f9, cell, h1, h2, h3, h4, h5⟩ := (am_str rfl (hR.2 a _ hc)).2.2
    exact W.getf hC.1 hC.2.1 hC.2.2.2.1 (hC.2.2.2.2.1 _ hw) h1 h2 h3 h4 h5 rfl rfl hd (kk ls hv)
theorem AS.aaldF {i : Int} (hd : decode y.2.1 pc = .ok (.aaload, 1)) (hc : h.1 a = some (113, n, f, g)) (h0 : 0 ≤ i) (h1 : i < n) : AS w y d pc lv (vi i :: vr a :: st) h (pc + 1) lv (vn (g i) :: st) h :=
  AS.lift fun p l e R s m args below meth c H locs cells slots Q ls hC hKS hKH hR hl hcl hsl hv kk => by
    have k := hR.2 a _ hc
    unfold am_CR at k
    dsimp only at k
    rw [if_neg (by decide), if_neg (by decide), if_neg (by decide)] at k
    obtain ⟨k1, k2, cell, k3, k4, k5, k6, k7⟩ := k.2.2.1 rfl
    obtain ⟨j1, j2, j3, j4⟩ := am_ix h0 h1 k2 k6
    have ev : cell.slots[(Int32.ofInt i).toNatClampNeg]? = some (cv (vn (g i))) := by
      rw [j2, k7 _ j3, j4]
      rfl
    exact W.aald (ty := .object "java/lang/String") hC.1 hC.2.1 k3 k4 rfl k5 j1 ev rfl rfl hd (kk ls hv)
/-- what is known of a heap may be forgotten -/
theorem AQ.weak {h2 : AH} (hz : h2.2 = h.2) (hw : ∀ (b : Nat) (s : State) (args : Array Value) (H : Heap), (∀ x ∈ GW, x.before args s = true) → Rep b s h H → Rep b s h2 H) (k : AQ w y d pc lv st h2 Q) : AQ w y d pc lv st h Q := by
  obtain ⟨r, h', ⟨k1, k2, k3⟩, k4⟩ := k
  rw [hz] at k1 k2 k3
  exact ⟨r, h', ⟨k1, k2, fun p l e R s m args below meth c H locs cells slots Q ls hC hKS hKH hR hl hv hc hs hE => k3 p l e R s m args below meth c H locs cells slots Q ls hC hKS hKH (hw _ _ _ _ hC.2.2.2.2.1 hR) hl hv hc hs hE⟩, k4⟩
/-- a new String, seen by its bytes -/
theorem AQ.strw {v : Nat} {f1 : Int → Int} (hc : h.1 a = some (12, n, f1, g)) (h0 : f1 1 = 0) (hg : g 0 = some v) (kk : ∀ h2 : AH, h2 = am_set h a (112, 0, am_Z, am_G [some v]) → AQ w y d pc lv st h2 Q) : AQ w y d pc lv st h Q := by
  refine AQ.weak (h2 := am_set h a (112, 0, am_Z, am_G [some v])) rfl (fun b s args H hts hR => ⟨hR.1, fun q x e => ?_⟩) (kk _ rfl)
  by_cases hq : q = a
  · subst hq
    rw [am_set_at] at e
    cases e
    obtain ⟨hin, -, -, -⟩ := am_cls 12 (RJ0, TJ0, 4) rfl
    obtain ⟨-, -, cC, iS, ⟨hS, hfc, kC, hkC, hkind⟩, cell, q1, q2, q3, q4⟩ := am_obj (hR.2 q _ hc) (q := (RJ0, TJ0, 4)) rfl
    have hst : ∀ k, k < 4 → ∀ cf kf fi fd, s.fieldFound? (TJ0 k).1 (TJ0 k).2.1 (TJ0 k).2.2.1 = some (cf, kf, fi, fd) → fd.isStatic = false := fun k hk cf kf fi fd hi => (u_facts hfc hkC (u_lays hts hin hk) hi).1
    unfold am_CR
    dsimp only
    rw [if_neg (by decide), if_neg (by decide), if_neg (by decide)]
    refine ⟨⟨cell, q1⟩, fun _ => ⟨⟨cell, q1, by rw [q3]; rfl, by rw [q2]; exact hfc⟩, ?_, ?_⟩, fun z => absurd z (show ¬ (112 : Nat) = 113 by decide), fun z => absurd z (show ¬ (112 : Nat) = 120 by decide), fun z => absurd z (show ¬ (112 : Nat) = 122 by decide)⟩
    · obtain ⟨cf, kf, fi, fd, hi, hsl⟩ := hS 1 (by decide)
      refine ⟨cf, kf, fi, fd, cell, hi, hst 1 (by decide) cf kf fi fd hi, q1, (by rw [q3]; exact fun h => (by cases h)), ?_⟩
      rw [hsl]
      have := q4 1 (by decide)
      rw [this]
      show some (Value.int (Int32.ofInt (f1 1))) = _
      rw [h0]
    · obtain ⟨cf, kf, fi, fd, hi, hsl⟩ := hS 0 (by decide)
      refine ⟨cf, kf, fi, fd, cell, hi, hst 0 (by decide) cf kf fi fd hi, q1, (by rw [q3]; exact fun h => (by cases h)), ?_⟩
      rw [hsl]
      have := q4 0 (by decide)
      rw [this]
      show some (va_rf (g 0)) = _
      rw [hg]
      rfl
  · rw [am_set_ne _ hq] at e
    exact hR.2 q x e
end LMORE
