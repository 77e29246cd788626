/-! Int-valued pictures of the machine's int and long: what the operations do to them. -/
def am_r (z : Int) : Prop := -2147483648 ≤ z ∧ z < 2147483648
def am_rl (z : Int) : Prop := -9223372036854775808 ≤ z ∧ z < 9223372036854775808
theorem am_toInt {z : Int} (h : am_r z) : (Int32.ofInt z).toInt = z := Int32.toInt_ofInt_of_le (by have := h.1; omega) (by have := h.2; omega)
theorem am_toIntL {z : Int} (h : am_rl z) : (Int64.ofInt z).toInt = z := Int64.toInt_ofInt_of_le (by have := h.1; omega) (by have := h.2; omega)
theorem am_add (a b : Int) : Int32.ofInt a + Int32.ofInt b = Int32.ofInt (a + b) := by
  apply Int32.toInt_inj.1
  simp [Int32.toInt_add, Int32.toInt_ofInt, Int.add_bmod_bmod, Int.bmod_add_bmod]
theorem am_sub (a b : Int) : Int32.ofInt a - Int32.ofInt b = Int32.ofInt (a - b) := by
  apply Int32.toInt_inj.1
  simp [Int32.toInt_sub, Int32.toInt_ofInt]
theorem am_mul (a b : Int) : Int32.ofInt a * Int32.ofInt b = Int32.ofInt (a * b) := by
  apply Int32.toInt_inj.1
  simp [Int32.toInt_mul, Int32.toInt_ofInt]
theorem am_neg (a : Int) : -Int32.ofInt a = Int32.ofInt (-a) := by
  apply Int32.toInt_inj.1
  simp [Int32.toInt_neg, Int32.toInt_ofInt]
theorem am_addL (a b : Int) : Int64.ofInt a + Int64.ofInt b = Int64.ofInt (a + b) := by
  apply Int64.toInt_inj.1
  simp [Int64.toInt_add, Int64.toInt_ofInt]
theorem am_subL (a b : Int) : Int64.ofInt a - Int64.ofInt b = Int64.ofInt (a - b) := by
  apply Int64.toInt_inj.1
  simp [Int64.toInt_sub, Int64.toInt_ofInt]
theorem am_mulL (a b : Int) : Int64.ofInt a * Int64.ofInt b = Int64.ofInt (a * b) := by
  apply Int64.toInt_inj.1
  simp [Int64.toInt_mul, Int64.toInt_ofInt]
theorem am_negL (a : Int) : -Int64.ofInt a = Int64.ofInt (-a) := by
  apply Int64.toInt_inj.1
  simp [Int64.toInt_neg, Int64.toInt_ofInt]
theorem am_lt {a b : Int} (ha : am_r a) (hb : am_r b) : Int32.ofInt a < Int32.ofInt b ↔ a < b := by
  rw [Int32.lt_iff_toInt_lt, am_toInt ha, am_toInt hb]
theorem am_le {a b : Int} (ha : am_r a) (hb : am_r b) : Int32.ofInt a ≤ Int32.ofInt b ↔ a ≤ b := by
  rw [Int32.le_iff_toInt_le, am_toInt ha, am_toInt hb]
theorem am_eq {a b : Int} (ha : am_r a) (hb : am_r b) : Int32.ofInt a = Int32.ofInt b ↔ a = b := by
  rw [← Int32.toInt_inj, am_toInt ha, am_toInt hb]
theorem am_ltL {a b : Int} (ha : am_rl a) (hb : am_rl b) : Int64.ofInt a < Int64.ofInt b ↔ a < b := by
  rw [Int64.lt_iff_toInt_lt, am_toIntL ha, am_toIntL hb]
theorem am_leL {a b : Int} (ha : am_rl a) (hb : am_rl b) : Int64.ofInt a ≤ Int64.ofInt b ↔ a ≤ b := by
  rw [Int64.le_iff_toInt_le, am_toIntL ha, am_toIntL hb]
theorem am_eqL {a b : Int} (ha : am_rl a) (hb : am_rl b) : Int64.ofInt a = Int64.ofInt b ↔ a = b := by
  rw [← Int64.toInt_inj, am_toIntL ha, am_toIntL hb]
theorem am_r0 : am_r 0 := ⟨by decide, by decide⟩
theorem am_0 : (0 : Int32) = Int32.ofInt 0 := by decide
theorem am_0L : (0 : Int64) = Int64.ofInt 0 := by decide
theorem am_div {a b : Int} (ha : am_r a) (hb : am_r b) : Int32.ofInt a / Int32.ofInt b = Int32.ofInt (a.tdiv b) := by
  apply Int32.toInt_inj.1
  rw [Int32.toInt_div, am_toInt ha, am_toInt hb, Int32.toInt_ofInt]
theorem am_rem {a b : Int} (ha : am_r a) (hb : am_r b) : Int32.ofInt a - Int32.ofInt a / Int32.ofInt b * Int32.ofInt b = Int32.ofInt (a.tmod b) := by
  rw [am_div ha hb, am_mul, am_sub]
  congr 1
  have := Int.mul_tdiv_add_tmod a b
  rw [Int.mul_comm] at this
  omega
theorem am_divL {a b : Int} (ha : am_rl a) (hb : am_rl b) : Int64.ofInt a / Int64.ofInt b = Int64.ofInt (a.tdiv b) := by
  apply Int64.toInt_inj.1
  rw [Int64.toInt_div, am_toIntL ha, am_toIntL hb, Int64.toInt_ofInt]
theorem am_i2l {a : Int} (ha : am_r a) : (Int32.ofInt a).toInt64 = Int64.ofInt a := by
  apply Int64.toInt_inj.1
  rw [Int32.toInt_toInt64, am_toInt ha, am_toIntL ⟨by have := ha.1; omega, by have := ha.2; omega⟩]
theorem am_l2i (a : Int) : (Int64.ofInt a).toInt32 = Int32.ofInt a := by
  apply Int32.toInt_inj.1
  rw [Int64.toInt_toInt32, Int64.toInt_ofInt, Int32.toInt_ofInt]
  rw [show Int64.size = 2 ^ 64 from rfl, show Int32.size = 2 ^ 32 from rfl]
  exact Int.bmod_bmod_of_dvd (by decide)
theorem am_clamp {a : Int} (ha : am_r a) : (Int32.ofInt a).toNatClampNeg = a.toNat := by
  show (Int32.ofInt a).toInt.toNat = _
  rw [am_toInt ha]
theorem am_i8 {n : Int} (h1 : -128 ≤ n) (h2 : n < 128) : (Int8.ofInt n).toInt32 = Int32.ofInt n := by
  apply Int32.toInt_inj.1
  rw [Int8.toInt_toInt32, Int8.toInt_ofInt_of_le (by omega) (by omega), am_toInt ⟨by omega, by omega⟩]
theorem am_i16 {n : Int} (h1 : -32768 ≤ n) (h2 : n < 32768) : (Int16.ofInt n).toInt32 = Int32.ofInt n := by
  apply Int32.toInt_inj.1
  rw [Int16.toInt_toInt32, Int16.toInt_ofInt_of_le (by omega) (by omega), am_toInt ⟨by omega, by omega⟩]
theorem am_bv (a : Int) : ((Int32.ofInt a).toBitVec.toNat : Int) = a % 4294967296 := by
  show (((BitVec.ofInt 32 a).toNat : Nat) : Int) = _
  rw [BitVec.toNat_ofInt]
  have : (0 : Int) ≤ a % ((2 ^ 32 : Nat) : Int) := Int.emod_nonneg _ (by decide)
  rw [Int.toNat_of_nonneg this]
  rfl
theorem am_nI (n : Nat) : nI n = Int32.ofInt (n : Int) := (Int32.ofInt_eq_ofNat).symm
/-- a mask of k low ones -/
theorem am_and (a : Int) {m : Int32} (k : Nat) (hk : k ≤ 32) (hm : m.toBitVec.toNat = 2 ^ k - 1) : Int32.ofInt a &&& m = Int32.ofInt (a % (2 ^ k : Nat)) := by
  rw [pk_and _ k hm, am_nI]
  congr 1
  have h := am_bv a
  have e : (((Int32.ofInt a).toBitVec.toNat % 2 ^ k : Nat) : Int) = ((Int32.ofInt a).toBitVec.toNat : Int) % ((2 ^ k : Nat) : Int) := by simp
  rw [e, h]
  exact Int.emod_emod_of_dvd a (by
    have : (2 : Nat) ^ k ∣ 2 ^ 32 := Nat.pow_dvd_pow 2 hk
    exact Int.ofNat_dvd.mpr this)
theorem am_shr {a : Int} (ha : am_r a) {s : Int32} (k : Nat) (hs : (s.toBitVec.smod 32).toNat = k) : Int32.ofInt a >>> s = Int32.ofInt (a / (2 ^ k : Nat)) := by
  apply Int32.toInt_inj.1
  rw [pk_shr _ _ k hs, am_toInt ha, Int.shiftRight_eq_div_pow]
  have h1 := ha.1; have h2 := ha.2
  have hp : (0 : Int) < ((2 ^ k : Nat) : Int) := by exact Int.ofNat_lt.mpr (Nat.pow_pos (by decide))
  refine (am_toInt ⟨?_, ?_⟩).symm
  · refine (Int.le_ediv_iff_mul_le hp).mpr ?_
    generalize ((2 ^ k : Nat) : Int) = P at hp ⊢
    omega
  · refine Int.ediv_lt_of_lt_mul hp ?_
    generalize ((2 ^ k : Nat) : Int) = P at hp ⊢
    omega
/-- the shift counts, as the machine masks them -/
theorem am_cnt : ∀ n : Nat, n < 32 → ((Int32.ofInt (n : Int) &&& 31).toBitVec.smod 32).toNat = n := by decide +kernel
theorem am_ishr {a b : Int} (ha : am_r a) (h0 : 0 ≤ b) (h1 : b < 32) : Int32.ofInt a >>> (Int32.ofInt b &&& 31) = Int32.ofInt (a / (2 ^ b.toNat : Nat)) := by
  obtain ⟨n, rfl⟩ := Int.eq_ofNat_of_zero_le h0
  exact am_shr ha n (am_cnt n (by omega))
theorem am_i2b (a : Int) : (Int32.ofInt a).toInt8.toInt32 = Int32.ofInt ((a + 128) % 256 - 128) := by
  apply Int32.toInt_inj.1
  rw [Int8.toInt_toInt32, Int32.toInt_toInt8, Int32.toInt_ofInt, show Int32.size = 2 ^ 32 from rfl]
  rw [am_toInt ⟨by omega, by omega⟩]
  rw [Int.bmod_bmod_of_dvd (by decide)]
  simp only [Int.bmod]
  split <;> omega
