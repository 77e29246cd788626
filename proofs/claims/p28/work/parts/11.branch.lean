/-! Branches, and arithmetic that wants a range. -/
section AB
variable {w : am_w} {y : YR} {d pc tgt : Nat} {lv : List (Nat × AV)} {st : List AV} {h : AH} {off : Int} {Q : RV → AH → Prop}
theorem AS.goto (hd : decode y.2.1 pc = .ok (.goto off, 3)) (ht : (pc : Int) + off = (tgt : Int)) : AS w y d pc lv st h tgt lv st h :=
  AS.lift fun p l e R s m args below meth c H locs cells slots Q ls hC hKS hKH hR hl hcl hsl hv kk => lv_goto hC.1 hC.2.1 hd ht (kk ls hv)
theorem AS.if_eq_t {z : Int} (hd : decode y.2.1 pc = .ok (.ifCond .eq off, 3)) (ht : (pc : Int) + off = (tgt : Int)) (hz : am_r z) (hc : z = 0) : AS w y d pc lv (vi z :: st) h tgt lv st h :=
  AS.lift fun p l e R s m args below meth c H locs cells slots Q ls hC hKS hKH hR hl hcl hsl hv kk => lv_if_eq hC.1 hC.2.1 hd ht (fun _ => kk ls hv) (fun hn => absurd ((am_eq hz am_r0).mpr hc) hn)
theorem AS.if_eq_f {z : Int} (hd : decode y.2.1 pc = .ok (.ifCond .eq off, 3)) (hz : am_r z) (hc : ¬ z = 0) (ht : 0 ≤ (pc : Int) + off) : AS w y d pc lv (vi z :: st) h (pc + 3) lv st h :=
  AS.lift fun p l e R s m args below meth c H locs cells slots Q ls hC hKS hKH hR hl hcl hsl hv kk => lv_if_eq (tgt := ((pc : Int) + off).toNat) hC.1 hC.2.1 hd (Int.toNat_of_nonneg ht).symm (fun hn => absurd ((am_eq hz am_r0).mp hn) hc) (fun _ => kk ls hv)
theorem AQ.if_eq {z : Int} (hd : decode y.2.1 pc = .ok (.ifCond .eq off, 3)) (ht : (pc : Int) + off = (tgt : Int)) (hz : am_r z) (kt : z = 0 → AQ w y d tgt lv st h Q) (kf : ¬ z = 0 → AQ w y d (pc + 3) lv st h Q) : AQ w y d pc lv (vi z :: st) h Q := by
  by_cases hc : z = 0
  · exact AQ.of (AS.if_eq_t hd ht hz hc) (kt hc)
  · exact AQ.of (AS.if_eq_f hd hz hc (by rw [ht]; exact Int.natCast_nonneg _)) (kf hc)
theorem AS.ic_eq_t {a b : Int} (hd : decode y.2.1 pc = .ok (.if_icmp .eq off, 3)) (ht : (pc : Int) + off = (tgt : Int)) (ha : am_r a) (hb : am_r b) (hc : a = b) : AS w y d pc lv (vi b :: vi a :: st) h tgt lv st h :=
  AS.lift fun p l e R s m args below meth c H locs cells slots Q ls hC hKS hKH hR hl hcl hsl hv kk => lv_icmp_eq hC.1 hC.2.1 hd ht (fun _ => kk ls hv) (fun hn => absurd ((am_eq ha hb).mpr hc) hn)
theorem AS.ic_eq_f {a b : Int} (hd : decode y.2.1 pc = .ok (.if_icmp .eq off, 3)) (ha : am_r a) (hb : am_r b) (hc : ¬ a = b) (ht : 0 ≤ (pc : Int) + off) : AS w y d pc lv (vi b :: vi a :: st) h (pc + 3) lv st h :=
  AS.lift fun p l e R s m args below meth c H locs cells slots Q ls hC hKS hKH hR hl hcl hsl hv kk => lv_icmp_eq (tgt := ((pc : Int) + off).toNat) hC.1 hC.2.1 hd (Int.toNat_of_nonneg ht).symm (fun hn => absurd ((am_eq ha hb).mp hn) hc) (fun _ => kk ls hv)
theorem AQ.ic_eq {a b : Int} (hd : decode y.2.1 pc = .ok (.if_icmp .eq off, 3)) (ht : (pc : Int) + off = (tgt : Int)) (ha : am_r a) (hb : am_r b) (kt : a = b → AQ w y d tgt lv st h Q) (kf : ¬ a = b → AQ w y d (pc + 3) lv st h Q) : AQ w y d pc lv (vi b :: vi a :: st) h Q := by
  by_cases hc : a = b
  · exact AQ.of (AS.ic_eq_t hd ht ha hb hc) (kt hc)
  · exact AQ.of (AS.ic_eq_f hd ha hb hc (by rw [ht]; exact Int.natCast_nonneg _)) (kf hc)
theorem AS.if_ne_t {z : Int} (hd : decode y.2.1 pc = .ok (.ifCond .ne off, 3)) (ht : (pc : Int) + off = (tgt : Int)) (hz : am_r z) (hc : ¬ z = 0) : AS w y d pc lv (vi z :: st) h tgt lv st h :=
  AS.lift fun p l e R s m args below meth c H locs cells slots Q ls hC hKS hKH hR hl hcl hsl hv kk => lv_if_ne hC.1 hC.2.1 hd ht (fun _ => kk ls hv) (fun hn => absurd ((am_eq hz am_r0).mp hn) hc)
theorem AS.if_ne_f {z : Int} (hd : decode y.2.1 pc = .ok (.ifCond .ne off, 3)) (hz : am_r z) (hc : z = 0) (ht : 0 ≤ (pc : Int) + off) : AS w y d pc lv (vi z :: st) h (pc + 3) lv st h :=
  AS.lift fun p l e R s m args below meth c H locs cells slots Q ls hC hKS hKH hR hl hcl hsl hv kk => lv_if_ne (tgt := ((pc : Int) + off).toNat) hC.1 hC.2.1 hd (Int.toNat_of_nonneg ht).symm (fun hn => absurd ((am_eq hz am_r0).mpr hc) hn) (fun _ => kk ls hv)
theorem AQ.if_ne {z : Int} (hd : decode y.2.1 pc = .ok (.ifCond .ne off, 3)) (ht : (pc : Int) + off = (tgt : Int)) (hz : am_r z) (kt : ¬ z = 0 → AQ w y d tgt lv st h Q) (kf : z = 0 → AQ w y d (pc + 3) lv st h Q) : AQ w y d pc lv (vi z :: st) h Q := by
  by_cases hc : ¬ z = 0
  · exact AQ.of (AS.if_ne_t hd ht hz hc) (kt hc)
  · exact AQ.of (AS.if_ne_f hd hz (Classical.byContradiction hc) (by rw [ht]; exact Int.natCast_nonneg _)) (kf (Classical.byContradiction hc))
theorem AS.ic_ne_t {a b : Int} (hd : decode y.2.1 pc = .ok (.if_icmp .ne off, 3)) (ht : (pc : Int) + off = (tgt : Int)) (ha : am_r a) (hb : am_r b) (hc : ¬ a = b) : AS w y d pc lv (vi b :: vi a :: st) h tgt lv st h :=
  AS.lift fun p l e R s m args below meth c H locs cells slots Q ls hC hKS hKH hR hl hcl hsl hv kk => lv_icmp_ne hC.1 hC.2.1 hd ht (fun _ => kk ls hv) (fun hn => absurd ((am_eq ha hb).mp hn) hc)
theorem AS.ic_ne_f {a b : Int} (hd : decode y.2.1 pc = .ok (.if_icmp .ne off, 3)) (ha : am_r a) (hb : am_r b) (hc : a = b) (ht : 0 ≤ (pc : Int) + off) : AS w y d pc lv (vi b :: vi a :: st) h (pc + 3) lv st h :=
  AS.lift fun p l e R s m args below meth c H locs cells slots Q ls hC hKS hKH hR hl hcl hsl hv kk => lv_icmp_ne (tgt := ((pc : Int) + off).toNat) hC.1 hC.2.1 hd (Int.toNat_of_nonneg ht).symm (fun hn => absurd ((am_eq ha hb).mpr hc) hn) (fun _ => kk ls hv)
theorem AQ.ic_ne {a b : Int} (hd : decode y.2.1 pc = .ok (.if_icmp .ne off, 3)) (ht : (pc : Int) + off = (tgt : Int)) (ha : am_r a) (hb : am_r b) (kt : ¬ a = b → AQ w y d tgt lv st h Q) (kf : a = b → AQ w y d (pc + 3) lv st h Q) : AQ w y d pc lv (vi b :: vi a :: st) h Q := by
  by_cases hc : ¬ a = b
  · exact AQ.of (AS.ic_ne_t hd ht ha hb hc) (kt hc)
  · exact AQ.of (AS.ic_ne_f hd ha hb (Classical.byContradiction hc) (by rw [ht]; exact Int.natCast_nonneg _)) (kf (Classical.byContradiction hc))
theorem AS.if_lt_t {z : Int} (hd : decode y.2.1 pc = .ok (.ifCond .lt off, 3)) (ht : (pc : Int) + off = (tgt : Int)) (hz : am_r z) (hc : z < 0) : AS w y d pc lv (vi z :: st) h tgt lv st h :=
  AS.lift fun p l e R s m args below meth c H locs cells slots Q ls hC hKS hKH hR hl hcl hsl hv kk => lv_if_lt hC.1 hC.2.1 hd ht (fun _ => kk ls hv) (fun hn => absurd ((am_lt hz am_r0).mpr hc) hn)
theorem AS.if_lt_f {z : Int} (hd : decode y.2.1 pc = .ok (.ifCond .lt off, 3)) (hz : am_r z) (hc : ¬ z < 0) (ht : 0 ≤ (pc : Int) + off) : AS w y d pc lv (vi z :: st) h (pc + 3) lv st h :=
  AS.lift fun p l e R s m args below meth c H locs cells slots Q ls hC hKS hKH hR hl hcl hsl hv kk => lv_if_lt (tgt := ((pc : Int) + off).toNat) hC.1 hC.2.1 hd (Int.toNat_of_nonneg ht).symm (fun hn => absurd ((am_lt hz am_r0).mp hn) hc) (fun _ => kk ls hv)
theorem AQ.if_lt {z : Int} (hd : decode y.2.1 pc = .ok (.ifCond .lt off, 3)) (ht : (pc : Int) + off = (tgt : Int)) (hz : am_r z) (kt : z < 0 → AQ w y d tgt lv st h Q) (kf : ¬ z < 0 → AQ w y d (pc + 3) lv st h Q) : AQ w y d pc lv (vi z :: st) h Q := by
  by_cases hc : z < 0
  · exact AQ.of (AS.if_lt_t hd ht hz hc) (kt hc)
  · exact AQ.of (AS.if_lt_f hd hz hc (by rw [ht]; exact Int.natCast_nonneg _)) (kf hc)
theorem AS.ic_lt_t {a b : Int} (hd : decode y.2.1 pc = .ok (.if_icmp .lt off, 3)) (ht : (pc : Int) + off = (tgt : Int)) (ha : am_r a) (hb : am_r b) (hc : a < b) : AS w y d pc lv (vi b :: vi a :: st) h tgt lv st h :=
  AS.lift fun p l e R s m args below meth c H locs cells slots Q ls hC hKS hKH hR hl hcl hsl hv kk => lv_icmp_lt hC.1 hC.2.1 hd ht (fun _ => kk ls hv) (fun hn => absurd ((am_lt ha hb).mpr hc) hn)
theorem AS.ic_lt_f {a b : Int} (hd : decode y.2.1 pc = .ok (.if_icmp .lt off, 3)) (ha : am_r a) (hb : am_r b) (hc : ¬ a < b) (ht : 0 ≤ (pc : Int) + off) : AS w y d pc lv (vi b :: vi a :: st) h (pc + 3) lv st h :=
  AS.lift fun p l e R s m args below meth c H locs cells slots Q ls hC hKS hKH hR hl hcl hsl hv kk => lv_icmp_lt (tgt := ((pc : Int) + off).toNat) hC.1 hC.2.1 hd (Int.toNat_of_nonneg ht).symm (fun hn => absurd ((am_lt ha hb).mp hn) hc) (fun _ => kk ls hv)
theorem AQ.ic_lt {a b : Int} (hd : decode y.2.1 pc = .ok (.if_icmp .lt off, 3)) (ht : (pc : Int) + off = (tgt : Int)) (ha : am_r a) (hb : am_r b) (kt : a < b → AQ w y d tgt lv st h Q) (kf : ¬ a < b → AQ w y d (pc + 3) lv st h Q) : AQ w y d pc lv (vi b :: vi a :: st) h Q := by
  by_cases hc : a < b
  · exact AQ.of (AS.ic_lt_t hd ht ha hb hc) (kt hc)
  · exact AQ.of (AS.ic_lt_f hd ha hb hc (by rw [ht]; exact Int.natCast_nonneg _)) (kf hc)
theorem AS.if_ge_t {z : Int} (hd : decode y.2.1 pc = .ok (.ifCond .ge off, 3)) (ht : (pc : Int) + off = (tgt : Int)) (hz : am_r z) (hc : 0 ≤ z) : AS w y d pc lv (vi z :: st) h tgt lv st h :=
  AS.lift fun p l e R s m args below meth c H locs cells slots Q ls hC hKS hKH hR hl hcl hsl hv kk => lv_if_ge hC.1 hC.2.1 hd ht (fun _ => kk ls hv) (fun hn => absurd ((am_le am_r0 hz).mpr hc) hn)
theorem AS.if_ge_f {z : Int} (hd : decode y.2.1 pc = .ok (.ifCond .ge off, 3)) (hz : am_r z) (hc : ¬ 0 ≤ z) (ht : 0 ≤ (pc : Int) + off) : AS w y d pc lv (vi z :: st) h (pc + 3) lv st h :=
  AS.lift fun p l e R s m args below meth c H locs cells slots Q ls hC hKS hKH hR hl hcl hsl hv kk => lv_if_ge (tgt := ((pc : Int) + off).toNat) hC.1 hC.2.1 hd (Int.toNat_of_nonneg ht).symm (fun hn => absurd ((am_le am_r0 hz).mp hn) hc) (fun _ => kk ls hv)
theorem AQ.if_ge {z : Int} (hd : decode y.2.1 pc = .ok (.ifCond .ge off, 3)) (ht : (pc : Int) + off = (tgt : Int)) (hz : am_r z) (kt : 0 ≤ z → AQ w y d tgt lv st h Q) (kf : ¬ 0 ≤ z → AQ w y d (pc + 3) lv st h Q) : AQ w y d pc lv (vi z :: st) h Q := by
  by_cases hc : 0 ≤ z
  · exact AQ.of (AS.if_ge_t hd ht hz hc) (kt hc)
  · exact AQ.of (AS.if_ge_f hd hz hc (by rw [ht]; exact Int.natCast_nonneg _)) (kf hc)
theorem AS.ic_ge_t {a b : Int} (hd : decode y.2.1 pc = .ok (.if_icmp .ge off, 3)) (ht : (pc : Int) + off = (tgt : Int)) (ha : am_r a) (hb : am_r b) (hc : b ≤ a) : AS w y d pc lv (vi b :: vi a :: st) h tgt lv st h :=
  AS.lift fun p l e R s m args below meth c H locs cells slots Q ls hC hKS hKH hR hl hcl hsl hv kk => lv_icmp_ge hC.1 hC.2.1 hd ht (fun _ => kk ls hv) (fun hn => absurd ((am_le hb ha).mpr hc) hn)
theorem AS.ic_ge_f {a b : Int} (hd : decode y.2.1 pc = .ok (.if_icmp .ge off, 3)) (ha : am_r a) (hb : am_r b) (hc : ¬ b ≤ a) (ht : 0 ≤ (pc : Int) + off) : AS w y d pc lv (vi b :: vi a :: st) h (pc + 3) lv st h :=
  AS.lift fun p l e R s m args below meth c H locs cells slots Q ls hC hKS hKH hR hl hcl hsl hv kk => lv_icmp_ge (tgt := ((pc : Int) + off).toNat) hC.1 hC.2.1 hd (Int.toNat_of_nonneg ht).symm (fun hn => absurd ((am_le hb ha).mp hn) hc) (fun _ => kk ls hv)
theorem AQ.ic_ge {a b : Int} (hd : decode y.2.1 pc = .ok (.if_icmp .ge off, 3)) (ht : (pc : Int) + off = (tgt : Int)) (ha : am_r a) (hb : am_r b) (kt : b ≤ a → AQ w y d tgt lv st h Q) (kf : ¬ b ≤ a → AQ w y d (pc + 3) lv st h Q) : AQ w y d pc lv (vi b :: vi a :: st) h Q := by
  by_cases hc : b ≤ a
  · exact AQ.of (AS.ic_ge_t hd ht ha hb hc) (kt hc)
  · exact AQ.of (AS.ic_ge_f hd ha hb hc (by rw [ht]; exact Int.natCast_nonneg _)) (kf hc)
theorem AS.if_gt_t {z : Int} (hd : decode y.2.1 pc = .ok (.ifCond .gt off, 3)) (ht : (pc : Int) + off = (tgt : Int)) (hz : am_r z) (hc : 0 < z) : AS w y d pc lv (vi z :: st) h tgt lv st h :=
  AS.lift fun p l e R s m args below meth c H locs cells slots Q ls hC hKS hKH hR hl hcl hsl hv kk => lv_if_gt hC.1 hC.2.1 hd ht (fun _ => kk ls hv) (fun hn => absurd ((am_lt am_r0 hz).mpr hc) hn)
theorem AS.if_gt_f {z : Int} (hd : decode y.2.1 pc = .ok (.ifCond .gt off, 3)) (hz : am_r z) (hc : ¬ 0 < z) (ht : 0 ≤ (pc : Int) + off) : AS w y d pc lv (vi z :: st) h (pc + 3) lv st h :=
  AS.lift fun p l e R s m args below meth c H locs cells slots Q ls hC hKS hKH hR hl hcl hsl hv kk => lv_if_gt (tgt := ((pc : Int) + off).toNat) hC.1 hC.2.1 hd (Int.toNat_of_nonneg ht).symm (fun hn => absurd ((am_lt am_r0 hz).mp hn) hc) (fun _ => kk ls hv)
theorem AQ.if_gt {z : Int} (hd : decode y.2.1 pc = .ok (.ifCond .gt off, 3)) (ht : (pc : Int) + off = (tgt : Int)) (hz : am_r z) (kt : 0 < z → AQ w y d tgt lv st h Q) (kf : ¬ 0 < z → AQ w y d (pc + 3) lv st h Q) : AQ w y d pc lv (vi z :: st) h Q := by
  by_cases hc : 0 < z
  · exact AQ.of (AS.if_gt_t hd ht hz hc) (kt hc)
  · exact AQ.of (AS.if_gt_f hd hz hc (by rw [ht]; exact Int.natCast_nonneg _)) (kf hc)
theorem AS.ic_gt_t {a b : Int} (hd : decode y.2.1 pc = .ok (.if_icmp .gt off, 3)) (ht : (pc : Int) + off = (tgt : Int)) (ha : am_r a) (hb : am_r b) (hc : b < a) : AS w y d pc lv (vi b :: vi a :: st) h tgt lv st h :=
  AS.lift fun p l e R s m args below meth c H locs cells slots Q ls hC hKS hKH hR hl hcl hsl hv kk => lv_icmp_gt hC.1 hC.2.1 hd ht (fun _ => kk ls hv) (fun hn => absurd ((am_lt hb ha).mpr hc) hn)
theorem AS.ic_gt_f {a b : Int} (hd : decode y.2.1 pc = .ok (.if_icmp .gt off, 3)) (ha : am_r a) (hb : am_r b) (hc : ¬ b < a) (ht : 0 ≤ (pc : Int) + off) : AS w y d pc lv (vi b :: vi a :: st) h (pc + 3) lv st h :=
  AS.lift fun p l e R s m args below meth c H locs cells slots Q ls hC hKS hKH hR hl hcl hsl hv kk => lv_icmp_gt (tgt := ((pc : Int) + off).toNat) hC.1 hC.2.1 hd (Int.toNat_of_nonneg ht).symm (fun hn => absurd ((am_lt hb ha).mp hn) hc) (fun _ => kk ls hv)
theorem AQ.ic_gt {a b : Int} (hd : decode y.2.1 pc = .ok (.if_icmp .gt off, 3)) (ht : (pc : Int) + off = (tgt : Int)) (ha : am_r a) (hb : am_r b) (kt : b < a → AQ w y d tgt lv st h Q) (kf : ¬ b < a → AQ w y d (pc + 3) lv st h Q) : AQ w y d pc lv (vi b :: vi a :: st) h Q := by
  by_cases hc : b < a
  · exact AQ.of (AS.ic_gt_t hd ht ha hb hc) (kt hc)
  · exact AQ.of (AS.ic_gt_f hd ha hb hc (by rw [ht]; exact Int.natCast_nonneg _)) (kf hc)
theorem AS.if_le_t {z : Int} (hd : decode y.2.1 pc = .ok (.ifCond .le off, 3)) (ht : (pc : Int) + off = (tgt : Int)) (hz : am_r z) (hc : z ≤ 0) : AS w y d pc lv (vi z :: st) h tgt lv st h :=
  AS.lift fun p l e R s m args below meth c H locs cells slots Q ls hC hKS hKH hR hl hcl hsl hv kk => lv_if_le hC.1 hC.2.1 hd ht (fun _ => kk ls hv) (fun hn => absurd ((am_le hz am_r0).mpr hc) hn)
theorem AS.if_le_f {z : Int} (hd : decode y.2.1 pc = .ok (.ifCond .le off, 3)) (hz : am_r z) (hc : ¬ z ≤ 0) (ht : 0 ≤ (pc : Int) + off) : AS w y d pc lv (vi z :: st) h (pc + 3) lv st h :=
  AS.lift fun p l e R s m args below meth c H locs cells slots Q ls hC hKS hKH hR hl hcl hsl hv kk => lv_if_le (tgt := ((pc : Int) + off).toNat) hC.1 hC.2.1 hd (Int.toNat_of_nonneg ht).symm (fun hn => absurd ((am_le hz am_r0).mp hn) hc) (fun _ => kk ls hv)
theorem AQ.if_le {z : Int} (hd : decode y.2.1 pc = .ok (.ifCond .le off, 3)) (ht : (pc : Int) + off = (tgt : Int)) (hz : am_r z) (kt : z ≤ 0 → AQ w y d tgt lv st h Q) (kf : ¬ z ≤ 0 → AQ w y d (pc + 3) lv st h Q) : AQ w y d pc lv (vi z :: st) h Q := by
  by_cases hc : z ≤ 0
  · exact AQ.of (AS.if_le_t hd ht hz hc) (kt hc)
  · exact AQ.of (AS.if_le_f hd hz hc (by rw [ht]; exact Int.natCast_nonneg _)) (kf hc)
theorem AS.ic_le_t {a b : Int} (hd : decode y.2.1 pc = .ok (.if_icmp .le off, 3)) (ht : (pc : Int) + off = (tgt : Int)) (ha : am_r a) (hb : am_r b) (hc : a ≤ b) : AS w y d pc lv (vi b :: vi a :: st) h tgt lv st h :=
  AS.lift fun p l e R s m args below meth c H locs cells slots Q ls hC hKS hKH hR hl hcl hsl hv kk => lv_icmp_le hC.1 hC.2.1 hd ht (fun _ => kk ls hv) (fun hn => absurd ((am_le ha hb).mpr hc) hn)
theorem AS.ic_le_f {a b : Int} (hd : decode y.2.1 pc = .ok (.if_icmp .le off, 3)) (ha : am_r a) (hb : am_r b) (hc : ¬ a ≤ b) (ht : 0 ≤ (pc : Int) + off) : AS w y d pc lv (vi b :: vi a :: st) h (pc + 3) lv st h :=
  AS.lift fun p l e R s m args below meth c H locs cells slots Q ls hC hKS hKH hR hl hcl hsl hv kk => lv_icmp_le (tgt := ((pc : Int) + off).toNat) hC.1 hC.2.1 hd (Int.toNat_of_nonneg ht).symm (fun hn => absurd ((am_le ha hb).mp hn) hc) (fun _ => kk ls hv)
theorem AQ.ic_le {a b : Int} (hd : decode y.2.1 pc = .ok (.if_icmp .le off, 3)) (ht : (pc : Int) + off = (tgt : Int)) (ha : am_r a) (hb : am_r b) (kt : a ≤ b → AQ w y d tgt lv st h Q) (kf : ¬ a ≤ b → AQ w y d (pc + 3) lv st h Q) : AQ w y d pc lv (vi b :: vi a :: st) h Q := by
  by_cases hc : a ≤ b
  · exact AQ.of (AS.ic_le_t hd ht ha hb hc) (kt hc)
  · exact AQ.of (AS.ic_le_f hd ha hb hc (by rw [ht]; exact Int.natCast_nonneg _)) (kf hc)
theorem AS.idiv {a b : Int} (hd : decode y.2.1 pc = .ok (.idiv, 1)) (ha : am_r a) (hb : am_r b) (h0 : b ≠ 0) : AS w y d pc lv (vi b :: vi a :: st) h (pc + 1) lv (vi (a.tdiv b) :: st) h :=
  AS.lift fun p l e R s m args below meth c H locs cells slots Q ls hC hKS hKH hR hl hcl hsl hv kk => lv_idiv hC.1 hC.2.1 hd (fun z => h0 ((am_eq hb am_r0).mp z)) (by rw [am_div ha hb]; exact kk ls hv)
theorem AS.irem {a b : Int} (hd : decode y.2.1 pc = .ok (.irem, 1)) (ha : am_r a) (hb : am_r b) (h0 : b ≠ 0) : AS w y d pc lv (vi b :: vi a :: st) h (pc + 1) lv (vi (a.tmod b) :: st) h :=
  AS.lift fun p l e R s m args below meth c H locs cells slots Q ls hC hKS hKH hR hl hcl hsl hv kk => lv_irem hC.1 hC.2.1 hd (fun z => h0 ((am_eq hb am_r0).mp z)) (by rw [am_rem ha hb]; exact kk ls hv)
theorem AS.ldiv {a b : Int} (hd : decode y.2.1 pc = .ok (.ldiv, 1)) (ha : am_rl a) (hb : am_rl b) (h0 : b ≠ 0) : AS w y d pc lv (vl b :: vl a :: st) h (pc + 1) lv (vl (a.tdiv b) :: st) h :=
  AS.lift fun p l e R s m args below meth c H locs cells slots Q ls hC hKS hKH hR hl hcl hsl hv kk => lv_ldiv hC.1 hC.2.1 hd (fun z => h0 ((am_eqL hb ⟨by decide, by decide⟩).mp z)) (by rw [am_divL ha hb]; exact kk ls hv)
theorem AS.ishr {a b : Int} (hd : decode y.2.1 pc = .ok (.ishr, 1)) (ha : am_r a) (h0 : 0 ≤ b) (h1 : b < 32) : AS w y d pc lv (vi b :: vi a :: st) h (pc + 1) lv (vi (a / (2 ^ b.toNat : Nat)) :: st) h :=
  AS.lift fun p l e R s m args below meth c H locs cells slots Q ls hC hKS hKH hR hl hcl hsl hv kk => lv_ishr hC.1 hC.2.1 hd (by rw [am_ishr ha h0 h1]; exact kk ls hv)
theorem AS.iand31 {a : Int} (hd : decode y.2.1 pc = .ok (.iand, 1)) : AS w y d pc lv (vi 31 :: vi a :: st) h (pc + 1) lv (vi (a % 32) :: st) h :=
  AS.lift fun p l e R s m args below meth c H locs cells slots Q ls hC hKS hKH hR hl hcl hsl hv kk => lv_iand hC.1 hC.2.1 hd (by rw [am_and a 5 (by decide) (by decide)]; exact kk ls hv)
theorem AS.iand255 {a : Int} (hd : decode y.2.1 pc = .ok (.iand, 1)) : AS w y d pc lv (vi 255 :: vi a :: st) h (pc + 1) lv (vi (a % 256) :: st) h :=
  AS.lift fun p l e R s m args below meth c H locs cells slots Q ls hC hKS hKH hR hl hcl hsl hv kk => lv_iand hC.1 hC.2.1 hd (by rw [am_and a 8 (by decide) (by decide)]; exact kk ls hv)
theorem AS.iand1 {a : Int} (hd : decode y.2.1 pc = .ok (.iand, 1)) : AS w y d pc lv (vi 1 :: vi a :: st) h (pc + 1) lv (vi (a % 2) :: st) h :=
  AS.lift fun p l e R s m args below meth c H locs cells slots Q ls hC hKS hKH hR hl hcl hsl hv kk => lv_iand hC.1 hC.2.1 hd (by rw [am_and a 1 (by decide) (by decide)]; exact kk ls hv)
theorem AS.ior1 {a : Int} (hd : decode y.2.1 pc = .ok (.ior, 1)) (ha : a = 0 ∨ a = 1) : AS w y d pc lv (vi 1 :: vi a :: st) h (pc + 1) lv (vi 1 :: st) h :=
  AS.lift fun p l e R s m args below meth c H locs cells slots Q ls hC hKS hKH hR hl hcl hsl hv kk => lv_ior hC.1 hC.2.1 hd (by rw [show Int32.ofInt a ||| Int32.ofInt 1 = Int32.ofInt 1 by rcases ha with rfl | rfl <;> decide]; exact kk ls hv)
theorem AS.ishl0 (hd : decode y.2.1 pc = .ok (.ishl, 1)) : AS w y d pc lv (vi 0 :: vi 1 :: st) h (pc + 1) lv (vi 1 :: st) h :=
  AS.lift fun p l e R s m args below meth c H locs cells slots Q ls hC hKS hKH hR hl hcl hsl hv kk => lv_ishl hC.1 hC.2.1 hd (by rw [show Int32.ofInt 1 <<< (Int32.ofInt 0 &&& 31) = Int32.ofInt 1 by decide]; exact kk ls hv)
theorem AS.i2l {a : Int} (hd : decode y.2.1 pc = .ok (.i2l, 1)) (ha : am_r a) : AS w y d pc lv (vi a :: st) h (pc + 1) lv (vl a :: st) h :=
  AS.lift fun p l e R s m args below meth c H locs cells slots Q ls hC hKS hKH hR hl hcl hsl hv kk => lv_i2l hC.1 hC.2.1 hd (am_i2l ha) (kk ls hv)
theorem AS.l2i {a : Int} (hd : decode y.2.1 pc = .ok (.l2i, 1)) : AS w y d pc lv (vl a :: st) h (pc + 1) lv (vi a :: st) h :=
  AS.lift fun p l e R s m args below meth c H locs cells slots Q ls hC hKS hKH hR hl hcl hsl hv kk => lv_l2i hC.1 hC.2.1 hd (am_l2i a) (kk ls hv)
theorem AS.i2b {a : Int} (hd : decode y.2.1 pc = .ok (.i2b, 1)) : AS w y d pc lv (vi a :: st) h (pc + 1) lv (vi ((a + 128) % 256 - 128) :: st) h :=
  AS.lift fun p l e R s m args below meth c H locs cells slots Q ls hC hKS hKH hR hl hcl hsl hv kk => lv_i2b hC.1 hC.2.1 hd (am_i2b a) (kk ls hv)
/-- the sign of a comparison of longs -/
def am_cmp (a b : Int) : Int := if b < a then 1 else if a = b then 0 else -1
theorem am_cmp_of {a b : Int} (ha : am_rl a) (hb : am_rl b) : lg_cmp (Int64.ofInt a) (Int64.ofInt b) = Int32.ofInt (am_cmp a b) := by
  unfold lg_cmp am_cmp
  simp only [gt_iff_lt, am_ltL hb ha, am_eqL ha hb]
  split
  · rfl
  · split <;> rfl
theorem AS.lcmp {a b : Int} (hd : decode y.2.1 pc = .ok (.lcmp, 1)) (ha : am_rl a) (hb : am_rl b) : AS w y d pc lv (vl b :: vl a :: st) h (pc + 1) lv (vi (am_cmp a b) :: st) h :=
  AS.lift fun p l e R s m args below meth c H locs cells slots Q ls hC hKS hKH hR hl hcl hsl hv kk => W.lcmp hC.1 hC.2.1 hd (by rw [am_cmp_of ha hb]; exact kk ls hv)
theorem AS.lcmpE {a : Int} (hd : decode y.2.1 pc = .ok (.lcmp, 1)) : AS w y d pc lv (vl a :: vl a :: st) h (pc + 1) lv (vi 0 :: st) h :=
  AS.lift fun p l e R s m args below meth c H locs cells slots Q ls hC hKS hKH hR hl hcl hsl hv kk => W.lcmp hC.1 hC.2.1 hd (by rw [show lg_cmp (Int64.ofInt a) (Int64.ofInt a) = Int32.ofInt 0 by unfold lg_cmp; simp]; exact kk ls hv)
theorem AS.tabIn {dflt lo hi : Int} {offs : Array Int} {len : Nat} {z : Int} (hd : decode y.2.1 pc = .ok (.tableswitch dflt lo hi offs, len)) (hz : am_r z) (h1 : lo ≤ z) (h2 : z ≤ hi) (ho : offs[(z - lo).toNat]? = some off) (ht : (pc : Int) + off = (tgt : Int)) : AS w y d pc lv (vi z :: st) h tgt lv st h :=
  AS.lift fun p l e R s m args below meth c H locs cells slots Q ls hC hKS hKH hR hl hcl hsl hv kk => lv_tableIn hC.1 hC.2.1 hd (by rw [am_toInt hz]; omega) (by rw [am_toInt hz]; omega) (by rw [am_toInt hz]; exact ho) ht (kk ls hv)
theorem AS.tabOut {dflt lo hi : Int} {offs : Array Int} {len : Nat} {z : Int} (hd : decode y.2.1 pc = .ok (.tableswitch dflt lo hi offs, len)) (hz : am_r z) (h1 : z < lo ∨ hi < z) (ht : (pc : Int) + dflt = (tgt : Int)) : AS w y d pc lv (vi z :: st) h tgt lv st h :=
  AS.lift fun p l e R s m args below meth c H locs cells slots Q ls hC hKS hKH hR hl hcl hsl hv kk => lv_tableOut hC.1 hC.2.1 hd (by rw [am_toInt hz]; exact h1) ht (kk ls hv)
theorem AS.ldc {idx : Nat} {z : Int} (hd : decode y.2.1 pc = .ok (.ldc idx, 2)) (hw : Cond.constant y.1.cls idx (Int32.ofInt z) ∈ GW) : AS w y d pc lv st h (pc + 2) lv (vi z :: st) h :=
  AS.lift fun p l e R s m args below meth c H locs cells slots Q ls hC hKS hKH hR hl hcl hsl hv kk => lv_ldc hC.1 hC.2.1 hC.2.2.2.1 (hC.2.2.2.2.1 _ hw) hd (kk ls hv)
theorem AS.ldc2 {idx : Nat} {z : Int} (hd : decode y.2.1 pc = .ok (.ldc2_w idx, 3)) (hw : Cond.constantLong y.1.cls idx (Int64.ofInt z) ∈ GW) : AS w y d pc lv st h (pc + 3) lv (vl z :: st) h :=
  AS.lift fun p l e R s m args below meth c H locs cells slots Q ls hC hKS hKH hR hl hcl hsl hv kk => lv_ldc2 hC.1 hC.2.1 hC.2.2.2.1 (hC.2.2.2.2.1 _ hw) hd (kk ls hv)
theorem am_str_lt {i : Nat} (hi : i < am_STR.length) : am_STR[i]? = some (am_txt i) := by
  rw [am_txt, List.getD_eq_getElem?_getD, List.getElem?_eq_getElem hi]; rfl
end AB
