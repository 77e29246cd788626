/-! Calls as scripts use them; calls of the JDK's members. -/
/-- a call's end with an answer of that kind -/
def am_int (P : Int → AH → Prop) : RV → AH → Prop := fun r h1 => ∃ z, r = .inl (some (vi z)) ∧ P z h1
def am_lng (P : Int → AH → Prop) : RV → AH → Prop := fun r h1 => ∃ z, r = .inl (some (vl z)) ∧ P z h1
def am_ref (P : Nat → AH → Prop) : RV → AH → Prop := fun r h1 => ∃ a, r = .inl (some (vr a)) ∧ P a h1
def am_unit (P : AH → Prop) : RV → AH → Prop := fun r h1 => r = .inl none ∧ P h1
/-- or with an exception -/
def am_or (Q1 : RV → AH → Prop) (X : Nat → AH → Prop) : RV → AH → Prop := fun r h1 => Q1 r h1 ∨ ∃ k, r = .inr k ∧ X k h1
/-- an object of that kind is there -/
def am_ob (h : AH) (b ci : Nat) : Prop := ∃ (nn : Int) (f : Int → Int) (g : Int → Option Nat), h.1 b = some (ci, nn, f, g)
section ACQ
variable {w : am_w} {y y2 : YR} {d d2 pc idx n b : Nat} {lv : List (Nat × AV)} {av st stk : List AV} {h : AH} {Q : RV → AH → Prop}
theorem AQ.callVi {P : Int → AH → Prop} {ci : Nat} (hE : AE w y2 d2 (vr b :: av) h (am_int P)) (hlk : am_lkV y.1.cls idx y2 n) (hdd : d2 + 1 ≤ d) (hst : stk = av.reverse ++ vr b :: st) (hn : av.length = n) (hb : am_ob h b ci) (hcl : ∃ q, vwCl[ci]? = some q ∧ q.1 = y2.1.cls) (h8 : am_cat8 st ≤ 8) (hd : decode y.2.1 pc = .ok (.invokevirtual idx, 3)) (kk : ∀ (z : Int) (h1 : AH), P z h1 → AQ w y d (pc + 3) lv (vi z :: st) h1 Q) : AQ w y d pc lv stk h Q := by
  obtain ⟨r1, h1, hM, z, rfl, hp⟩ := hE
  obtain ⟨nn9, f9, g9, hb⟩ := hb
  obtain ⟨r, h', k1, k2⟩ := kk z h1 hp
  exact ⟨r, h', AW.callV hM (r := r) k1 hlk hdd hst hn hb hcl h8 hd, k2⟩
theorem AQ.callxVi {P : Int → AH → Prop} {X : Nat → AH → Prop} {ci : Nat} (hE : AE w y2 d2 (vr b :: av) h (am_or (am_int P) X)) (hlk : am_lkV y.1.cls idx y2 n) (hdd : d2 + 1 ≤ d) (hst : stk = av.reverse ++ vr b :: st) (hn : av.length = n) (hb : am_ob h b ci) (hcl : ∃ q, vwCl[ci]? = some q ∧ q.1 = y2.1.cls) (h8 : am_cat8 st ≤ 8) (hd : decode y.2.1 pc = .ok (.invokevirtual idx, 3)) (hout : ∀ x ∈ tableOf y.2.2.2.2, covers x pc = false) (hX : ∀ (k : Nat) (h1 : AH), X k h1 → Q (.inr k) h1) (kk : ∀ (z : Int) (h1 : AH), P z h1 → AQ w y d (pc + 3) lv (vi z :: st) h1 Q) : AQ w y d pc lv stk h Q := by
  obtain ⟨nn9, f9, g9, hb⟩ := hb
  obtain ⟨r1, h1, hM, ⟨z, rfl, hp⟩ | ⟨k, rfl, hp⟩⟩ := hE
  · obtain ⟨r, h', k1, k2⟩ := kk z h1 hp
    exact ⟨r, h', AW.callV hM (r := r) k1 hlk hdd hst hn hb hcl h8 hd, k2⟩
  · exact ⟨.inr k, h1, AW.callV hM (r := .inr k) (h' := h1) (AX.out hout) hlk hdd hst hn hb hcl h8 hd, hX k h1 hp⟩
theorem AQ.callVl {P : Int → AH → Prop} {ci : Nat} (hE : AE w y2 d2 (vr b :: av) h (am_lng P)) (hlk : am_lkV y.1.cls idx y2 n) (hdd : d2 + 1 ≤ d) (hst : stk = av.reverse ++ vr b :: st) (hn : av.length = n) (hb : am_ob h b ci) (hcl : ∃ q, vwCl[ci]? = some q ∧ q.1 = y2.1.cls) (h8 : am_cat8 st ≤ 8) (hd : decode y.2.1 pc = .ok (.invokevirtual idx, 3)) (kk : ∀ (z : Int) (h1 : AH), P z h1 → AQ w y d (pc + 3) lv (vl z :: st) h1 Q) : AQ w y d pc lv stk h Q := by
  obtain ⟨r1, h1, hM, z, rfl, hp⟩ := hE
  obtain ⟨nn9, f9, g9, hb⟩ := hb
  obtain ⟨r, h', k1, k2⟩ := kk z h1 hp
  exact ⟨r, h', AW.callV hM (r := r) k1 hlk hdd hst hn hb hcl h8 hd, k2⟩
theorem AQ.callxVl {P : Int → AH → Prop} {X : Nat → AH → Prop} {ci : Nat} (hE : AE w y2 d2 (vr b :: av) h (am_or (am_lng P) X)) (hlk : am_lkV y.1.cls idx y2 n) (hdd : d2 + 1 ≤ d) (hst : stk = av.reverse ++ vr b :: st) (hn : av.length = n) (hb : am_ob h b ci) (hcl : ∃ q, vwCl[ci]? = some q ∧ q.1 = y2.1.cls) (h8 : am_cat8 st ≤ 8) (hd : decode y.2.1 pc = .ok (.invokevirtual idx, 3)) (hout : ∀ x ∈ tableOf y.2.2.2.2, covers x pc = false) (hX : ∀ (k : Nat) (h1 : AH), X k h1 → Q (.inr k) h1) (kk : ∀ (z : Int) (h1 : AH), P z h1 → AQ w y d (pc + 3) lv (vl z :: st) h1 Q) : AQ w y d pc lv stk h Q := by
  obtain ⟨nn9, f9, g9, hb⟩ := hb
  obtain ⟨r1, h1, hM, ⟨z, rfl, hp⟩ | ⟨k, rfl, hp⟩⟩ := hE
  · obtain ⟨r, h', k1, k2⟩ := kk z h1 hp
    exact ⟨r, h', AW.callV hM (r := r) k1 hlk hdd hst hn hb hcl h8 hd, k2⟩
  · exact ⟨.inr k, h1, AW.callV hM (r := .inr k) (h' := h1) (AX.out hout) hlk hdd hst hn hb hcl h8 hd, hX k h1 hp⟩
theorem AQ.callVr {P : Nat → AH → Prop} {ci : Nat} (hE : AE w y2 d2 (vr b :: av) h (am_ref P)) (hlk : am_lkV y.1.cls idx y2 n) (hdd : d2 + 1 ≤ d) (hst : stk = av.reverse ++ vr b :: st) (hn : av.length = n) (hb : am_ob h b ci) (hcl : ∃ q, vwCl[ci]? = some q ∧ q.1 = y2.1.cls) (h8 : am_cat8 st ≤ 8) (hd : decode y.2.1 pc = .ok (.invokevirtual idx, 3)) (kk : ∀ (z : Nat) (h1 : AH), P z h1 → AQ w y d (pc + 3) lv (vr z :: st) h1 Q) : AQ w y d pc lv stk h Q := by
  obtain ⟨r1, h1, hM, z, rfl, hp⟩ := hE
  obtain ⟨nn9, f9, g9, hb⟩ := hb
  obtain ⟨r, h', k1, k2⟩ := kk z h1 hp
  exact ⟨r, h', AW.callV hM (r := r) k1 hlk hdd hst hn hb hcl h8 hd, k2⟩
theorem AQ.callxVr {P : Nat → AH → Prop} {X : Nat → AH → Prop} {ci : Nat} (hE : AE w y2 d2 (vr b :: av) h (am_or (am_ref P) X)) (hlk : am_lkV y.1.cls idx y2 n) (hdd : d2 + 1 ≤ d) (hst : stk = av.reverse ++ vr b :: st) (hn : av.length = n) (hb : am_ob h b ci) (hcl : ∃ q, vwCl[ci]? = some q ∧ q.1 = y2.1.cls) (h8 : am_cat8 st ≤ 8) (hd : decode y.2.1 pc = .ok (.invokevirtual idx, 3)) (hout : ∀ x ∈ tableOf y.2.2.2.2, covers x pc = false) (hX : ∀ (k : Nat) (h1 : AH), X k h1 → Q (.inr k) h1) (kk : ∀ (z : Nat) (h1 : AH), P z h1 → AQ w y d (pc + 3) lv (vr z :: st) h1 Q) : AQ w y d pc lv stk h Q := by
  obtain ⟨nn9, f9, g9, hb⟩ := hb
  obtain ⟨r1, h1, hM, ⟨z, rfl, hp⟩ | ⟨k, rfl, hp⟩⟩ := hE
  · obtain ⟨r, h', k1, k2⟩ := kk z h1 hp
    exact ⟨r, h', AW.callV hM (r := r) k1 hlk hdd hst hn hb hcl h8 hd, k2⟩
  · exact ⟨.inr k, h1, AW.callV hM (r := .inr k) (h' := h1) (AX.out hout) hlk hdd hst hn hb hcl h8 hd, hX k h1 hp⟩
theorem AQ.callVv {P : AH → Prop} {ci : Nat} (hE : AE w y2 d2 (vr b :: av) h (am_unit P)) (hlk : am_lkV y.1.cls idx y2 n) (hdd : d2 + 1 ≤ d) (hst : stk = av.reverse ++ vr b :: st) (hn : av.length = n) (hb : am_ob h b ci) (hcl : ∃ q, vwCl[ci]? = some q ∧ q.1 = y2.1.cls) (h8 : am_cat8 st ≤ 8) (hd : decode y.2.1 pc = .ok (.invokevirtual idx, 3)) (kk : ∀ (h1 : AH), P h1 → AQ w y d (pc + 3) lv (st) h1 Q) : AQ w y d pc lv stk h Q := by
  obtain ⟨r1, h1, hM, rfl, hp⟩ := hE
  obtain ⟨nn9, f9, g9, hb⟩ := hb
  obtain ⟨r, h', k1, k2⟩ := kk h1 hp
  exact ⟨r, h', AW.callV hM (r := r) k1 hlk hdd hst hn hb hcl h8 hd, k2⟩
theorem AQ.callxVv {P : AH → Prop} {X : Nat → AH → Prop} {ci : Nat} (hE : AE w y2 d2 (vr b :: av) h (am_or (am_unit P) X)) (hlk : am_lkV y.1.cls idx y2 n) (hdd : d2 + 1 ≤ d) (hst : stk = av.reverse ++ vr b :: st) (hn : av.length = n) (hb : am_ob h b ci) (hcl : ∃ q, vwCl[ci]? = some q ∧ q.1 = y2.1.cls) (h8 : am_cat8 st ≤ 8) (hd : decode y.2.1 pc = .ok (.invokevirtual idx, 3)) (hout : ∀ x ∈ tableOf y.2.2.2.2, covers x pc = false) (hX : ∀ (k : Nat) (h1 : AH), X k h1 → Q (.inr k) h1) (kk : ∀ (h1 : AH), P h1 → AQ w y d (pc + 3) lv (st) h1 Q) : AQ w y d pc lv stk h Q := by
  obtain ⟨nn9, f9, g9, hb⟩ := hb
  obtain ⟨r1, h1, hM, ⟨rfl, hp⟩ | ⟨k, rfl, hp⟩⟩ := hE
  · obtain ⟨r, h', k1, k2⟩ := kk h1 hp
    exact ⟨r, h', AW.callV hM (r := r) k1 hlk hdd hst hn hb hcl h8 hd, k2⟩
  · exact ⟨.inr k, h1, AW.callV hM (r := .inr k) (h' := h1) (AX.out hout) hlk hdd hst hn hb hcl h8 hd, hX k h1 hp⟩
theorem AQ.callSi {P : Int → AH → Prop}  (hE : AE w y2 d2 av h (am_int P)) (hlk : am_lkS y.1.cls idx y2 n) (hdd : d2 + 1 ≤ d) (hst : stk = av.reverse ++ st) (hn : av.length = n) (h8 : am_cat8 st ≤ 8) (hd : decode y.2.1 pc = .ok (.invokestatic idx, 3)) (kk : ∀ (z : Int) (h1 : AH), P z h1 → AQ w y d (pc + 3) lv (vi z :: st) h1 Q) : AQ w y d pc lv stk h Q := by
  obtain ⟨r1, h1, hM, z, rfl, hp⟩ := hE
  obtain ⟨r, h', k1, k2⟩ := kk z h1 hp
  exact ⟨r, h', AW.callS hM (r := r) k1 hlk hdd hst hn h8 hd, k2⟩
theorem AQ.callxSi {P : Int → AH → Prop} {X : Nat → AH → Prop}  (hE : AE w y2 d2 av h (am_or (am_int P) X)) (hlk : am_lkS y.1.cls idx y2 n) (hdd : d2 + 1 ≤ d) (hst : stk = av.reverse ++ st) (hn : av.length = n) (h8 : am_cat8 st ≤ 8) (hd : decode y.2.1 pc = .ok (.invokestatic idx, 3)) (hout : ∀ x ∈ tableOf y.2.2.2.2, covers x pc = false) (hX : ∀ (k : Nat) (h1 : AH), X k h1 → Q (.inr k) h1) (kk : ∀ (z : Int) (h1 : AH), P z h1 → AQ w y d (pc + 3) lv (vi z :: st) h1 Q) : AQ w y d pc lv stk h Q := by
  obtain ⟨r1, h1, hM, ⟨z, rfl, hp⟩ | ⟨k, rfl, hp⟩⟩ := hE
  · obtain ⟨r, h', k1, k2⟩ := kk z h1 hp
    exact ⟨r, h', AW.callS hM (r := r) k1 hlk hdd hst hn h8 hd, k2⟩
  · exact ⟨.inr k, h1, AW.callS hM (r := .inr k) (h' := h1) (AX.out hout) hlk hdd hst hn h8 hd, hX k h1 hp⟩
theorem AQ.callSl {P : Int → AH → Prop}  (hE : AE w y2 d2 av h (am_lng P)) (hlk : am_lkS y.1.cls idx y2 n) (hdd : d2 + 1 ≤ d) (hst : stk = av.reverse ++ st) (hn : av.length = n) (h8 : am_cat8 st ≤ 8) (hd : decode y.2.1 pc = .ok (.invokestatic idx, 3)) (kk : ∀ (z : Int) (h1 : AH), P z h1 → AQ w y d (pc + 3) lv (vl z :: st) h1 Q) : AQ w y d pc lv stk h Q := by
  obtain ⟨r1, h1, hM, z, rfl, hp⟩ := hE
  obtain ⟨r, h', k1, k2⟩ := kk z h1 hp
  exact ⟨r, h', AW.callS hM (r := r) k1 hlk hdd hst hn h8 hd, k2⟩
theorem AQ.callxSl {P : Int → AH → Prop} {X : Nat → AH → Prop}  (hE : AE w y2 d2 av h (am_or (am_lng P) X)) (hlk : am_lkS y.1.cls idx y2 n) (hdd : d2 + 1 ≤ d) (hst : stk = av.reverse ++ st) (hn : av.length = n) (h8 : am_cat8 st ≤ 8) (hd : decode y.2.1 pc = .ok (.invokestatic idx, 3)) (hout : ∀ x ∈ tableOf y.2.2.2.2, covers x pc = false) (hX : ∀ (k : Nat) (h1 : AH), X k h1 → Q (.inr k) h1) (kk : ∀ (z : Int) (h1 : AH), P z h1 → AQ w y d (pc + 3) lv (vl z :: st) h1 Q) : AQ w y d pc lv stk h Q := by
  obtain ⟨r1, h1, hM, ⟨z, rfl, hp⟩ | ⟨k, rfl, hp⟩⟩ := hE
  · obtain ⟨r, h', k1, k2⟩ := kk z h1 hp
    exact ⟨r, h', AW.callS hM (r := r) k1 hlk hdd hst hn h8 hd, k2⟩
  · exact ⟨.inr k, h1, AW.callS hM (r := .inr k) (h' := h1) (AX.out hout) hlk hdd hst hn h8 hd, hX k h1 hp⟩
theorem AQ.callSr {P : Nat → AH → Prop}  (hE : AE w y2 d2 av h (am_ref P)) (hlk : am_lkS y.1.cls idx y2 n) (hdd : d2 + 1 ≤ d) (hst : stk = av.reverse ++ st) (hn : av.length = n) (h8 : am_cat8 st ≤ 8) (hd : decode y.2.1 pc = .ok (.invokestatic idx, 3)) (kk : ∀ (z : Nat) (h1 : AH), P z h1 → AQ w y d (pc + 3) lv (vr z :: st) h1 Q) : AQ w y d pc lv stk h Q := by
  obtain ⟨r1, h1, hM, z, rfl, hp⟩ := hE
  obtain ⟨r, h', k1, k2⟩ := kk z h1 hp
  exact ⟨r, h', AW.callS hM (r := r) k1 hlk hdd hst hn h8 hd, k2⟩
theorem AQ.callxSr {P : Nat → AH → Prop} {X : Nat → AH → Prop}  (hE : AE w y2 d2 av h (am_or (am_ref P) X)) (hlk : am_lkS y.1.cls idx y2 n) (hdd : d2 + 1 ≤ d) (hst : stk = av.reverse ++ st) (hn : av.length = n) (h8 : am_cat8 st ≤ 8) (hd : decode y.2.1 pc = .ok (.invokestatic idx, 3)) (hout : ∀ x ∈ tableOf y.2.2.2.2, covers x pc = false) (hX : ∀ (k : Nat) (h1 : AH), X k h1 → Q (.inr k) h1) (kk : ∀ (z : Nat) (h1 : AH), P z h1 → AQ w y d (pc + 3) lv (vr z :: st) h1 Q) : AQ w y d pc lv stk h Q := by
  obtain ⟨r1, h1, hM, ⟨z, rfl, hp⟩ | ⟨k, rfl, hp⟩⟩ := hE
  · obtain ⟨r, h', k1, k2⟩ := kk z h1 hp
    exact ⟨r, h', AW.callS hM (r := r) k1 hlk hdd hst hn h8 hd, k2⟩
  · exact ⟨.inr k, h1, AW.callS hM (r := .inr k) (h' := h1) (AX.out hout) hlk hdd hst hn h8 hd, hX k h1 hp⟩
theorem AQ.callSv {P : AH → Prop}  (hE : AE w y2 d2 av h (am_unit P)) (hlk : am_lkS y.1.cls idx y2 n) (hdd : d2 + 1 ≤ d) (hst : stk = av.reverse ++ st) (hn : av.length = n) (h8 : am_cat8 st ≤ 8) (hd : decode y.2.1 pc = .ok (.invokestatic idx, 3)) (kk : ∀ (h1 : AH), P h1 → AQ w y d (pc + 3) lv (st) h1 Q) : AQ w y d pc lv stk h Q := by
  obtain ⟨r1, h1, hM, rfl, hp⟩ := hE
  obtain ⟨r, h', k1, k2⟩ := kk h1 hp
  exact ⟨r, h', AW.callS hM (r := r) k1 hlk hdd hst hn h8 hd, k2⟩
theorem AQ.callxSv {P : AH → Prop} {X : Nat → AH → Prop}  (hE : AE w y2 d2 av h (am_or (am_unit P) X)) (hlk : am_lkS y.1.cls idx y2 n) (hdd : d2 + 1 ≤ d) (hst : stk = av.reverse ++ st) (hn : av.length = n) (h8 : am_cat8 st ≤ 8) (hd : decode y.2.1 pc = .ok (.invokestatic idx, 3)) (hout : ∀ x ∈ tableOf y.2.2.2.2, covers x pc = false) (hX : ∀ (k : Nat) (h1 : AH), X k h1 → Q (.inr k) h1) (kk : ∀ (h1 : AH), P h1 → AQ w y d (pc + 3) lv (st) h1 Q) : AQ w y d pc lv stk h Q := by
  obtain ⟨r1, h1, hM, ⟨rfl, hp⟩ | ⟨k, rfl, hp⟩⟩ := hE
  · obtain ⟨r, h', k1, k2⟩ := kk h1 hp
    exact ⟨r, h', AW.callS hM (r := r) k1 hlk hdd hst hn h8 hd, k2⟩
  · exact ⟨.inr k, h1, AW.callS hM (r := .inr k) (h' := h1) (AX.out hout) hlk hdd hst hn h8 hd, hX k h1 hp⟩
theorem AQ.callIv {P : AH → Prop}  (hE : AE w y2 d2 (vr b :: av) h (am_unit P)) (hlk : am_lkI y.1.cls idx y2 n) (hdd : d2 + 1 ≤ d) (hst : stk = av.reverse ++ vr b :: st) (hn : av.length = n) (h8 : am_cat8 st ≤ 8) (hd : decode y.2.1 pc = .ok (.invokespecial idx, 3)) (kk : ∀ (h1 : AH), P h1 → AQ w y d (pc + 3) lv (st) h1 Q) : AQ w y d pc lv stk h Q := by
  obtain ⟨r1, h1, hM, rfl, hp⟩ := hE
  obtain ⟨r, h', k1, k2⟩ := kk h1 hp
  exact ⟨r, h', AW.callI hM (r := r) k1 hlk hdd hst hn h8 hd, k2⟩
theorem AQ.callxIv {P : AH → Prop} {X : Nat → AH → Prop}  (hE : AE w y2 d2 (vr b :: av) h (am_or (am_unit P) X)) (hlk : am_lkI y.1.cls idx y2 n) (hdd : d2 + 1 ≤ d) (hst : stk = av.reverse ++ vr b :: st) (hn : av.length = n) (h8 : am_cat8 st ≤ 8) (hd : decode y.2.1 pc = .ok (.invokespecial idx, 3)) (hout : ∀ x ∈ tableOf y.2.2.2.2, covers x pc = false) (hX : ∀ (k : Nat) (h1 : AH), X k h1 → Q (.inr k) h1) (kk : ∀ (h1 : AH), P h1 → AQ w y d (pc + 3) lv (st) h1 Q) : AQ w y d pc lv stk h Q := by
  obtain ⟨r1, h1, hM, ⟨rfl, hp⟩ | ⟨k, rfl, hp⟩⟩ := hE
  · obtain ⟨r, h', k1, k2⟩ := kk h1 hp
    exact ⟨r, h', AW.callI hM (r := r) k1 hlk hdd hst hn h8 hd, k2⟩
  · exact ⟨.inr k, h1, AW.callI hM (r := .inr k) (h' := h1) (AX.out hout) hlk hdd hst hn h8 hd, hX k h1 hp⟩
theorem AS.objInit (hd : decode y.2.1 pc = .ok (.invokespecial idx, 3)) (h1 : Cond.methodLink y.1.cls idx objectInit ∈ GW) (h2 : Cond.instanceMethod objectInit ∈ GW) (h3 : Cond.code objectInit ⟨#[0xb1]⟩ 1 none ∈ GW) (hd1 : 1 ≤ d) (h8 : am_cat8 st ≤ 8) : AS w y d pc lv (vr b :: st) h (pc + 3) lv st h :=
  AS.lift fun p l e R s m args below meth c H locs cells slots Q ls hC hKS hKH hR hl hcl hsl hv kk => by
    have h5 := hC.2.2.2.2.2.2.2.2.1
    have h6 := hC.2.2.2.2.2.2.2.2.2.1
    have e9 : ((st.map cv).map fun v => v.category).sum = am_cat8 st := am_cat_ok st
    exact W.objInit hC.1 hC.2.1 hC.2.2.2.1 (hC.2.2.2.2.1 _ h1) (hC.2.2.2.2.1 _ h2) (hC.2.2.2.2.1 _ h3) rfl (hv.1.trans hC.2.2.1.symm) rfl hd (by omega) (by show 2 * 0 + ((st.map cv).map fun v => v.category).sum + 12 ≤ R.locals; omega) (kk ls hv)
theorem AS.mmax {a2 b2 : Int} (hd : decode y.2.1 pc = .ok (.invokestatic idx, 3)) (ha : am_r a2) (hb : am_r b2) (h1 : Cond.methodLink y.1.cls idx Lib.Math.max.name ∈ GW) (h2 : Cond.static Lib.Math.max.name ∈ GW) (h3 : Cond.initialized "java/lang/Math" ∈ GW) (h4 : Cond.code Lib.Math.max.name Lib.Math.max.code 2 (some .int) ∈ GW) (hd1 : 1 ≤ d) (h8 : am_cat8 st ≤ 8) : AS w y d pc lv (vi b2 :: vi a2 :: st) h (pc + 3) lv (vi (if a2 < b2 then b2 else a2) :: st) h :=
  AS.lift fun p l e R s m args below meth c H locs cells slots Q ls hC hKS hKH hR hl hcl hsl hv kk => by
    have h5 := hC.2.2.2.2.2.2.2.2.1
    have h6 := hC.2.2.2.2.2.2.2.2.2.1
    have e9 : ((st.map cv).map fun v => v.category).sum = am_cat8 st := am_cat_ok st
    refine va_mmax hC.1 hC.2.1 (hC.2.2.1.trans hv.1.symm) hC.2.2.2.1 (hC.2.2.2.2.1 _ h1) (hC.2.2.2.2.1 _ h2) (hC.2.2.2.2.1 _ h3) (hC.2.2.2.2.1 _ h4) (by omega) (by omega) hcl hsl hd ?_
    have := kk ls hv
    simp only [am_lt ha hb]
    by_cases hc : a2 < b2
    · rw [if_pos hc] at this ⊢; exact this
    · rw [if_neg hc] at this ⊢; exact this
theorem AS.mmin {a2 b2 : Int} (hd : decode y.2.1 pc = .ok (.invokestatic idx, 3)) (ha : am_r a2) (hb : am_r b2) (h1 : Cond.methodLink y.1.cls idx Lib.Math.min.name ∈ GW) (h2 : Cond.static Lib.Math.min.name ∈ GW) (h3 : Cond.initialized "java/lang/Math" ∈ GW) (h4 : Cond.code Lib.Math.min.name Lib.Math.min.code 2 (some .int) ∈ GW) (hd1 : 1 ≤ d) (h8 : am_cat8 st ≤ 8) : AS w y d pc lv (vi b2 :: vi a2 :: st) h (pc + 3) lv (vi (if b2 < a2 then b2 else a2) :: st) h :=
  AS.lift fun p l e R s m args below meth c H locs cells slots Q ls hC hKS hKH hR hl hcl hsl hv kk => by
    have h5 := hC.2.2.2.2.2.2.2.2.1
    have h6 := hC.2.2.2.2.2.2.2.2.2.1
    have e9 : ((st.map cv).map fun v => v.category).sum = am_cat8 st := am_cat_ok st
    refine va_mmin hC.1 hC.2.1 (hC.2.2.1.trans hv.1.symm) hC.2.2.2.1 (hC.2.2.2.2.1 _ h1) (hC.2.2.2.2.1 _ h2) (hC.2.2.2.2.1 _ h3) (hC.2.2.2.2.1 _ h4) (by omega) (by omega) hcl hsl hd ?_
    have := kk ls hv
    simp only [am_lt hb ha]
    by_cases hc : b2 < a2
    · rw [if_pos hc] at this ⊢; exact this
    · rw [if_neg hc] at this ⊢; exact this
theorem AS.mmaxL {a2 b2 : Int} (hd : decode y.2.1 pc = .ok (.invokestatic idx, 3)) (ha : am_rl a2) (hb : am_rl b2) (h1 : Cond.methodLink y.1.cls idx Lib.MathLoose.max_long.x ∈ GW) (h2 : Cond.static Lib.MathLoose.max_long.x ∈ GW) (h3 : Cond.initialized "java/lang/Math" ∈ GW) (h4 : Cond.code Lib.MathLoose.max_long.x Lib.MathLoose.max_long.code 4 (some .long) ∈ GW) (hd1 : 1 ≤ d) (h8 : am_cat8 st ≤ 8) : AS w y d pc lv (vl b2 :: vl a2 :: st) h (pc + 3) lv (vl (if b2 < a2 then a2 else b2) :: st) h :=
  AS.lift fun p l e R s m args below meth c H locs cells slots Q ls hC hKS hKH hR hl hcl hsl hv kk => by
    have h5 := hC.2.2.2.2.2.2.2.2.1
    have h6 := hC.2.2.2.2.2.2.2.2.2.1
    have e9 : ((st.map cv).map fun v => v.category).sum = am_cat8 st := am_cat_ok st
    refine va_mmax_long hC.1 hC.2.1 (hC.2.2.1.trans hv.1.symm) hC.2.2.2.1 (hC.2.2.2.2.1 _ h1) (hC.2.2.2.2.1 _ h2) (hC.2.2.2.2.1 _ h3) (hC.2.2.2.2.1 _ h4) (by omega) (by omega) hcl hsl hd ?_
    have := kk ls hv
    simp only [am_ltL hb ha]
    by_cases hc : b2 < a2
    · rw [if_pos hc] at this ⊢; exact this
    · rw [if_neg hc] at this ⊢; exact this
theorem AS.mminL {a2 b2 : Int} (hd : decode y.2.1 pc = .ok (.invokestatic idx, 3)) (ha : am_rl a2) (hb : am_rl b2) (h1 : Cond.methodLink y.1.cls idx Lib.MathLoose.min_long.x ∈ GW) (h2 : Cond.static Lib.MathLoose.min_long.x ∈ GW) (h3 : Cond.initialized "java/lang/Math" ∈ GW) (h4 : Cond.code Lib.MathLoose.min_long.x Lib.MathLoose.min_long.code 4 (some .long) ∈ GW) (hd1 : 1 ≤ d) (h8 : am_cat8 st ≤ 8) : AS w y d pc lv (vl b2 :: vl a2 :: st) h (pc + 3) lv (vl (if b2 < a2 then b2 else a2) :: st) h :=
  AS.lift fun p l e R s m args below meth c H locs cells slots Q ls hC hKS hKH hR hl hcl hsl hv kk => by
    have h5 := hC.2.2.2.2.2.2.2.2.1
    have h6 := hC.2.2.2.2.2.2.2.2.2.1
    have e9 : ((st.map cv).map fun v => v.category).sum = am_cat8 st := am_cat_ok st
    refine va_mmin_long hC.1 hC.2.1 (hC.2.2.1.trans hv.1.symm) hC.2.2.2.1 (hC.2.2.2.2.1 _ h1) (hC.2.2.2.2.1 _ h2) (hC.2.2.2.2.1 _ h3) (hC.2.2.2.2.1 _ h4) (by omega) (by omega) hcl hsl hd ?_
    have := kk ls hv
    simp only [am_ltL hb ha]
    by_cases hc : b2 < a2
    · rw [if_pos hc] at this ⊢; exact this
    · rw [if_neg hc] at this ⊢; exact this
theorem AS.mabs {a2 : Int} (hd : decode y.2.1 pc = .ok (.invokestatic idx, 3)) (ha : am_r a2) (h1 : Cond.methodLink y.1.cls idx Lib.Math.abs.name ∈ GW) (h2 : Cond.static Lib.Math.abs.name ∈ GW) (h3 : Cond.initialized "java/lang/Math" ∈ GW) (h4 : Cond.code Lib.Math.abs.name Lib.Math.abs.code 1 (some .int) ∈ GW) (hd1 : 1 ≤ d) (h8 : am_cat8 st ≤ 8) : AS w y d pc lv (vi a2 :: st) h (pc + 3) lv (vi (if 0 ≤ a2 then a2 else -a2) :: st) h :=
  AS.lift fun p l e R s m args below meth c H locs cells slots Q ls hC hKS hKH hR hl hcl hsl hv kk => by
    have h5 := hC.2.2.2.2.2.2.2.2.1
    have h6 := hC.2.2.2.2.2.2.2.2.2.1
    have e9 : ((st.map cv).map fun v => v.category).sum = am_cat8 st := am_cat_ok st
    refine va_mabs hC.1 hC.2.1 (hC.2.2.1.trans hv.1.symm) hC.2.2.2.1 (hC.2.2.2.2.1 _ h1) (hC.2.2.2.2.1 _ h2) (hC.2.2.2.2.1 _ h3) (hC.2.2.2.2.1 _ h4) (by omega) (by omega) hcl hsl hd ?_
    have := kk ls hv
    rw [show (0 : Int32) = Int32.ofInt 0 from rfl, am_sub, Int.zero_sub]
    by_cases hc : 0 ≤ a2
    · rw [if_pos hc] at this
      rw [if_pos ((am_le am_r0 ha).mpr hc)]; exact this
    · rw [if_neg hc] at this
      rw [if_neg (fun z => hc ((am_le am_r0 ha).mp z))]; exact this
def am_cpy (f g : Int → Int) (sp dp n : Int) : Int → Int := fun j => if dp ≤ j ∧ j < dp + n then f (sp + (j - dp)) else g j
theorem AS.acopy {a1 b1 : Nat} {n0 n1 sp dp k : Int} {f0 f1 : Int → Int} {g0 g1 : Int → Option Nat} (hd : decode y.2.1 pc = .ok (.invokestatic idx, 3)) (ha : h.1 a1 = some (100, n0, f0, g0)) (hb : h.1 b1 = some (100, n1, f1, g1)) (p1 : 0 ≤ sp) (p2 : 0 ≤ dp) (p3 : 0 ≤ k) (p4 : sp + k ≤ n0) (p5 : dp + k ≤ n1) (h1 : Cond.methodLink y.1.cls idx arraycopyName ∈ GW) (h2 : Cond.native arraycopyName ∈ GW) (h3 : Cond.static arraycopyName ∈ GW) (h4 : Cond.initialized "java/lang/System" ∈ GW) (hd1 : 2 ≤ d) (h8 : am_cat8 st ≤ 8) :
    AS w y d pc lv (vi k :: vi dp :: vr b1 :: vi sp :: vr a1 :: st) h (pc + 3) lv st (am_set h b1 (100, n1, am_cpy f0 f1 sp dp k, g1)) :=
  AS.liftH rfl fun p l e R s m args below meth c H locs cells slots Q ls hC hKS hKH hR hl hcl hsl hv kk => by
    have h5 := hC.2.2.2.2.2.2.2.2.1
    have h6 := hC.2.2.2.2.2.2.2.2.2.1
    have e9 : ((st.map cv).map fun v => v.category).sum = am_cat8 st := am_cat_ok st
    obtain ⟨q0, q1, q2, c0, q3, q4, q5⟩ := am_own (by decide) (by decide) (hR.2 a1 _ ha)
    obtain ⟨r0, r1, r2, c1, r3, r4, r5⟩ := am_own (by decide) (by decide) (hR.2 b1 _ hb)
    have rk : am_r k := ⟨by omega, by omega⟩
    have rs : am_r sp := ⟨by omega, by omega⟩
    have rd : am_r dp := ⟨by omega, by omega⟩
    have hn9 : nativeFrameWords "java/lang/System" "arraycopy" 5 ≤ 60 := by decide +kernel
    have ck := am_clamp rk
    have cs := am_clamp rs
    have cd := am_clamp rd
    have ik := am_toInt rk
    have is := am_toInt rs
    have id9 := am_toInt rd
    intro T hT X
    obtain ⟨-, k0, hk0, cm0, hkk0⟩ := q3 n0.toNat (fun j => .int (Int32.ofInt (f0 j)))
    obtain ⟨-, k1, hk1, cm1, hkk1⟩ := r3 n1.toNat (fun j => .int (Int32.ofInt (f1 j)))
    obtain ⟨vm', X', step⟩ := X.arraycopy hC.1 hC.2.2.2.1 (hC.2.2.2.2.1 _ h1) (hC.2.2.2.2.1 _ h2) (hC.2.2.2.2.1 _ h3) (hC.2.2.2.2.1 _ h4) (src := a1) (dst := b1) (cs := arrV c0 n0.toNat (fun j => .int (Int32.ofInt (f0 j)))) (cd := arrV c1 n1.toNat (fun j => .int (Int32.ofInt (f1 j)))) (srcPos := Int32.ofInt sp) (destPos := Int32.ofInt dp) (n := Int32.ofInt k) (by rw [hT]; exact q5) (by rw [hT]; exact r5)
      (fun _ h => by cases h) (fun _ h => by cases h) (fun h => by cases h) (fun h => by cases h) hk0 hk1 hkk0 hkk1 (by decide) (fun z => by have := (am_lt rs am_r0).mp z; omega) (fun z => by have := (am_lt rd am_r0).mp z; omega) (fun z => by have := (am_lt rk am_r0).mp z; omega)
      (by rw [is, ik, arrV_size]; omega) (by rw [id9, ik, arrV_size]; omega)
      (fun vm₁ _ i hi => by
        have e : (arrV c0 n0.toNat (fun j => Value.int (Int32.ofInt (f0 j)))).slots.getD ((Int32.ofInt sp).toNatClampNeg + i) .null = .int (Int32.ofInt (f0 (((Int32.ofInt sp).toNatClampNeg + i : Nat) : Int))) := by
          rw [Array.getD_eq_getD_getElem?, arrV_read _ _ (by omega)]
          rfl
        refine ⟨?_, ?_⟩
        · rw [e]; rfl
        · rw [e]; exact trivial)
      (g := F0 m pc ls (.int (Int32.ofInt k) :: .int (Int32.ofInt dp) :: .ref b1 :: .int (Int32.ofInt sp) :: .ref a1 :: am_st st)) rfl (hv.1.trans hC.2.2.1.symm) (rest := am_st st) rfl (by rw [hC.2.1]; exact hd) (by omega) (by show 2 * 0 + ((st.map cv).map fun v => v.category).sum + _ ≤ _; omega)
    have e1 : copied (arrV c0 n0.toNat (fun j => .int (Int32.ofInt (f0 j)))) (arrV c1 n1.toNat (fun j => .int (Int32.ofInt (f1 j)))) (Int32.ofInt sp) (Int32.ofInt dp) (Int32.ofInt k) = arrV c1 n1.toNat (fun j => am_sv (am_ety 100) (am_cpy f0 f1 sp dp k j) (g1 j)) := by
      refine (va_copied (fun z => .int z) c0 c1 (fun j => Int32.ofInt (f0 j)) (fun j => Int32.ofInt (f1 j)) (sp := (Int32.ofInt sp).toNatClampNeg) (dp := (Int32.ofInt dp).toNatClampNeg) (n := (Int32.ofInt k).toNatClampNeg) (by omega)).trans ?_
      congr 1
      funext j
      show Value.int _ = Value.int _
      congr 1
      unfold va_cpy am_cpy
      rw [ck, cs, cd]
      by_cases hj : dp.toNat ≤ j ∧ j < dp.toNat + k.toNat
      · rw [if_pos hj, if_pos ⟨by omega, by omega⟩]
        obtain ⟨hj1, hj2⟩ := hj
        exact congrArg (fun z => Int32.ofInt (f0 z)) (by omega)
      · rw [if_neg hj, if_neg (by omega)]
    rw [e1] at X' step
    have hl9 : b1 < H.size := (Array.getElem?_eq_some_iff.mp r5).1
    generalize hcc : arrV c1 n1.toNat (fun j => am_sv (am_ety 100) (am_cpy f0 f1 sp dp k j) (g1 j)) = CC at X' step
    have hheap : ((T.setVm vm').setCell b1 CC).heap = H.setIfInBounds b1 CC := by rw [← hT]; rfl
    have oq : ∀ q : Nat, q ≠ b1 → (H.setIfInBounds b1 CC)[q]? = H[q]? := fun q hq => by simp [Array.getElem?_setIfInBounds, Ne.symm hq]
    have ob : (H.setIfInBounds b1 CC)[b1]? = some CC := by simp [Array.getElem?_setIfInBounds, hl9]
    have oz : (H.setIfInBounds b1 CC).size = H.size := by simp
    obtain ⟨t, a9, b9⟩ := kk (H.setIfInBounds b1 CC) _ ls (hKH.one r0 oz oq) (hR.set oz oq (am_ownI (by decide) (by decide) r0 r1 r2 r3 r4 (by rw [ob, ← hcc]))) (fun q hq => by
      rcases List.mem_append.mp hq with h | h
      · exact hl q h
      · obtain ⟨z, -, hz⟩ := List.mem_map.mp h
        rw [← hz]
        exact r0) hv _ hheap X'
    exact ⟨t, step t a9, b9⟩
end ACQ
