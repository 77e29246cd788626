/-! Strings and StringBuilder, as the JDK has them. -/
section JDKR
variable {w : am_w} {y : YR} {d pc idx : Nat} {lv : List (Nat × AV)} {st : List AV} {h : AH} {a : Nat} {Q : RV → AH → Prop}
theorem AS.ishrZ {z : Int} (hd : decode y.2.1 pc = .ok (.ishr, 1)) (hz : am_r z) : AS w y d pc lv (vi 0 :: vi z :: st) h (pc + 1) lv (vi z :: st) h := by
  have := AS.ishr (w := w) (d := d) (lv := lv) (st := st) (h := h) (b := 0) hd hz (by decide) (by decide)
  rw [show ((2 ^ (0 : Int).toNat : Nat) : Int) = 1 from rfl, Int.ediv_one] at this
  exact this
theorem AS.ishlZ {z : Int} (hd : decode y.2.1 pc = .ok (.ishl, 1)) (h0 : 0 ≤ z) (h1 : z < 2147483648) : AS w y d pc lv (vi 0 :: vi z :: st) h (pc + 1) lv (vi z :: st) h := by
  have := AS.ishlS (w := w) (d := d) (lv := lv) (st := st) (h := h) (k := 0) hd (by decide) h0 (by rw [show ((2 ^ 0 : Nat) : Int) = 1 from rfl, Int.mul_one]; exact h1)
  rw [show ((2 ^ 0 : Nat) : Int) = 1 from rfl, Int.mul_one] at this
  exact this
theorem AS.cloneB {n : Int} {f : Int → Int} {g : Int → Option Nat} (hd : decode y.2.1 pc = .ok (.invokevirtual idx, 3)) (hc : h.1 a = some (101, n, f, g)) (hf : ∀ j, 0 ≤ j → j < n → -128 ≤ f j ∧ f j < 128)
    (w1 : Cond.methodLink y.1.cls idx ⟨"[B", "clone", "()Ljava/lang/Object;"⟩ ∈ GW) (w2 : Cond.sameMethod "[B" "java/lang/Object" "clone" "()Ljava/lang/Object;" ∈ GW) (w3 : Cond.native ⟨"java/lang/Object", "clone", "()Ljava/lang/Object;"⟩ ∈ GW) (w4 : Cond.instanceMethod ⟨"java/lang/Object", "clone", "()Ljava/lang/Object;"⟩ ∈ GW) (w5 : Cond.selects "[B" ⟨"[B", "clone", "()Ljava/lang/Object;"⟩ ⟨"java/lang/Object", "clone", "()Ljava/lang/Object;"⟩ ∈ GW) (w6 : Cond.castable "[B" "java/lang/Cloneable" ∈ am_NW) (hd1 : 1 ≤ d) (h8 : am_cat8 st ≤ 8) :
    AS w y d pc lv (vr a :: st) h (pc + 3) lv (vr h.2.1 :: st) (am_new h (101, n, f, g) n.toNat) :=
  AS.liftN rfl rfl fun p l e R s m args below meth c H locs cells slots Q ls hC hKS hKH hR hl hcl hsl hv kk => by
    have h5 := hC.2.2.2.2.2.2.2.2.1
    have h6 := hC.2.2.2.2.2.2.2.2.2.1
    have e9 : ((st.map cv).map fun v => v.category).sum = am_cat8 st := am_cat_ok st
    obtain ⟨r0, r1, r2, cA, r3, r4, r5⟩ := am_own (by decide) (by decide) (hR.2 a _ hc)
    have hnm : s.vm.findClass "[B" = some cA := r4
    obtain ⟨c0, t0', f1, f2, f3⟩ := Cond.castable_spec ((hKS.1 _ w6).use (A := args) rfl)
    cases hnm.symm.trans f1
    generalize hcc : arrV cA n.toNat (fun j => am_sv (am_ety 101) (f j) (g j)) = CC at r5
    have hsz : CC.slots.size = n.toNat := by rw [← hcc]; exact arrV_size _ _ _
    have hvm0 : CC.vm = .none := by rw [← hcc]; rfl
    have hcl0 : CC.cls = cA := by rw [← hcc]; rfl
    have hcellE : ({ cls := CC.cls, slots := CC.slots } : Cell) = CC := by rw [← hcc]; rfl
    have hfit : ∀ (i : Nat) (v : Value), CC.slots[i]? = some v → fits .byte v = true := by
      rw [← hcc]
      exact va_fit fun i hi => (am_fit_ok (ty := .byte) (r := g i) (hf i (by omega) (by omega))).2
    intro T hT X
    have hcellT : T.heap[a]? = some CC := by rw [hT]; exact r5
    obtain ⟨-, kA, hkA, comp, hkind⟩ := State.isArrayOf_alike X.warmed.alike (r3 0 (fun _ => .null))
    obtain ⟨-, kS, hkS, compS, hkindS⟩ := r3 0 (fun _ => .null)
    obtain ⟨vm', X', st9⟩ := X.cloneArray hC.1 hC.2.2.2.1 (hC.2.2.2.2.1 _ w1) (hC.2.2.2.2.1 _ w2) (hC.2.2.2.2.1 _ w3) (hC.2.2.2.2.1 _ w4) (hC.2.2.2.2.1 _ w5) (a := a) (cell := CC) hcellT (fun k h => by rw [hvm0] at h; cases h) (by rw [hvm0]; exact fun h => by cases h) (by rw [hcl0]; exact hnm) f2 (by rw [hcl0]; exact f3)
      (fun i v hv => by
        rw [hcl0]
        have hk' : T.vm.classes[cA]? = some kA := hkA
        simpa [State.fitsSlot, State.slotType?, hk', hkind] using (show fits (am_ety 101) v = true from hfit i v hv))
      (g := F0 m pc ls (.ref a :: am_st st)) rfl (hv.1.trans hC.2.2.1.symm) rfl (by rw [hC.2.1]; exact hd) (by omega) (by
        show 2 * 0 + ((st.map cv).map fun v => v.category).sum + 14 ≤ _
        omega) hcl (by rw [hsz]; exact hsl) (hloader := by rw [hcl0]; exact Vm.clonesLoader_of_array hkS hkindS)
    rw [hcellE, hsz] at X'
    generalize hH1 : H.push CC = H1
    have z1 : H1.size = H.size + 1 := by rw [← hH1, Array.size_push]
    have e1 : H1[H.size]? = some CC := by rw [← hH1, Array.getElem?_push_size]
    have o1 : ∀ q : Nat, q < H.size → H1[q]? = H[q]? := fun q hq => by rw [← hH1, Array.getElem?_push, if_neg (Nat.ne_of_lt hq)]
    have := kk H1 locs ls (hKH.grow (by omega) o1) (hR.new z1 o1 (am_ownI (by decide) (by decide) hKH.1 r1 r2 r3 r4 (by rw [e1, hcc]))) hl hv
    rw [hR.1] at this
    obtain ⟨t, b1, b2⟩ := this ((T.setVm vm').pushCell CC) (by rw [← hH1, ← hT]; rfl) X'
    refine ⟨t, st9 t ?_, b2⟩
    rw [hcellE, hT]
    exact b1
theorem AS.castB {n : Int} {f : Int → Int} {g : Int → Option Nat} (hd : decode y.2.1 pc = .ok (.checkcast idx, 3)) (hc : h.1 a = some (101, n, f, g)) (hw : Cond.classLink y.1.cls idx "[B" ∈ GW) : AS w y d pc lv (vr a :: st) h (pc + 3) lv (vr a :: st) h :=
  AS.lift fun p l e R s m args below meth c H locs cells slots Q ls hC hKS hKH hR hl hcl hsl hv kk => by
    obtain ⟨r0, r1, r2, cA, r3, r4, r5⟩ := am_own (by decide) (by decide) (hR.2 a _ hc)
    have hnm : s.vm.findClass "[B" = some cA := r4
    intro T hT X
    obtain ⟨vm', X', st9⟩ := X.checkcastYes hC.1 hC.2.2.2.1 (hC.2.2.2.2.1 _ hw) (by rw [hT]; exact r5) (by rfl) hnm (va_asg _ _) (g := F0 m pc ls (.ref a :: am_st st)) rfl rfl (by rw [hC.2.1]; exact hd)
    obtain ⟨t, a1, b1⟩ := kk ls hv (T.setVm vm') hT X'
    exact ⟨t, st9 t a1, b1⟩
theorem q_cl {n : Int} {n0 : Nat} {f : Int → Int} {g : Int → Option Nat} (ha : h.2.1 = n0) (hd : decode y.2.1 pc = .ok (.invokevirtual idx, 3)) (hc : h.1 a = some (101, n, f, g)) (hf : ∀ j, 0 ≤ j → j < n → -128 ≤ f j ∧ f j < 128)
    (w1 : Cond.methodLink y.1.cls idx ⟨"[B", "clone", "()Ljava/lang/Object;"⟩ ∈ GW) (w2 : Cond.sameMethod "[B" "java/lang/Object" "clone" "()Ljava/lang/Object;" ∈ GW) (w3 : Cond.native ⟨"java/lang/Object", "clone", "()Ljava/lang/Object;"⟩ ∈ GW) (w4 : Cond.instanceMethod ⟨"java/lang/Object", "clone", "()Ljava/lang/Object;"⟩ ∈ GW) (w5 : Cond.selects "[B" ⟨"[B", "clone", "()Ljava/lang/Object;"⟩ ⟨"java/lang/Object", "clone", "()Ljava/lang/Object;"⟩ ∈ GW) (w6 : Cond.castable "[B" "java/lang/Cloneable" ∈ am_NW) (hd1 : 1 ≤ d) (h8 : am_cat8 st ≤ 8)
    (kk : ∀ h2 : AH, h2.1 n0 = some (101, n, f, g) → (∀ z, z ≠ n0 → h2.1 z = h.1 z) → h2.2 = (n0 + 1, h.2.2 + n.toNat) → AQ w y d (pc + 3) lv (vr n0 :: st) h2 Q) : AQ w y d pc lv (vr a :: st) h Q := by
  subst ha
  exact AQ.of (AS.cloneB hd hc hf w1 w2 w3 w4 w5 w6 hd1 h8) (kk _ (am_new_at h _ _) (fun z hz => am_new_ne _ _ hz) rfl)
theorem q_gb {ci k : Nat} {nn z : Int} {f : Int → Int} {g : Int → Option Nat} (hd : decode y.2.1 pc = .ok (.getfield idx, 3)) (hf : am_fl y.1.cls idx ci k) (hty : am_fty ci k = .byte) (hc : h.1 a = some (ci, nn, f, g)) (he : f k = z) (kk : AQ w y d (pc + 3) lv (vi z :: st) h Q) : AQ w y d pc lv (vr a :: st) h Q := AQ.of (AS.getB hd hf hty hc) (he.symm ▸ kk)
theorem q_pb {ci k : Nat} {nn z : Int} {l l2 : List Int} {g : Int → Option Nat} (hd : decode y.2.1 pc = .ok (.putfield idx, 3)) (hf : am_fl y.1.cls idx ci k) (hfw : am_fw y idx ci k) (hty : am_fty ci k = .byte) (hz : -128 ≤ z ∧ z < 128) (hc : h.1 a = some (ci, nn, am_L l, g)) (hk : k < l.length) (hl : l.set k z = l2) (kk : ∀ h2 : AH, h2 = am_set h a (ci, nn, am_L l2, g) → AQ w y d (pc + 3) lv st h2 Q) : AQ w y d pc lv (vi z :: vr a :: st) h Q := by
  refine AQ.of (AS.putB hd hf hfw hty hz hc) ?_
  rw [am_uI_L hk, hl]
  exact kk _ rfl
theorem q_sv {v : Nat} {n : Int} {f : Int → Int} (hd : decode y.2.1 pc = .ok (.getfield idx, 3)) (hc : h.1 a = some (112, n, f, am_G [some v])) (hw : Cond.fieldLink y.1.cls idx "java/lang/String" "value" "[B" ∈ GW) (kk : AQ w y d (pc + 3) lv (vr v :: st) h Q) : AQ w y d pc lv (vr a :: st) h Q := AQ.of (AS.strVa hd hc hw) kk
theorem q_ab {ca a1 b1 : Nat} {n0 n1 sp dp k : Int} {f0 f1 : Int → Int} {g0 g1 : Int → Option Nat} (hd : decode y.2.1 pc = .ok (.invokestatic idx, 3)) (hca : ca = 101 ∨ ca = 111) (hf : ∀ j, 0 ≤ j → j < n0 → -128 ≤ f0 j ∧ f0 j < 128) (ha : h.1 a1 = some (ca, n0, f0, g0)) (hb : h.1 b1 = some (101, n1, f1, g1)) (p1 : 0 ≤ sp) (p2 : 0 ≤ dp) (p3 : 0 ≤ k) (p4 : sp + k ≤ n0) (p5 : dp + k ≤ n1) (h1 : Cond.methodLink y.1.cls idx arraycopyName ∈ GW) (h2 : Cond.native arraycopyName ∈ GW) (h3 : Cond.static arraycopyName ∈ GW) (h4 : Cond.initialized "java/lang/System" ∈ GW) (hd1 : 2 ≤ d) (h8 : am_cat8 st ≤ 8)
    (kk : ∀ h2 : AH, h2 = am_set h b1 (101, n1, am_cpy f0 f1 sp dp k, g1) → AQ w y d (pc + 3) lv st h2 Q) : AQ w y d pc lv (vi k :: vi dp :: vr b1 :: vi sp :: vr a1 :: st) h Q := AQ.of (AS.acopyB hd hca hf ha hb p1 p2 p3 p4 p5 h1 h2 h3 h4 hd1 h8) (kk _ rfl)
end JDKR
/-- a String with these letters -/
def STR (h : AH) (q : Nat) (v : Nat) (n : Int) (b : Int → Int) : Prop := (q < h.2.1 ∧ v < h.2.1) ∧ (∃ (nn : Int) (f : Int → Int), h.1 q = some (112, nn, f, am_G [some v])) ∧ (∃ ci g, (ci = 101 ∨ ci = 111) ∧ h.1 v = some (ci, n, b, g)) ∧ (0 ≤ n ∧ n ≤ 1000) ∧ ∀ j, 0 ≤ j → j < n → 0 ≤ b j ∧ b j < 128
theorem STR.mv {h h1 : AH} {q v : Nat} {n : Int} {b : Int → Int} (hS : STR h q v n b) (t : h.2.1 ≤ h1.2.1) (e1 : h1.1 q = h.1 q) (e2 : h1.1 v = h.1 v) : STR h1 q v n b := by
  obtain ⟨⟨a1, a2⟩, ⟨nn, f, c⟩, ⟨ci, g, k, c2⟩, r, hb⟩ := hS
  exact ⟨⟨by omega, by omega⟩, ⟨nn, f, e1.trans c⟩, ⟨ci, g, k, e2.trans c2⟩, r, hb⟩
/-- a StringBuilder: its bytes, and how many of them count -/
def SBD (h : AH) (s v : Nat) (cap cnt : Int) (fb : Int → Int) : Prop := (s < h.2.1 ∧ v < h.2.1) ∧ h.1 s = some (13, 4, am_L [0, 0, 0, cnt], am_G [some v, none, none, none]) ∧ h.1 v = some (101, cap, fb, am_N) ∧ (0 ≤ cnt ∧ cnt ≤ cap ∧ cap ≤ 3000) ∧ ∀ j, 0 ≤ j → j < cap → 0 ≤ fb j ∧ fb j < 128
theorem am_ok_b1 {h : AH} : ∀ v h', am_intp h (fun z => z = 0) (.inl v) h' → am_okr (some .byte) v := am_ok_b0
/-- the static tables of digits -/
def DIG (h : AH) (b : Nat) : Prop := b < h.2.1 ∧ ∃ a o t, ∃ (nn : Int) (ff f1 f2 : Int → Int) (g1 g2 : Int → Option Nat), (a < b ∧ o < b ∧ t < b) ∧ h.1 a = some (120, nn, ff, am_G [some o, some t]) ∧ h.1 o = some (111, 100, f1, g1) ∧ h.1 t = some (111, 100, f2, g2) ∧ (∀ j, 0 ≤ j → j < 100 → f1 j = 48 + j % 10) ∧ ∀ j, 0 ≤ j → j < 100 → f2 j = 48 + j / 10
/-- how many digits; which -/
def gm_dz (n : Int) : Int := if n < 10 then 1 else if n < 100 then 2 else if n < 1000 then 3 else 4
def gm_dgt (n j : Int) : Int := 48 + (if j = 0 then n % 10 else if j = 1 then n / 10 % 10 else if j = 2 then n / 100 % 10 else n / 1000 % 10)

set_option maxRecDepth 4000 in
set_option maxHeartbeats 1000000 in
theorem c_J0_coder {w : am_w} {h : AH} {q v : Nat} {n : Int} {b : Int → Int} (hS : STR h q v n b)  : AE w m_J0_coder_7d493 1 [vr q] h (am_intp h (fun z => z = 0)) := by
  refine AE.of wf_J0_coder_7d493 (Nat.le_of_ble_eq_true rfl) (am_ok_b0) ?_
  obtain ⟨⟨bq, bv⟩, ⟨nn, ff, c0⟩, ⟨ci, gv, hci, c1⟩, hn, hb⟩ := id hS
  refine AQ.of (AS.getCS (am_gw 753 (by decide +kernel) (by decide +kernel)) eJ0_coder_7d493_0) ?_
  refine AQ.of (AS.if_eq_f eJ0_coder_7d493_3 ⟨by decide, by decide⟩ (by decide) (by decide)) ?_
  refine q_blk (lv2 := [(0, vr q)]) (st2 := [vr q]) kJ0_coder_7d493_6 rfl ?_
  refine AQ.of (AS.strCo eJ0_coder_7d493_7 c0 (am_gw 1484 (by decide +kernel) (by decide +kernel))) ?_
  refine q_goto (tgt := 14) eJ0_coder_7d493_10 (by decide) ?_
  exact q_rb rfl eJ0_coder_7d493_14 ⟨0, rfl, rfl, rfl⟩

set_option maxRecDepth 4000 in
set_option maxHeartbeats 1000000 in
theorem c_J0_length {w : am_w} {h : AH} {q v : Nat} {n : Int} {b : Int → Int} (hS : STR h q v n b)  : AE w m_J0_length_8abf5 2 [vr q] h (am_intp h (fun z => z = n)) := by
  refine AE.of wf_J0_length_8abf5 (Nat.le_of_ble_eq_true rfl) (am_ok_ip) ?_
  obtain ⟨⟨bq, bv⟩, ⟨nn, ff, c0⟩, ⟨ci, gv, hci, c1⟩, hn, hb⟩ := id hS
  refine q_blk (lv2 := [(0, vr q)]) (st2 := [vr q]) kJ0_length_8abf5_0 rfl ?_
  refine q_sv eJ0_length_8abf5_1 c0 (am_gw 1483 (by decide +kernel) (by decide +kernel)) ?_
  refine q_al eJ0_length_8abf5_4 c1 (by omega) ?_
  refine q_blk (lv2 := [(0, vr q)]) (st2 := [vr q, vi n]) kJ0_length_8abf5_5 rfl ?_
  refine AQ.callYi (av := []) (st := [vi n]) (c_J0_coder hS) lk_RJ0_335 (by decide) rfl rfl c0 rfl (Nat.le_of_ble_eq_true rfl) eJ0_length_8abf5_6 (fun z1 h3 e2 => ?_)
  obtain ⟨e2, rfl⟩ := e2
  obtain rfl := e2.symm
  refine AQ.of (AS.ishrZ eJ0_length_8abf5_9 (by first | assumption | exact ⟨by omega, by omega⟩ | exact ⟨by decide, by decide⟩)) ?_
  exact q_ri rfl eJ0_length_8abf5_10 ⟨n, rfl, rfl, rfl⟩

set_option maxRecDepth 4000 in
set_option maxHeartbeats 1000000 in
theorem c_J0_isLatin1 {w : am_w} {h : AH} {q v : Nat} {n : Int} {b : Int → Int} (hS : STR h q v n b)  : AE w m_J0_isLatin1_aae02 1 [vr q] h (am_intp h (fun z => am_b z True)) := by
  refine AE.of wf_J0_isLatin1_aae02 (Nat.le_of_ble_eq_true rfl) (am_ok_zp (fun z q => am_bz q)) ?_
  obtain ⟨⟨bq, bv⟩, ⟨nn, ff, c0⟩, ⟨ci, gv, hci, c1⟩, hn, hb⟩ := id hS
  refine AQ.of (AS.getCS (am_gw 753 (by decide +kernel) (by decide +kernel)) eJ0_isLatin1_aae02_0) ?_
  refine AQ.of (AS.if_eq_f eJ0_isLatin1_aae02_3 ⟨by decide, by decide⟩ (by decide) (by decide)) ?_
  refine q_blk (lv2 := [(0, vr q)]) (st2 := [vr q]) kJ0_isLatin1_aae02_6 rfl ?_
  refine AQ.of (AS.strCo eJ0_isLatin1_aae02_7 c0 (am_gw 1484 (by decide +kernel) (by decide +kernel))) ?_
  refine AQ.of (AS.if_ne_f eJ0_isLatin1_aae02_10 ⟨by decide, by decide⟩ (by decide) (by decide)) ?_
  refine q_blk (lv2 := [(0, vr q)]) (st2 := [vi 1]) kJ0_isLatin1_aae02_13 rfl ?_
  refine q_goto (tgt := 18) eJ0_isLatin1_aae02_14 (by decide) ?_
  exact q_rz rfl eJ0_isLatin1_aae02_18 (by decide) ⟨1, rfl, Or.inl ⟨rfl, trivial⟩, rfl⟩

set_option maxRecDepth 4000 in
set_option maxHeartbeats 1000000 in
theorem c_J3_checkIndex {w : am_w} {h : AH} {i n : Int} {r : Option Nat} (i0 : 0 ≤ i ∧ i < n ∧ n < 2147483648)  : AE w m_J3_checkIndex_8e157 1 [vi i, vi n, vn r] h (am_intp h (fun z => z = i)) := by
  refine AE.of wf_J3_checkIndex_8e157 (by cases r <;> exact Nat.le_of_ble_eq_true rfl) (am_ok_ip) ?_
  refine q_blk (lv2 := [(0, vi i), (1, vi n), (2, vn r)]) (st2 := [vi i]) kJ3_checkIndex_8e157_0 rfl ?_
  refine AQ.of (AS.if_lt_f eJ3_checkIndex_8e157_1 (by first | assumption | exact ⟨by omega, by omega⟩ | exact ⟨by decide, by decide⟩) (by omega) (by decide)) ?_
  refine q_blk (lv2 := [(0, vi i), (1, vi n), (2, vn r)]) (st2 := [vi n, vi i]) kJ3_checkIndex_8e157_4 rfl ?_
  refine AQ.of (AS.ic_lt_t (tgt := 16) eJ3_checkIndex_8e157_6 (by decide) (by first | assumption | exact ⟨by omega, by omega⟩ | exact ⟨by decide, by decide⟩) (by first | assumption | exact ⟨by omega, by omega⟩ | exact ⟨by decide, by decide⟩) (by omega)) ?_
  refine q_blk (lv2 := [(0, vi i), (1, vi n), (2, vn r)]) (st2 := [vi i]) kJ3_checkIndex_8e157_16 rfl ?_
  exact q_ri rfl eJ3_checkIndex_8e157_17 ⟨i, rfl, rfl, rfl⟩

set_option maxRecDepth 4000 in
set_option maxHeartbeats 1000000 in
theorem c_J0_checkIndex {w : am_w} {h : AH} {i n : Int} (i0 : 0 ≤ i ∧ i < n ∧ n < 2147483648)  : AE w m_J0_checkIndex_df160 2 [vi i, vi n] h (am_unit (fun h1 => h = h1)) := by
  refine AE.of wf_J0_checkIndex_df160 (Nat.le_of_ble_eq_true rfl) (am_ok_v) ?_
  refine q_blk (lv2 := [(0, vi i), (1, vi n)]) (st2 := [vi n, vi i]) kJ0_checkIndex_df160_0 rfl ?_
  refine AQ.of (AS.getSF (am_gw 769 (by decide +kernel) (by decide +kernel)) eJ0_checkIndex_df160_2) ?_
  refine AQ.callSi (av := [vi i, vi n, vn (am_fmt w)]) (st := []) (c_J3_checkIndex i0) lk_RJ0_1059 (by decide) rfl rfl (Nat.le_of_ble_eq_true rfl) eJ0_checkIndex_df160_5 (fun z1 h3 e2 => ?_)
  obtain ⟨e2, rfl⟩ := e2
  obtain rfl := e2.symm
  refine q_blk (lv2 := [(0, vi i), (1, vi n)]) (st2 := []) kJ0_checkIndex_df160_8 rfl ?_
  exact q_rv rfl eJ0_checkIndex_df160_9 ⟨rfl, rfl⟩

set_option maxRecDepth 4000 in
set_option maxHeartbeats 1000000 in
theorem c_J1_charAt {w : am_w} {h : AH} {v ci : Nat} {n j : Int} {b : Int → Int} {gv : Int → Option Nat} (hci : ci = 101 ∨ ci = 111) (c1 : h.1 v = some (ci, n, b, gv)) (hb : ∀ j, 0 ≤ j → j < n → 0 ≤ b j ∧ b j < 128) (hn : 0 ≤ n ∧ n ≤ 1000) (j0 : 0 ≤ j) (j1 : j < n)  : AE w m_J1_charAt_3b067 3 [vr v, vi j] h (am_intp h (fun z => z = b j)) := by
  refine AE.of wf_J1_charAt_3b067 (Nat.le_of_ble_eq_true rfl) (am_ok_c (fun z q => by have := hb j j0 j1; omega)) ?_
  have hj := hb j j0 j1
  refine q_blk (lv2 := [(0, vr v), (1, vi j)]) (st2 := [vr v, vi j]) kJ1_charAt_3b067_0 rfl ?_
  refine q_al eJ1_charAt_3b067_2 c1 (by omega) ?_
  refine AQ.callSv (av := [vi j, vi n]) (st := []) (c_J0_checkIndex ⟨by omega, by omega, by omega⟩) lk_RJ1_9 (by decide) rfl rfl (Nat.le_of_ble_eq_true rfl) eJ1_charAt_3b067_3 (fun h3 e2 => ?_)
  obtain rfl := e2
  refine q_blk (lv2 := [(0, vr v), (1, vi j)]) (st2 := [vi j, vr v]) kJ1_charAt_3b067_6 rfl ?_
  refine q_ba eJ1_charAt_3b067_8 c1 (by omega) (by omega) (by omega) (z := (b j)) rfl ?_
  refine q_blk (lv2 := [(0, vr v), (1, vi j)]) (st2 := [vi 255, vi (b j)]) kJ1_charAt_3b067_9 rfl ?_
  refine AQ.of (AS.iand255 eJ1_charAt_3b067_12) ?_
  refine AQ.of (AS.i2cS (by omega) (by omega) eJ1_charAt_3b067_13) ?_
  exact q_rc rfl (by omega) (by omega) eJ1_charAt_3b067_14 ⟨((b j) % 256), rfl, (by omega), rfl⟩

set_option maxRecDepth 4000 in
set_option maxHeartbeats 1000000 in
theorem c_J0_charAt {w : am_w} {h : AH} {q v : Nat} {n : Int} {b : Int → Int} (hS : STR h q v n b) {j : Int} (j0 : 0 ≤ j) (j1 : j < n)  : AE w m_J0_charAt_5068e 4 [vr q, vi j] h (am_intp h (fun z => z = b j)) := by
  refine AE.of wf_J0_charAt_5068e (Nat.le_of_ble_eq_true rfl) (am_ok_c (fun z q => by have := hS.2.2.2.2 j j0 j1; omega)) ?_
  obtain ⟨⟨bq, bv⟩, ⟨nn, ff, c0⟩, ⟨ci, gv, hci, c1⟩, hn, hb⟩ := id hS
  have hj := hb j j0 j1
  refine q_blk (lv2 := [(0, vr q), (1, vi j)]) (st2 := [vr q]) kJ0_charAt_5068e_0 rfl ?_
  refine AQ.callYi (av := []) (st := []) (c_J0_isLatin1 hS) lk_RJ0_492 (by decide) rfl rfl c0 rfl (Nat.le_of_ble_eq_true rfl) eJ0_charAt_5068e_1 (fun z1 h3 e2 => ?_)
  obtain ⟨e2, rfl⟩ := e2
  obtain rfl : z1 = 1 := by rcases e2 with a | a; exact a.1; exact absurd trivial a.2
  refine AQ.of (AS.if_eq_f eJ0_charAt_5068e_4 ⟨by decide, by decide⟩ (by decide) (by decide)) ?_
  refine q_blk (lv2 := [(0, vr q), (1, vi j)]) (st2 := [vr q]) kJ0_charAt_5068e_7 rfl ?_
  refine q_sv eJ0_charAt_5068e_8 c0 (am_gw 1483 (by decide +kernel) (by decide +kernel)) ?_
  refine q_blk (lv2 := [(0, vr q), (1, vi j)]) (st2 := [vi j, vr v]) kJ0_charAt_5068e_11 rfl ?_
  refine AQ.callSi (av := [vr v, vi j]) (st := []) (c_J1_charAt hci c1 hb hn j0 j1) lk_RJ0_495 (by decide) rfl rfl (Nat.le_of_ble_eq_true rfl) eJ0_charAt_5068e_12 (fun z4 h6 e5 => ?_)
  obtain ⟨e5, rfl⟩ := e5
  obtain rfl := e5.symm
  exact q_rc rfl (by omega) (by omega) eJ0_charAt_5068e_15 ⟨(b j), rfl, rfl, rfl⟩

set_option maxRecDepth 4000 in
set_option maxHeartbeats 1000000 in
theorem c_J0_getBytes {w : am_w} {h : AH} {q v : Nat} {n : Int} {b : Int → Int} (hS : STR h q v n b) {u : Nat} {nu at' : Int} {fu : Int → Int} (cu : h.1 u = some (101, nu, fu, am_N)) (bu : u < h.2.1) (nuv : u ≠ v) (a0 : 0 ≤ at' ∧ at' + n ≤ nu ∧ nu ≤ 3000)  : AE w m_J0_getBytes_840e7 3 [vr q, vr u, vi at', vi 0] h (am_unit (fun h1 => h1.1 u = some (101, nu, am_cpy b fu 0 at' n, am_N) ∧ KF h h1 (fun q => q = u) 0 0)) := by
  refine AE.of wf_J0_getBytes_840e7 (Nat.le_of_ble_eq_true rfl) (am_ok_v) ?_
  obtain ⟨⟨bq, bv⟩, ⟨nn, ff, c0⟩, ⟨ci, gv, hci, c1⟩, hn, hb⟩ := id hS
  have nqu : u ≠ q := fun e => by rw [e, c0] at cu; cases cu
  refine q_blk (lv2 := [(0, vr q), (1, vr u), (2, vi at'), (3, vi 0)]) (st2 := [vr q]) kJ0_getBytes_840e7_0 rfl ?_
  refine AQ.callYi (av := []) (st := []) (c_J0_coder hS) lk_RJ0_335 (by decide) rfl rfl c0 rfl (Nat.le_of_ble_eq_true rfl) eJ0_getBytes_840e7_1 (fun z1 h3 e2 => ?_)
  obtain ⟨e2, rfl⟩ := e2
  obtain rfl := e2.symm
  refine q_blk (lv2 := [(0, vr q), (1, vr u), (2, vi at'), (3, vi 0)]) (st2 := [vi 0, vi 0]) kJ0_getBytes_840e7_4 rfl ?_
  refine AQ.of (AS.ic_ne_f eJ0_getBytes_840e7_5 ⟨by decide, by decide⟩ ⟨by decide, by decide⟩ (by decide) (by decide)) ?_
  refine q_blk (lv2 := [(0, vr q), (1, vr u), (2, vi at'), (3, vi 0)]) (st2 := [vr q]) kJ0_getBytes_840e7_8 rfl ?_
  refine q_sv eJ0_getBytes_840e7_9 c0 (am_gw 1483 (by decide +kernel) (by decide +kernel)) ?_
  refine q_blk (lv2 := [(0, vr q), (1, vr u), (2, vi at'), (3, vi 0)]) (st2 := [vi 0, vi at', vr u, vi 0, vr v]) kJ0_getBytes_840e7_12 rfl ?_
  refine AQ.of (AS.ishlZ eJ0_getBytes_840e7_16 (by omega) (by omega)) ?_
  refine q_blk (lv2 := [(0, vr q), (1, vr u), (2, vi at'), (3, vi 0)]) (st2 := [vr q, vi at', vr u, vi 0, vr v]) kJ0_getBytes_840e7_17 rfl ?_
  refine q_sv eJ0_getBytes_840e7_18 c0 (am_gw 1483 (by decide +kernel) (by decide +kernel)) ?_
  refine q_al eJ0_getBytes_840e7_21 c1 (by omega) ?_
  refine q_ab eJ0_getBytes_840e7_22 hci (fun j j0 j1 => by have := hb j j0 j1; omega) c1 cu (by omega) (by omega) (by omega) (by omega) (by omega) (am_gw 1402 (by decide +kernel) (by decide +kernel)) (am_gw 454 (by decide +kernel) (by decide +kernel)) (am_gw 453 (by decide +kernel) (by decide +kernel)) (am_gw 57 (by decide +kernel) (by decide +kernel)) (by decide) (Nat.le_of_ble_eq_true rfl) (fun h4 e5 => ?_)
  have k6 := (am_ne e5 q (by omega)).trans c0
  have k7 := (am_ne e5 v (by omega)).trans c1
  have k8 := am_at e5
  have e5u : h4.2.1 = h.2.1 := congrArg Prod.fst (am_z e5)
  have e5v : h4.2.2 = h.2.2 := congrArg Prod.snd (am_z e5)
  have F9 : ∀ q, q < h.2.1 → ¬ (fun q => q = u) q → h4.1 q = h.1 q := fun q q0 q1 => (am_ne e5 q (fun c => q1 c)).trans ((fun _ _ _ => rfl) q q0 q1)
  refine q_goto (tgt := 43) eJ0_getBytes_840e7_25 (by decide) ?_
  exact q_rv rfl eJ0_getBytes_840e7_43 ⟨rfl, k8, ⟨F9, ⟨by omega, by omega⟩, by omega, by omega⟩⟩
