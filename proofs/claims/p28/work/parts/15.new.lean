/-! What is made: objects, arrays; statics and constants that are read. -/
section ANEW
variable {w : am_w} {y : YR} {d pc : Nat} {lv lv2 : List (Nat × AV)} {st st2 : List AV} {h h2 : AH} {a : Nat} {n : Int} {f : Int → Int} {g : Int → Option Nat}
theorem AS.liftN {pc2 mc ms : Nat} (hc : h2.2.1 = h.2.1 + mc) (hs : h2.2.2 = h.2.2 + ms)
    (row : ∀ (p : Program) (l : Launch) (e : Env) (R : Room) (s : State) (m : MethodId) (args : Array Value) (below : List Frame) (meth : Method) (c : Code) (H : Heap) (locs : List Loc) (cells slots : Nat) (Q : State → Prop) (ls : Array Slot),
      am_Ctx y d p l R s m args meth c → KS w s → KH w s H → Rep w.1 s h H → (∀ q ∈ locs, am_Fr w.1 q.base) → cells + mc ≤ R.cells → slots + ms ≤ R.slots → lv_has ls y.2.2.1 (am_lv lv) →
      (∀ (H1 : Heap) (locs1 : List Loc) (ls2 : Array Slot), KH w s H1 → Rep w.1 s h2 H1 → (∀ q ∈ locs1, am_Fr w.1 q.base) → lv_has ls2 y.2.2.1 (am_lv lv2) → W p l e R s m args below meth c H1 locs1 (cells + mc) (slots + ms) Q (F0 m pc2 ls2 (am_st st2))) → W p l e R s m args below meth c H locs cells slots Q (F0 m pc ls (am_st st))) :
    AS w y d pc lv st h pc2 lv2 st2 h2 := by
  intro r h' k
  obtain ⟨k1, k2, k3⟩ := k
  rw [hc] at k1
  rw [hs] at k2
  refine ⟨by omega, by omega, fun p l e R s m args below meth c H locs cells slots Q ls hC hKS hKH hR hl hv hcl hsl hE => ?_⟩
  refine row p l e R s m args below meth c H locs cells slots Q ls hC hKS hKH hR hl (by omega) (by omega) hv fun H1 locs1 ls2 hKH1 hR1 hl1 hv2 => ?_
  have k4 := k3 p l e R s m args below meth c H1 locs1 (cells + mc) (slots + ms) Q ls2 hC hKS hKH1 hR1 hl1 hv2
  rw [hc, hs] at k4
  have e1 : cells + mc + (h'.2.1 - (h.2.1 + mc)) = cells + (h'.2.1 - h.2.1) := by omega
  have e2 : slots + ms + (h'.2.2 - (h.2.2 + ms)) = slots + (h'.2.2 - h.2.2) := by omega
  rw [e1, e2] at k4
  exact k4 hcl hsl hE
theorem KH.grow {w : am_w} {s : State} {H H1 : Heap} (h : KH w s H) (hz : H.size ≤ H1.size) (ho : ∀ q : Nat, q < H.size → H1[q]? = H[q]?) : KH w s H1 := h.kept hz fun q h1 _ => ho q h1
theorem am_dflt : ∀ (ci : Nat) (q : vw_C), vwCl[ci]? = some q → ∀ j, j < q.2.2 → defaultValue (am_fty ci j) = am_sv (am_fty ci j) 0 none := by
  intro ci q hq j _
  match ci, hq with
  | 0, hq => match j with
    | 0 | 1 | 2 | 3 | 4 | 5 | 6 | 7 | 8 | _ + 9 => rfl
  | 1, hq => match j with
    | 0 | 1 | _ + 2 => rfl
  | 2, hq => match j with
    | 0 | _ + 1 => rfl
  | 3, hq => match j with
    | 0 | 1 | 2 | 3 | 4 | 5 | 6 | _ + 7 => rfl
  | 4, hq => match j with
    | 0 | 1 | 2 | _ + 3 => rfl
  | 5, hq => match j with
    | 0 | 1 | 2 | 3 | 4 | 5 | 6 | 7 | 8 | 9 | 10 | 11 | 12 | 13 | _ + 14 => rfl
  | 6, hq => match j with
    | 0 | 1 | 2 | 3 | _ + 4 => rfl
  | 7, hq => match j with
    | 0 | 1 | 2 | 3 | 4 | 5 | 6 | 7 | _ + 8 => rfl
  | 8, hq => match j with
    | 0 | 1 | 2 | 3 | _ + 4 => rfl
  | 9, hq => match j with
    | 0 | 1 | 2 | _ + 3 => rfl
  | 10, hq => rfl
  | 11, hq => match j with
    | 0 | 1 | _ + 2 => rfl
  | 12, hq => match j with
    | 0 | 1 | 2 | _ + 3 => rfl
  | 13, hq => match j with
    | 0 | 1 | 2 | _ + 3 => rfl
  | n + 14, hq => simp [vwCl] at hq
theorem AS.newO {idx ci : Nat} {q : vw_C} (hd : decode y.2.1 pc = .ok (.new idx, 3)) (hq : vwCl[ci]? = some q) (hl1 : Cond.classLink y.1.cls idx q.1 ∈ GW) (hl2 : Cond.instantiable q.1 q.2.2 ∈ GW) (hl3 : Cond.initialized q.1 ∈ GW) : AS w y d pc lv st h (pc + 3) lv (vr h.2.1 :: st) (am_new h (ci, q.2.2, fun _ => 0, fun _ => none) q.2.2) :=
  AS.liftN rfl rfl fun p l e R s m args below meth c H locs cells slots Q ls hC hKS hKH hR hl hcl hsl hv kk => by
    obtain ⟨hin, hnm, hty, -⟩ := am_cls ci q hq
    obtain ⟨cC, iS, hKn⟩ := u_known (C := q.1) (T := q.2.1) (N := q.2.2) (n := q.2.2) hC.2.2.2.2.1 hin (hC.2.2.2.2.1 _ hl2)
    refine W.newcK hC.1 hC.2.1 hC.2.2.2.1 (hC.2.2.2.2.1 _ hl1) (hC.2.2.2.2.1 _ hl2) (hC.2.2.2.2.1 _ hl3) rfl hd hcl hsl hKn.2.1 rfl fun H1 kC hkC e1 z1 o1 => ?_
    have hb := u_born (am_fty ci) hC.2.2.2.2.1 hin hKn hkC e1 hty
    have := kk H1 locs ls (hKH.grow (by omega) o1) (hR.new z1 o1 (am_objI hq hKH.1 rfl hKn (hb.to fun j hj => am_dflt ci q hq j hj))) hl hv
    rw [hR.1] at this
    exact this
theorem AS.newA {k : Nat} {aty : ArrayType} (hd : decode y.2.1 pc = .ok (.newarray aty, 2)) (hk : (k = 100 ∧ aty = .int) ∨ (k = 101 ∧ aty = .byte) ∨ (k = 102 ∧ aty = .long)) (hw : Cond.arrayClass (newarray.typeOf aty) ∈ GW) (h0 : 0 ≤ n) (h1 : n ≤ 1000000) : AS w y d pc lv (vi n :: st) h (pc + 2) lv (vr h.2.1 :: st) (am_new h (k, n, fun _ => 0, fun _ => none) n.toNat) :=
  AS.liftN rfl rfl fun p l e R s m args below meth c H locs cells slots Q ls hC hKS hKH hR hl hcl hsl hv kk => by
    have hn : am_r n := ⟨by omega, by omega⟩
    have e0 : newarray.typeOf aty = am_ety k := by rcases hk with ⟨rfl, rfl⟩ | ⟨rfl, rfl⟩ | ⟨rfl, rfl⟩ <;> rfl
    have hb : n.toNat * componentBytes (newarray.typeOf aty) ≤ 536870912 := by
      have : componentBytes (newarray.typeOf aty) ≤ 8 := by rcases hk with ⟨rfl, rfl⟩ | ⟨rfl, rfl⟩ | ⟨rfl, rfl⟩ <;> decide
      have h9 : n.toNat ≤ 1000000 := by omega
      calc n.toNat * componentBytes (newarray.typeOf aty) ≤ 1000000 * 8 := Nat.mul_le_mul h9 this
        _ ≤ 536870912 := by decide
    refine va_newaK hC.1 hC.2.1 (hC.2.2.2.2.1 _ hw) rfl hd rfl (fun z => by have := (am_lt hn am_r0).mp z; omega) (am_clamp hn) hb hcl hsl rfl fun H1 cA e1 z1 o1 hAr hNm => ?_
    have hra : va_RA s cA (am_ety k) := by
      rw [← e0]
      rcases hk with ⟨rfl, rfl⟩ | ⟨rfl, rfl⟩ | ⟨rfl, rfl⟩ <;> exact hNm
    have e2 : H1[H.size]? = some (arrV cA n.toNat (fun j : Nat => am_sv (am_ety k) ((fun _ => 0 : Int → Int) j) ((fun _ => none : Int → Option Nat) j))) := by
      rw [e1]
      rcases hk with ⟨rfl, rfl⟩ | ⟨rfl, rfl⟩ | ⟨rfl, rfl⟩ <;> rfl
    have := kk H1 locs ls (hKH.grow (by omega) o1) (hR.new z1 o1 (am_ownI (by omega) (by omega) hKH.1 h0 (by omega) (by rw [← e0]; exact hAr) hra e2)) hl hv
    rw [hR.1] at this
    exact this
theorem AS.newR {k idx : Nat} {C : String} (hd : decode y.2.1 pc = .ok (.anewarray idx, 3)) (hk : (k = 103 ∧ C = "CornerClaims$Board") ∨ (k = 104 ∧ C = "CornerClaims$Shape") ∨ (k = 106 ∧ C = "CornerClaimsLaw$Shape") ∨ (k = 107 ∧ C = "CornerClaimsLaw$Field")) (hw : Cond.classLink y.1.cls idx C ∈ GW) (h0 : 0 ≤ n) (h1 : n ≤ 1000000) : AS w y d pc lv (vi n :: st) h (pc + 3) lv (vr h.2.1 :: st) (am_new h (k, n, fun _ => 0, fun _ => none) n.toNat) :=
  AS.liftN rfl rfl fun p l e R s m args below meth c H locs cells slots Q ls hC hKS hKH hR hl hcl hsl hv kk => by
    have hn : am_r n := ⟨by omega, by omega⟩
    have hcn : (Int32.ofInt n).toNatClampNeg = n.toNat := am_clamp hn
    have e0 : am_ety k = .object C := by rcases hk with ⟨rfl, rfl⟩ | ⟨rfl, rfl⟩ | ⟨rfl, rfl⟩ | ⟨rfl, rfl⟩ <;> rfl
    have hao : va_AO C s := by
      rcases hk with ⟨rfl, rfl⟩ | ⟨rfl, rfl⟩ | ⟨rfl, rfl⟩ | ⟨rfl, rfl⟩
      · exact hKS.2.2.2.1
      · exact hKS.2.2.2.2.1
      · exact hKS.2.2.2.2.2.2.1
      · exact hKS.2.2.2.2.2.2.2
    refine W.anew hC.1 hC.2.1 hC.2.2.2.1 (hC.2.2.2.2.1 _ hw) (va_AO.use hao) rfl hd rfl (fun z => by have := (am_lt hn am_r0).mp z; omega) (by rw [hcn]; omega) hcl (by rw [hcn]; exact hsl) fun cA kA comp f1 f2 f3 f4 => ?_
    rw [hcn]
    generalize hH1 : H.push ({ cls := cA, slots := Array.replicate n.toNat .null, vm := .none } : Cell) = H1
    have z1 : H1.size = H.size + 1 := by rw [← hH1, Array.size_push]
    have e1 : H1[H.size]? = some (arrV cA n.toNat (fun _ => .null)) := by rw [← hH1, Array.getElem?_push_size, ← arrV_new]
    have o1 : ∀ q : Nat, q < H.size → H1[q]? = H[q]? := fun q hq => by rw [← hH1, Array.getElem?_push, if_neg (Nat.ne_of_lt hq)]
    have hAr : ArrOfT s cA (.object C) := fun N z => ⟨(fun k h => by cases h), kA, f2, comp, f3⟩
    have e2 : H1[H.size]? = some (arrV cA n.toNat (fun j : Nat => am_sv (am_ety k) ((fun _ => 0 : Int → Int) j) ((fun _ => none : Int → Option Nat) j))) := by
      rw [e1, e0]; rfl
    have := kk H1 locs ls (hKH.grow (by omega) o1) (hR.new z1 o1 (am_ownI (by omega) (by omega) hKH.1 h0 (by omega) (by rw [e0]; exact hAr) (by rw [e0]; exact ⟨kA, comp, f2, f3, f4, f1⟩) e2)) hl hv
    rw [hR.1] at this
    exact this
/-- new int[N][M] -/
def am_grid (h : AH) (N M : Nat) : AH := (fun q => if q = h.2.1 then some (105, (N : Int), fun _ => 0, fun i => if 0 ≤ i ∧ i < N then some (h.2.1 + 1 + i.toNat) else none) else if h.2.1 < q ∧ q ≤ h.2.1 + N then some (100, (M : Int), fun _ => 0, fun _ => none) else h.1 q, h.2.1 + (1 + N), h.2.2 + (N + N * M))
theorem AS.newM {idx N M : Nat} (hd : decode y.2.1 pc = .ok (.multianewarray idx 2, 4)) (hw1 : Cond.classLink y.1.cls idx ("[" ++ (FieldType.array .int).toString) ∈ GW) (hw2 : Cond.arrayClass .int ∈ GW) (hN : N ≤ 1000000) (hM : M ≤ 1000000) : AS w y d pc lv (vi M :: vi N :: st) h (pc + 4) lv (vr h.2.1 :: st) (am_grid h N M) :=
  AS.liftN rfl rfl fun p l e R s m args below meth c H locs cells slots Q ls hC hKS hKH hR hl hcl hsl hv kk => by
    have hn : am_r (N : Int) := ⟨by omega, by omega⟩
    have hm : am_r (M : Int) := ⟨by omega, by omega⟩
    have hcn : (Int32.ofInt (N : Int)).toNatClampNeg = N := am_clamp hn
    have hcm : (Int32.ofInt (M : Int)).toNatClampNeg = M := am_clamp hm
    intro T hT Xs
    obtain ⟨vm₁, cA, comp, hW1, fA, fC, hO, hI, X', step⟩ := Xs.multianewarray2F (ty := .int) hC.1 hC.2.2.2.1 (hC.2.2.2.2.1 _ hw1) hKS.2.2.2.2.2.1 (hC.2.2.2.2.1 _ hw2) (g := F0 m pc ls (.int (Int32.ofInt (M : Int)) :: .int (Int32.ofInt (N : Int)) :: am_st st)) rfl (by rw [hC.2.1]; exact hd) rfl (fun z => by have := (am_lt hn am_r0).mp z; omega) (fun z => by have := (am_lt hm am_r0).mp z; omega) (by rw [hcn]; omega) (by rw [hcm]; show M * 4 ≤ 536870912; omega) (by rw [hcm]; omega) rfl rfl (by rw [hcn]; exact hcl) (by rw [hcn, hcm]; exact hsl)
    rw [hcn, hcm] at X' step
    generalize hF : Jvm.Free.Multi.fill (T.setVm vm₁) cA comp N M (defaultValue .int) N = F at X' step
    have hTh : (T.setVm vm₁).heap = H := hT
    obtain ⟨f1, f2, -, -⟩ := Jvm.Free.Multi.fill_facts (T.setVm vm₁) cA comp N M (defaultValue .int) N
    rw [hF, hTh] at f1 f2
    have hold : ∀ x : Nat, x < H.size → F.heap[x]? = H[x]? := fun x hx => by
      have := Jvm.Free.Multi.fill_old (T.setVm vm₁) cA comp N M (defaultValue .int) (a := x) (by rw [hTh]; exact hx) N
      rw [hF, hTh] at this
      exact this
    have hrow : ∀ j : Nat, j < N → F.heap[H.size + 1 + j]? = some (arrV comp M (fun _ => .int (Int32.ofInt 0))) := fun j hj => by
      have := Jvm.Free.Multi.fill_inner (T.setVm vm₁) cA comp N M (defaultValue .int) N j hj
      rw [hF, hTh] at this
      rw [this]
      exact congrArg some (arrV_new _ _ _)
    rw [vr_outer] at f2
    have hAr : ArrOfT s cA (.array .int) := fun n z => ⟨(fun k h => by cases h), (hO 0 0 0).1.2⟩
    have hAi : ArrOfT s comp .int := fun n z => ⟨(fun k h => by cases h), (hI 0 .null).1.2⟩
    have hRi : va_RA s comp .int := fC
    have hb : w.1 ≤ H.size := hKH.1
    have hrep : Rep w.1 s (am_grid h N M) F.heap := by
      refine ⟨by rw [f1, ← hR.1]; show h.2.1 + (1 + N) = _; omega, fun q x e => ?_⟩
      unfold am_grid at e
      dsimp only at e
      by_cases q1 : q = h.2.1
      · rw [if_pos q1] at e
        cases e
        rw [q1, hR.1]
        refine am_ownI (by decide) (by decide) hb (by omega) (by omega) hAr fA ?_
        rw [f2]
        congr 2
        funext j
        show va_rf _ = va_rf _
        congr 1
        by_cases hj : j < N
        · rw [if_pos hj, if_pos ⟨by omega, by omega⟩]
          congr 1
        · rw [if_neg hj, if_neg (by omega)]
      · rw [if_neg q1] at e
        by_cases q2 : h.2.1 < q ∧ q ≤ h.2.1 + N
        · rw [if_pos q2] at e
          cases e
          have hz := hR.1
          obtain ⟨j, hj⟩ : ∃ j, q = H.size + 1 + j := ⟨q - H.size - 1, by omega⟩
          refine am_ownI (by decide) (by decide) (by omega) (by omega) (by omega) hAi hRi ?_
          rw [hj, hrow j (by omega)]
          rfl
        · rw [if_neg q2] at e
          have h1 := hR.2 q x e
          exact h1.kept (hold q h1.lt)
    have hW := kk F.heap locs ls (hKH.grow (by omega) hold) hrep hl hv
    obtain ⟨t, a1, b1⟩ := hW F rfl (by rw [show cells + (1 + N) = cells + 1 + N by omega, show slots + (N + N * M) = slots + N + N * M by omega]; exact X')
    refine ⟨t, step t ?_, b1⟩
    rw [hT, ← hR.1]
    exact a1
theorem AS.getPS {idx : Nat} (hd : decode y.2.1 pc = .ok (.getstatic idx, 3)) (hw : Cond.fieldLink y.1.cls idx "CornerClaims" "PLAIN_SCORE" "[I" ∈ GW ∨ ∃ host : String, Cond.fieldLinkNest y.1.cls idx "CornerClaims" "PLAIN_SCORE" "[I" host ∈ am_NW) : AS w y d pc lv st h (pc + 3) lv (vr (w.2 100) :: st) h :=
  AS.lift fun p l e R s m args below meth c H locs cells slots Q ls hC hKS hKH hR hl hcl hsl hv kk => by
    obtain ⟨cf, kf, fi, f, a, cell, h1, h2, h3, h4, h5, h6, h7, h8⟩ := hKH.2.2.2.1
    rcases hw with hw | ⟨host, hw⟩
    · exact W.gets hC.1 hC.2.1 hC.2.2.2.1 (hC.2.2.2.2.1 _ hw) h1 h2 h3 h4 h5 (fun e => by rw [e] at h6; cases h6) h7 rfl hd (kk ls hv)
    · exact va_WgetsN hC.1 hC.2.1 hC.2.2.2.1 ((hKS.1 _ hw).use rfl) h1 h2 h3 h4 h5 (fun e => by rw [e] at h6; cases h6) h7 rfl hd (kk ls hv)
end ANEW
