/-! 'new E(text)' and 'throw': the exception's cell comes, all else stays. (am_makeS follows vx_makeS of the kit's laws, with the whole heap in its answer.) -/
theorem am_makeS {p : Program} {l : Launch} {e : Env} {R : Room} {s : State} {m : MethodId} {args : Array Value} {below : List Frame} {meth : Method} {c : Code} {H : Heap} {locs : List Loc} {cells slots : Nat} {Q : State → Prop} {ls : Array Slot} {rest : List Value} {cc : ByteArray} {pc : Nat} (hexec : p.tables.exec = Jvm.exec) (hb : c.code = cc) (hl : l.stackTraces = false) {own cls text : String} {names : List String} {ik is ic sa : Nat} {A : Nat → Prop}
    (hown : s.vm.findClass own = some m.cls) (hcls : Bundle.fit cls = true) (hnames : ∀ n ∈ names, Bundle.fit n = true)
    (hk : (Cond.classLink own ik cls).before args s = true) (hini : (Cond.initialized cls).before args s = true) (hstr : vk_R own is text sa s) (hat : ∀ w ∈ vx_atS own ic cls names, w.before args s = true)
    (hgood : ∀ w ∈ Cond.classLink own ik cls :: Cond.initialized cls :: vx_atS own ic cls names, vx_ot w = true)
    (hU : vx_Zq Bundle.tN "UNASSIGNED_STACK" Bundle.steD A s H) (hN : vx_Zq Bundle.tN "SUPPRESSED_SENTINEL" Bundle.listD A s H) (hsize : ls.size = c.maxLocals)
    (d0 : decode cc pc = .ok (.new ik, 3)) (d3 : decode cc (pc + 3) = .ok (.dup, 1)) (d4 : decode cc (pc + 4) = .ok (.ldc is, 2)) (d6 : decode cc (pc + 6) = .ok (.invokespecial ic, 3))
    (hRframes : names.length + 3 < R.frames) (hRlocals : (rest.map fun v => v.category).sum + (13 * (names.length + 1) + 43) ≤ R.locals) (hRcells : cells + 1 ≤ R.cells) (hRslots : slots + 6 ≤ R.slots)
    (kk : ∀ (H1 : Heap) (ce : Cell), H1.size = H.size + 1 → (∀ q : Nat, q < H.size → H1[q]? = H[q]?) → H1[H.size]? = some ce → ce.vm = .none → s.vm.findClass cls = some ce.cls → W p l e R s m args below meth c H1 locs (cells + 1) (slots + 6) Q (F0 m (pc + 9) ls (.ref H.size :: rest))) :
    W p l e R s m args below meth c H locs cells slots Q (F0 m pc ls rest) := by
  intro T hT X
  subst hT
  have htr : e.platform.stackTraces = false := (show e.platform.stackTraces = l.stackTraces by rw [X.admits.platform]).trans hl
  have Y := vx_rebase X (R' := { frames := R.frames, locals := R.locals, cells := 1, slots := 6 }) (Nat.le_refl _) (Nat.le_refl _) hRcells hRslots
  obtain ⟨s', hA'⟩ : ∃ z, z = (T.setVm s.vm).setFrames (.invoking m args :: below) := ⟨_, rfl⟩
  rw [← hA'] at Y
  have hvm : s'.vm = s.vm := by rw [hA']; rfl
  have hhp : s'.heap = T.heap := by rw [hA']; rfl
  have hW0 : s.WarmedH s'.vm := by rw [hvm]; exact State.WarmedH.refl s
  have hat' : ∀ w ∈ vx_atS own ic cls names, w.before args s' = true := fun w hw => vx_ot_at hW0 hvm.symm (hgood w (List.mem_cons_of_mem _ (List.mem_cons_of_mem _ hw))) (hat w hw)
  have hk' : (Cond.classLink own ik cls).before args s' = true := vx_ot_at hW0 hvm.symm (hgood _ List.mem_cons_self) hk
  have hini' : (Cond.initialized cls).before args s' = true := vx_ot_at hW0 hvm.symm (hgood _ (List.mem_cons_of_mem _ List.mem_cons_self)) hini
  have hU' : vx_Zq Bundle.tN "UNASSIGNED_STACK" Bundle.steD A s' s'.heap := by rw [hhp]; exact vx_Zq.moved hW0.alike hU
  have hN' : vx_Zq Bundle.tN "SUPPRESSED_SENTINEL" Bundle.listD A s' s'.heap := by rw [hhp]; exact vx_Zq.moved hW0.alike hN
  have h : ∀ w ∈ Bundle.ownAtoms own ic cls names, w.before args s' = true := vx_own hat' (vx_isRefq hU'.1) (vx_isRefq hN'.1) hU'.2.word hN'.2.word
  have hown' : s'.vm.findClass own = some m.cls := by rw [hvm]; exact hown
  have hins : (Cond.instantiable cls 6).before args s' = true := h _ (by simp [Bundle.ownAtoms])
  obtain ⟨vm₁, cX, kX, hfX, hkX, -, -, X₁, st1⟩ := Y.newCold hexec (own := own) (C := cls) (index := ik) (n := 6) hown' hk' hins hini'
    (g := F0 m pc ls rest) rfl (by rw [hb]; exact d0) (Nat.le_refl _) (Nat.le_refl _)
  generalize hT1 : (T.setVm vm₁).pushCell { cls := cX, slots := kX.instanceTypes.map defaultValue, vm := .none } = T1 at X₁ st1
  have hcat : (Value.ref T.heap.size).category = 1 := rfl
  have hcellA : T1.heap[T.heap.size]? = some (freshCell cX kX) := by rw [← hT1]; exact State.heap_pushCell_size _ _
  have d3' : decode c.code (pc + 3) = .ok (.dup, 1) := by rw [hb]; exact d3
  have d4' : decode c.code (pc + 4) = .ok (.ldc is, 2) := by rw [hb]; exact d4
  have hstr' : vk_R own is text sa s' := vk_R.warm hW0 hstr
  obtain ⟨V, ce, L, Z, hL, hlt, hcl9, hvm9, st⟩ := vx_ctorMadeS X₁ hexec htr (own := own) (cls := cls) (names := names) (ic := ic) hown' hcls hnames h (fun x hx => nomatch hx) hfX hkX hcellA (by rw [hhp]; exact Nat.le_refl _) (msg := .ref sa) rfl
    (g := { method := m, pc := pc + 6, locals := ls, stack := .ref sa :: .ref T.heap.size :: .ref T.heap.size :: rest, locked := none }) rfl hsize (rest := rest) rfl
    (by rw [hb]; exact d6) hRframes (by simp only [List.map_cons, List.sum_cons, hcat]; omega)
  have Z0 := Stand.forget (locs := []) Z (fun y hy => by rw [hL y hy, hhp]; exact Nat.le_refl _)
  obtain ⟨g1, g2, g3, g4, g5, g6⟩ := id Z0.same
  obtain ⟨f1, f2⟩ := vx_frame Z0.same
  rw [hhp] at f1 f2
  have g3' : (V.setCell T.heap.size ce).heap.size ≤ T.heap.size + 1 := by
    rw [hhp] at g3
    exact g3
  have hh : (V.setCell T.heap.size ce).heap[T.heap.size]? = some ce := heapAt_setCell_self (s := V) ce hlt
  have hcid : s.vm.findClass cls = some ce.cls := by
    rw [hcl9]
    rw [hvm] at hfX
    exact hfX
  subst hA'
  have X5 := vx_back9 X Y Z0
  have X6 : Stand p l e R s m args below meth c (V.setCell T.heap.size ce) locs (cells + 1) (slots + 6) := { X5 with same := X5.same.mono (by omega) (by omega) }
  have hz : (V.setCell T.heap.size ce).heap.size = T.heap.size + 1 := by
    have h1 : T.heap.size < (V.setCell T.heap.size ce).heap.size := (Array.getElem?_eq_some_iff.mp hh).1
    omega
  obtain ⟨t, a1, b1⟩ := kk (V.setCell T.heap.size ce).heap ce hz (fun q hq => f2 q hq (fun z hz => nomatch hz)) hh hvm9 hcid _ rfl X6
  refine ⟨t, st1 _ ?_, b1⟩
  show Steps p.tables e below (T1.setTop { method := m, pc := pc + 3, locals := ls, stack := .ref T.heap.size :: rest, locked := none }) _
  jvm_step X₁.here [X₁.here.top, hexec, d3', Value.category]
  exact X₁.ldcString hexec (own := own) (text := text) (index := is) (a := sa) hown' hstr'.1 hstr'.2
    (g := { method := m, pc := pc + 4, locals := ls, stack := .ref T.heap.size :: .ref T.heap.size :: rest, locked := none }) rfl d4' _ (st _ a1)

def am_xn : List String := ["java/lang/RuntimeException", "java/lang/Exception"]
/-- the words of a throw: those that last, and those that are carried in the world -/
def am_xw (own : String) (ic : Nat) (X : String) : Prop := ∀ w ∈ vx_atS own ic X am_xn, w ∈ GW ∨ w ∈ am_NW
theorem am_xw_ot {w : Cond} (h : w ∈ GW ∨ w ∈ am_NW) : vx_ot w = true := by
  rcases h with h | h
  · unfold vx_ot
    rw [(List.mem_filter.mp h).2, Bool.or_true]
  · unfold vx_ot
    rw [am_nw_on (List.mem_filter.mp h).2, Bool.true_or]
theorem AQ.throwS {w : am_w} {y : YR} {d pc ik ic i k : Nat} {lv : List (Nat × AV)} {st : List AV} {h : AH} {Q : RV → AH → Prop} {tx : String} {is : Nat} (hi : i < am_STR.length) (hti : am_txt i = (y.1.cls, is, tx)) (hk : Cond.classLink y.1.cls ik (am_exc k) ∈ GW) (hini : Cond.initialized (am_exc k) ∈ GW) (hfit : Bundle.fit (am_exc k) = true) (hxw : am_xw y.1.cls ic (am_exc k)) (hd8 : 8 ≤ d) (h8 : am_cat8 st ≤ 8)
    (d0 : decode y.2.1 pc = .ok (.new ik, 3)) (d3 : decode y.2.1 (pc + 3) = .ok (.dup, 1)) (d4 : decode y.2.1 (pc + 4) = .ok (.ldc is, 2)) (d6 : decode y.2.1 (pc + 6) = .ok (.invokespecial ic, 3)) (d9 : decode y.2.1 (pc + 9) = .ok (.athrow, 1))
    (hout : ∀ x ∈ tableOf y.2.2.2.2, covers x (pc + 9) = false) (hq : Q (.inr k) (h.1, h.2.1 + 1, h.2.2 + 6)) : AQ w y d pc lv st h Q := by
  refine ⟨.inr k, (h.1, h.2.1 + 1, h.2.2 + 6), ⟨Nat.le_succ _, Nat.le_add_right _ _, fun p l e R s m args below meth c H locs cells slots Q ls hC hKS hKH hR hl hv hcl hsl hE => ?_⟩, hq⟩
  have hts := hC.2.2.2.2.1
  have hstr := hKS.2.1 i hi
  rw [hti] at hstr
  have h5 := hC.2.2.2.2.2.2.2.2.1
  have h6 := hC.2.2.2.2.2.2.2.2.2.1
  have e1 : h.2.1 + 1 - h.2.1 = 1 := by omega
  have e2 : h.2.2 + 6 - h.2.2 = 6 := by omega
  dsimp only at hcl hsl hE
  rw [e1] at hcl hE
  rw [e2] at hsl hE
  have hat : ∀ x ∈ vx_atS y.1.cls ic (am_exc k) am_xn, x.before args s = true := fun x hx => by
    rcases hxw x hx with g | g
    · exact hts x g
    · exact (hKS.1 x g).use (am_nw_on (List.mem_filter.mp g).2)
  refine am_makeS (names := am_xn) hC.1 hC.2.1 (by unfold Launch.stackTraces; rw [hC.2.2.2.2.2.2.2.1]; decide +kernel) hC.2.2.2.1 hfit (by decide +kernel) (hts _ hk) (hts _ hini) hstr hat
    (fun x hx => by
      rcases List.mem_cons.mp hx with g | g
      · rw [g]; exact am_xw_ot (Or.inl hk)
      · rcases List.mem_cons.mp g with g | g
        · rw [g]; exact am_xw_ot (Or.inl hini)
        · exact am_xw_ot (hxw x g)) hKH.2.1 hKH.2.2.1 (hv.1.trans hC.2.2.1.symm) d0 d3 d4 d6 (by show 2 + 3 < R.frames; omega) (by rw [am_cat_ok]; show am_cat8 st + (13 * (2 + 1) + 43) ≤ R.locals; omega) hcl hsl fun H1 ce z1 o1 e9 hv9 hc9 => ?_
  refine vx_athrow hC.1 hC.2.1 d9 ?_
  exact hE.2 k rfl H1 locs (pc + 9) ls (am_st st) H.size ce (hKH.grow (by omega) o1) ⟨by rw [z1, ← hR.1], fun a x hx => (hR.2 a x hx).kept (o1 a (hR.2 a x hx).lt)⟩ hl hout e9 hv9 hc9
