/-- a constructor's end: the cells at new addresses -/
abbrev QN (D : va_G) (ca : Nat → ClassId) (wN : (Nat → Nat) → va_W) (A : Nat → Prop) : Array Value → State → Outcome → State → Prop := va_Qv (fun (_ : Nat → Nat) => True) (fun q t => va_P D vwCl (wN q) t.heap ∧ va_K D vwCl (TY ca) t ∧ va_D A (wN q)) A
section LIBN
variable {p : Program} {l : Launch} {e : Env} {R : Room} {s : State} {m : MethodId} {args : Array Value} {below : List Frame} {meth : Method} {c : Code} {H : Heap} {locs : List Loc} {cells slots : Nat} {Q : State → Prop} {A : Nat → Prop} {D : va_G} {ca : Nat → ClassId} {zz : Nat → Nat} {cc bytes : ByteArray} {pc : Nat} {ls : Array Slot} {rest st0 As : List Value}
variable {nL maxL n index ci N : Nat} {Ts wsm : List Cond} {own C : String} {y : MethodName} {ret : Option FieldType} {rm : Room} {b : Nat} {wc wn ws wx : va_W} {T : u_T} {fs : List Value} {ρ : Type} {r0 : ρ}
theorem rt_N {wN : (Nat → Nat) → va_W} {mc ms : Nat} (q : Nat → Nat) (hx : p.tables.exec = Jvm.exec) (hb : c.code = cc) (hr : meth.sig.returnType = none) (hlocks : meth.locks = false) (hK : va_K D vwCl (TY ca) s) (hP : va_P D vwCl ws H) (hD : va_D A ws) (hS : va_S A s.heap H locs) (hQ : Q = MQ below (QN D ca wN A) args s mc ms A) (ew : ws = wN q) (hc : cells ≤ mc) (hs : slots ≤ ms) (hdg : decode cc pc = .ok (.return_, 1)) : W p l e R s m args below meth c H locs cells slots Q (F0 m pc ls []) := by
  subst ew; subst hQ
  refine W.widen (k := mc) (n := ms) hc hs ?_
  exact W.vret hx hb hr (fun t ht hW => ⟨⟨q, rfl, trivial, by rw [ht]; exact hP, va_K.moved hW.alike hK, hD⟩, hS.F ht⟩) hS.2.2 hdg
theorem xnewa (t0 : Nat) (hx : p.tables.exec = Jvm.exec) (hb : c.code = cc) {atype : ArrayType} (harr : (Cond.arrayClass (newarray.typeOf atype)).before args s = true) {ty : FieldType} (hty : newarray.typeOf atype = ty) (hK : va_K D vwCl (TY ca) s) (hP : va_P D vwCl ws H) (hD : va_D A ws) (hS : va_S A s.heap H locs) (hA : ∀ q, s.heap.size ≤ q → A q)
    {n : Int32} {N' : Nat} {a0 : vp_A} (ha : ∀ cA : ClassId, vp_cell cA a0 = arrV cA N' (fun _ => defaultValue ty)) (hn : ¬ n < 0) (hN : n.toNatClampNeg = N') (hbytes : N' * componentBytes ty ≤ 536870912) (ht : (TY ca)[t0]? = some (ca t0, ty)) (hra : ∀ cA : ClassId, va_RA s cA ty → s.vm.findClass ("[" ++ ty.toString) = some cA) (hcells : cells + 1 ≤ R.cells) (hslots : slots + N' ≤ R.slots) (hdg : decode cc pc = .ok (.newarray atype, 2))
    (kk : ∀ (q : Nat) (H1 : Heap), va_P D vwCl (ws ++ [(q, .inl (ca t0, a0))]) H1 → va_D A (ws ++ [(q, .inl (ca t0, a0))]) → va_S A s.heap H1 locs →
      W p l e R s m args below meth c H1 locs (cells + 1) (slots + N') Q (F0 m (pc + 2) ls (.ref q :: rest))) : W p l e R s m args below meth c H locs cells slots Q (F0 m pc ls (.int n :: rest)) := by
  refine va_newa hx hb harr hty hK hP hD hS hA ha hn hN hbytes hcells hslots hdg (fun q cA H1 g1 g2 g3 g4 => ?_)
  have e1 := hra _ (hK.2 t0 _ ht).2
  have e2 := hra _ (g1.2 (TY ca).length (cA, ty) (by simp)).2
  rw [e1] at e2
  cases e2
  exact kk q H1 g2 g3 g4
theorem xnewq (hx : p.tables.exec = Jvm.exec) (hb : c.code = cc) (hown : s.vm.findClass own = some m.cls) (hclink : (Cond.classLink own index "NoiseWatch$Watch").before args s = true) (hover : va_AO "NoiseWatch$Watch" s) (hK : va_K D vwCl (TY ca) s) (hP : va_P D vwCl ws H) (hD : va_D A ws) (hS : va_S A s.heap H locs) (hA : ∀ q, s.heap.size ≤ q → A q)
    {n : Int32} {N' : Nat} (hn : ¬ n < 0) (hN : n.toNatClampNeg = N') (hbytes : N' * 4 ≤ 536870912) (hcells : cells + 1 ≤ R.cells) (hslots : slots + N' ≤ R.slots) (hdg : decode cc pc = .ok (.anewarray index, 3))
    (kk : ∀ (q : Nat) (H1 : Heap), va_P D vwCl (ws ++ [(q, .inl (ca 4, N', .inr (.inr (.inr (.inr (fun _ => none))))))]) H1 → va_D A (ws ++ [(q, .inl (ca 4, N', .inr (.inr (.inr (.inr (fun _ => none))))))]) → va_S A s.heap H1 locs →
      W p l e R s m args below meth c H1 locs (cells + 1) (slots + N') Q (F0 m (pc + 3) ls (.ref q :: rest))) : W p l e R s m args below meth c H locs cells slots Q (F0 m pc ls (.int n :: rest)) := by
  refine va_newq hx hb hown hclink hover hK hP hD hS hA hn hN hbytes hcells hslots hdg (fun q cA H1 g1 g2 g3 g4 => ?_)
  obtain ⟨kA, comp, -, -, -, e1⟩ := (hK.2 4 _ rfl).2
  obtain ⟨kA2, comp2, -, -, -, e2⟩ := (g1.2 (TY ca).length (cA, .object "NoiseWatch$Watch") (by simp)).2
  rw [e1] at e2
  cases e2
  exact kk q H1 g2 g3 g4
theorem xputF {ref : String} (hx : p.tables.exec = Jvm.exec) (hb : c.code = cc) (hts : ∀ w ∈ Ts, w.before args s = true) (hin : ∀ w ∈ u_ws C T N, w ∈ Ts) (ty0 : Nat → FieldType) (hty : ∀ k, k < N → parseFieldDescriptor (T k).2.2.1 = some (ty0 k)) (hnm : ∀ a, a < N → ∀ b, b < N → a ≠ b → (T a).2.1 ≠ (T b).2.1) (hown : s.vm.findClass own = some m.cls) (hK : va_K D vwCl (TY ca) s) (hP : va_P D vwCl ws H) (hD : va_D A ws) (hS0 : va_S A s.heap H locs) (q0 : Nat) {a : Nat} (he : ws[q0]? = some (a, .inr (ci, fs))) (hc : vwCl[ci]? = some (C, T, N)) (k : Nat) (hk : k < N) (hlink : (Cond.fieldLink own index ref (T k).2.1 (T k).2.2.1).before args s = true) (hsame : ∀ x, s.fieldFound? (T k).1 (T k).2.1 (T k).2.2.1 = some x → s.fieldFound? ref (T k).2.1 (T k).2.2.1 = some x) (hfin : (T k).2.2.2 = true) (hin2 : meth.name = "<init>") (hdecl : (T k).1 = own) {ty : FieldType} {v : Value} (hd : parseFieldDescriptor (T k).2.2.1 = some ty) (hn : narrow ty v = v) (hfit : fits ty v = true) (hl : k < fs.length)
    (hdg : decode cc pc = .ok (.putfield index, 3)) (ew : ws.set q0 (a, .inr (ci, fs.set k v)) = wx) (kk : ∀ (H1 : Heap) (locs1 : List Loc), va_P D vwCl wx H1 → va_D A wx → va_S A s.heap H1 locs1 → W p l e R s m args below meth c H1 locs1 cells slots Q (F0 m (pc + 3) ls rest)) : W p l e R s m args below meth c H locs cells slots Q (F0 m pc ls (v :: .ref a :: rest)) := by
  subst ew
  exact va_putF hx hb hts hin ty0 hty hnm hown hK hP hD hS0 q0 he hc k hk hlink hsame hfin hin2 hdecl hd hn hfit hl hdg kk
theorem xIn {wN : (Nat → Nat) → va_W} {wr : va_W} {mc ms : Nat} (S : CallFix p m c cc nL s args Ts own) (hM : Met l y wsm rm (PR D ca zz [.ref b] H.size [(b, .inr (ci, fs))]) (QN D ca wN (va_A [(b, .inr (ci, fs))] H.size)) mc ms (va_A [(b, .inr (ci, fs))] H.size)) (cw : CallB R s args own index y bytes maxL none wsm rm mc ms 0 ∧ y.name = "<init>" ∧ (Cond.instanceMethod y).before args s = true)
    (hK : va_K D vwCl (TY ca) s) (hP : va_P D vwCl ws H) (hN : NW s) (hZ : ZS zz A s s.heap) (hA : ∀ q, s.heap.size ≤ q → A q) (hD : va_D A ws) (hS : va_S A s.heap H locs) (j : Nat) (hj : ws[j]? = some (b, .inr (ci, fs))) (is : List Nat) (hR : is.map (fun i => ws[i]?) = wr.map some) (hnd : va_nd is = true) (hdis : ∀ i ∈ is, i ∉ [j])
    (hsz : ls.size = nL) (hst : st0 = .ref b :: rest) (hW : (rest.map fun v => v.category).sum ≤ 8) (hdg : decode cc pc = .ok (.invokespecial index, 3)) (hcr : cells + mc ≤ R.cells ∧ slots + ms ≤ R.slots)
    (kk : ∀ (q : Nat → Nat) (H1 : Heap) (locs1 : List Loc), va_P D vwCl (wr ++ wN q) H1 → va_D A (wr ++ wN q) → va_S A s.heap H1 locs1 → W p l e R s m args below meth c H1 locs1 (cells + mc) (slots + ms) Q (F0 m (pc + 3) ls rest)) : W p l e R s m args below meth c H locs cells slots Q (F0 m pc ls st0) := by
  have hj1 : [j].map (fun i => ws[i]?) = [((b, .inr (ci, fs)) : Nat × va_E)].map some := by simp [hj]
  have hFc := va_free (wc := [(b, .inr (ci, fs))]) hD hS hA [j] hj1
  refine va_callv (va_runI (As := []) (rest := rest) S hM cw ⟨PR_blind, pr_mk (va_P_pick hP hj1) hK (hD.sub [j] rfl hj1) hN hZ hS hFc⟩ rfl rfl hsz hst (lv_room hW) hdg hcr) hS (fun q _ h => hFc q h) hFc (fun u t H1 locs1 ht hvm hw hB hz1 hk1 hS1 => ?_)
  obtain ⟨hP1, -, hD1⟩ := hB
  rw [ht] at hP1
  obtain ⟨g1, g2⟩ := va_join hP hD [j] is hj1 hR hnd hdis hk1 hFc hP1 hD1
  exact kk u H1 locs1 g1 g2 hS1
theorem xInN {wN : (Nat → Nat) → va_W} {wr : va_W} {mc ms : Nat} (S : CallFix p m c cc nL s args Ts own) (hM : Met l y wsm rm (PR D ca zz [.ref b] H.size [(b, .inr (ci, fs))]) (QN D ca wN (va_A [(b, .inr (ci, fs))] H.size)) mc ms (va_A [(b, .inr (ci, fs))] H.size)) (cw : va_CN R s args own index y "NoiseWatch" bytes maxL none wsm rm mc ms 0 ∧ y.name = "<init>" ∧ (Cond.instanceMethod y).before args s = true)
    (hK : va_K D vwCl (TY ca) s) (hP : va_P D vwCl ws H) (hN : NW s) (hZ : ZS zz A s s.heap) (hA : ∀ q, s.heap.size ≤ q → A q) (hD : va_D A ws) (hS : va_S A s.heap H locs) (j : Nat) (hj : ws[j]? = some (b, .inr (ci, fs))) (is : List Nat) (hR : is.map (fun i => ws[i]?) = wr.map some) (hnd : va_nd is = true) (hdis : ∀ i ∈ is, i ∉ [j])
    (hsz : ls.size = nL) (hst : st0 = .ref b :: rest) (hW : (rest.map fun v => v.category).sum ≤ 8) (hdg : decode cc pc = .ok (.invokespecial index, 3)) (hcr : cells + mc ≤ R.cells ∧ slots + ms ≤ R.slots)
    (kk : ∀ (q : Nat → Nat) (H1 : Heap) (locs1 : List Loc), va_P D vwCl (wr ++ wN q) H1 → va_D A (wr ++ wN q) → va_S A s.heap H1 locs1 → W p l e R s m args below meth c H1 locs1 (cells + mc) (slots + ms) Q (F0 m (pc + 3) ls rest)) : W p l e R s m args below meth c H locs cells slots Q (F0 m pc ls st0) := by
  have hj1 : [j].map (fun i => ws[i]?) = [((b, .inr (ci, fs)) : Nat × va_E)].map some := by simp [hj]
  have hFc := va_free (wc := [(b, .inr (ci, fs))]) hD hS hA [j] hj1
  refine va_callv (va_runIN (As := []) (rest := rest) S hM cw ⟨PR_blind, pr_mk (va_P_pick hP hj1) hK (hD.sub [j] rfl hj1) hN hZ hS hFc⟩ rfl rfl hsz hst (lv_room hW) hdg hcr) hS (fun q _ h => hFc q h) hFc (fun u t H1 locs1 ht hvm hw hB hz1 hk1 hS1 => ?_)
  obtain ⟨hP1, -, hD1⟩ := hB
  rw [ht] at hP1
  obtain ⟨g1, g2⟩ := va_join hP hD [j] is hj1 hR hnd hdis hk1 hFc hP1 hD1
  exact kk u H1 locs1 g1 g2 hS1
theorem xclone (hx : p.tables.exec = Jvm.exec) (hb : c.code = cc) (hml : c.maxLocals = ls.size) (hown : s.vm.findClass own = some m.cls)
    (hlink : (Cond.methodLink own index ⟨"[I", "clone", "()Ljava/lang/Object;"⟩).before args s = true) (hsame : (Cond.sameMethod "[I" "java/lang/Object" "clone" "()Ljava/lang/Object;").before args s = true)
    (hnat : (Cond.native ⟨"java/lang/Object", "clone", "()Ljava/lang/Object;"⟩).before args s = true) (hinst : (Cond.instanceMethod ⟨"java/lang/Object", "clone", "()Ljava/lang/Object;"⟩).before args s = true)
    (hsel : (Cond.selects "[I" ⟨"[I", "clone", "()Ljava/lang/Object;"⟩ ⟨"java/lang/Object", "clone", "()Ljava/lang/Object;"⟩).before args s = true) (hcl : va_Nw (.castable "[I" "java/lang/Cloneable") s)
    (hK : va_K D vwCl (TY ca) s) (hP : va_P D vwCl ws H) (hD : va_D A ws) (hS : va_S A s.heap H locs) (hA : ∀ q, s.heap.size ≤ q → A q) {a : Nat} {f : Nat → Int32} (hT : va_T .int a 9 (fun j => .int (f j)) A s s.heap) (hC : ZC a s s.heap)
    (hframes : 1 ≤ R.frames) (hlocals : (rest.map fun v => v.category).sum + 14 ≤ R.locals) (hcells : cells + 1 ≤ R.cells) (hslots : slots + 9 ≤ R.slots) (hdg : decode cc pc = .ok (.invokevirtual index, 3))
    (kk : ∀ (q : Nat) (H1 : Heap), va_P D vwCl (ws ++ [(q, .inl (ca 0, 9, .inl f))]) H1 → va_D A (ws ++ [(q, .inl (ca 0, 9, .inl f))]) → va_S A s.heap H1 locs →
      W p l e R s m args below meth c H1 locs (cells + 1) (slots + 9) Q (F0 m (pc + 3) ls (.ref q :: rest))) : W p l e R s m args below meth c H locs cells slots Q (F0 m pc ls (.ref a :: rest)) := by
  obtain ⟨cell, c1, c2, c3, -, -, c4, c5⟩ := hT
  obtain ⟨cell', d1, d2, d3⟩ := hC
  rw [c1] at d1
  cases d1
  have hnm : s.vm.findClass "[I" = some (ca 0) := (hK.2 0 _ rfl).2
  have hcc : cell.cls = ca 0 := by rw [hnm] at d3; exact (Option.some.inj d3).symm
  have hcellE : ({ cls := cell.cls, slots := cell.slots } : Cell) = vp_cell (ca 0) (9, .inl f) := by
    rw [hcc]
    show ({ cls := ca 0, slots := cell.slots } : Cell) = arrV (ca 0) 9 (fun j => .int (f j))
    have : cell.slots = (arrV (ca 0) 9 (fun j => .int (f j))).slots := by
      apply Array.ext
      · rw [arrV_size]; exact d2
      · intro i h1 h2
        have h3 : i < 9 := by rw [← d2]; exact h1
        have h4 := c4 i h3
        rw [Array.getElem?_eq_getElem h1] at h4
        rw [Option.some.inj h4]
        simp [arrV]
    rw [this]
    rfl
  obtain ⟨c0, t0', f1, f2, f3⟩ := Cond.castable_spec (va_Nw.use (A := args) rfl hcl)
  cases hnm.symm.trans f1
  intro T hT' X
  have hcellT : T.heap[a]? = some cell := by rw [hT', hS.2.1 a (Array.getElem?_eq_some_iff.mp c1).1 c5]; exact c1
  obtain ⟨-, kA, hkA, comp, hkind⟩ := State.isArrayOf_alike X.warmed.alike ((hK.2 0 _ rfl).1 0 (fun _ => .null))
  obtain ⟨-, kS, hkS, compS, hkindS⟩ := (hK.2 0 _ rfl).1 0 (fun _ => .null)
  obtain ⟨vm', X', st⟩ := X.cloneArray hx hown hlink hsame hnat hinst hsel (a := a) (cell := cell) hcellT c2.1 c3 d3 f2 (by rw [hcc]; exact f3)
    (fun i v hv => by
      rw [hcc]
      have hk' : T.vm.classes[ca 0]? = some kA := hkA
      have hi : i < 9 := by rw [← d2]; exact (Array.getElem?_eq_some_iff.mp hv).1
      rw [c4 i hi] at hv
      cases hv
      simp [State.fitsSlot, State.slotType?, hk', hkind, fits])
    (g := F0 m pc ls (.ref a :: rest)) rfl (by rw [hml]) rfl (by rw [hb]; exact hdg) hframes (by show 2 * 0 + _ + 14 ≤ _; omega) hcells (by rw [d2]; exact hslots) (hloader := by rw [hcc]; exact Vm.clonesLoader_of_array hkS hkindS)
  rw [hcellE, d2] at X'
  generalize hH1 : H.push (vp_cell (ca 0) (9, .inl f)) = H1
  have z1 : H1.size = H.size + 1 := by rw [← hH1, Array.size_push]
  have e1 : H1[H.size]? = some (vp_cell (ca 0) (9, .inl f)) := by rw [← hH1, Array.getElem?_push_size]
  have o1 : ∀ q : Nat, q < H.size → H1[q]? = H[q]? := fun q hq => by rw [← hH1, Array.getElem?_push, if_neg (Nat.ne_of_lt hq)]
  have hk : ∀ (k : Nat) (y : Nat × va_E), ws[k]? = some y → H1[y.1]? = H[y.1]? := fun k y hy => o1 y.1 ((hP k y hy).lt)
  obtain ⟨t, b1, b2⟩ := kk H.size H1 ((hP.kept hk).app (fun k x hx => by
      rcases k with _ | k
      · cases hx; exact e1
      · simp at hx)) (hD.push hP rfl (hA _ hS.1)) ⟨Nat.le_trans hS.1 (by omega), fun x h1 h2 => (o1 x (Nat.lt_of_lt_of_le h1 hS.1)).trans (hS.2.1 x h1 h2), hS.2.2⟩ ((T.setVm vm').pushCell (vp_cell (ca 0) (9, .inl f))) (by rw [← hH1, ← hT']; rfl) X'
  refine ⟨t, st t ?_, b2⟩
  rw [hcellE, hT']
  exact b1
end LIBN
