theorem gIL {k : Cond} (h5 : k ∈ GL) : GoodIn lw_tbl (k :: GL) := fun w h => (List.mem_cons.mp h).elim (fun e => e ▸ GL_good h5) (fun h => GL_good h)
theorem gVL {k : Cond} {own C : String} {idx : Nat} {y : MethodName} (h1 : Cond.methodLink own idx y ∈ GL) (h2 : Cond.instanceMethod y ∈ GL) (h3 : Cond.selects C y y ∈ GL) (h4 : Cond.initialized C ∈ GL) (h5 : k ∈ GL) : GoodIn lw_tbl (wsV own idx C y (k :: GL)) := by
  intro w h
  rcases List.mem_append.mp h with h | h
  · rcases List.mem_cons.mp h with h | h
    · rw [h]; exact GL_good h1
    rcases List.mem_cons.mp h with h | h
    · rw [h]; exact GL_good h2
    rcases List.mem_cons.mp h with h | h
    · rw [h]; exact GL_good h3
    rcases List.mem_cons.mp h with h | h
    · rw [h]; exact GL_good h4
    · exact absurd h List.not_mem_nil
  · exact gIL h5 w h
theorem gSL {k : Cond} {own : String} {idx : Nat} {y : MethodName} (h1 : Cond.methodLink own idx y ∈ GL) (h2 : Cond.static y ∈ GL) (h4 : Cond.initialized y.cls ∈ GL) (h5 : k ∈ GL) : GoodIn lw_tbl (va_wsS own idx y (k :: GL)) := by
  intro w h
  rcases List.mem_append.mp h with h | h
  · rcases List.mem_cons.mp h with h | h
    · rw [h]; exact GL_good h1
    rcases List.mem_cons.mp h with h | h
    · rw [h]; exact GL_good h2
    rcases List.mem_cons.mp h with h | h
    · rw [h]; exact GL_good h4
    · exact absurd h List.not_mem_nil
  · exact gIL h5 w h
section LIBL
variable {p : Program} {l : Launch} {e : Env} {R : Room} {s : State} {m : MethodId} {args : Array Value} {below : List Frame} {meth : Method} {c : Code} {H : Heap} {locs : List Loc} {cells slots : Nat} {Q : State → Prop} {A : Nat → Prop} {D : va_G} {ca : Nat → ClassId} {zz : Nat → Nat} {cc bytes : ByteArray} {pc : Nat} {ls : Array Slot} {rest st0 As : List Value}
variable {nL maxL n index ci N : Nat} {Ts wsm : List Cond} {own C : String} {y : MethodName} {ret : Option FieldType} {rm : Room} {b : Nat} {wc wn ws wx : va_W} {T : u_T} {fs : List Value} {ρ : Type} {r0 : ρ}
theorem met_of_vx {Pc : Array Value → State → Prop} {Qc : Array Value → State → Outcome → State → Prop} {mc ms : Nat} {free : Addr → Prop} (h : vx_Met l y wsm rm Pc Qc (fun _ _ _ => False) mc ms free) : Met l y wsm rm Pc Qc mc ms free := by
  intro p e h1 h2 h3 s m args below h4 h5 h6 h7
  obtain ⟨n, o, g1, g2, g3, g4⟩ := h p e h1 h2 h3 s m args below h4 h5 h6 h7
  refine ⟨n, o, g1, g2, g3, ?_⟩
  rcases g4 with g | ⟨q, -, E, ce, L, hx, -⟩
  · exact g
  · exact hx.elim
theorem enh {wsm ws' : List Cond} {hh : List (Nat × Nat × Nat × Nat)} {av : List Value} {sz mc ms : Nat} {ws : va_W} {Qf : (Nat → Prop) → Array Value → State → Outcome → State → Prop} (hy : plainName y.cls = true) (hw : wsm = Cond.codeWith y cc maxL ret hh :: ws') (hlen : (lg_sl av).length ≤ maxL)
    (body : ∀ (p : Program) (e : Env) (s : State) (m : MethodId) (args : Array Value) (below : List Frame) (meth : Method) (c : Code) (A : Nat → Prop) (Q : State → Prop) (ls : Array Slot),
      p.tables.exec = Jvm.exec → c.code = cc → meth.sig.returnType = ret → c.maxLocals = maxL → s.vm.findClass y.cls = some m.cls → (∀ w ∈ wsm, w.before args s = true) → meth.locks = false → c.exceptionTable.toList = tableOf hh →
      (∀ q : Nat, s.heap.size ≤ q → A q) → NW s → ZS zz A s s.heap → va_K D vwCl (TY ca) s → Q = MQ below (Qf A) args s mc ms A → va_P D vwCl ws s.heap → va_D A ws → va_S A s.heap s.heap [] → lv_has ls maxL (lv_args 0 av) →
      W p l e rm s m args below meth c s.heap [] 0 0 Q (F0 m 0 ls [])) :
    Met l y wsm rm (PR D ca zz av sz ws) (Qf (va_A ws sz)) mc ms (va_A ws sz) := by
  refine met_of_vx (vx_ofWH (cc := cc) (maxL := maxL) (ret := ret) (hh := hh) hy hw ?_)
  intro p e s m args below meth c s₁ B hml hv
  obtain ⟨rfl, hsz, hP, hK, hD0, hN, hZ⟩ := hv
  subst hsz
  have hl := lv_entry av (n := maxL) hlen
  rw [lg_entry_eq]
  refine vx_ret ?_
  exact body p e s m _ below meth c (va_A ws s.heap.size) _ _ B.exec B.bytes B.returns hml (findClass_of_methodNamed B.named) (atoms_spec (ws := wsm) B.pre) B.notSynchronized (vx_table (x := y) B (atoms_spec (ws := wsm) B.pre _ (by rw [hw]; exact List.mem_cons_self))) (fun q h => Or.inr h) hN hZ hK rfl hP (hD0.self (sz := s.heap.size)) va_S.rf hl
theorem xVX {ro : Option Int32} {mc ms : Nat} (S : CallFix p m c cc nL s args Ts own) (hM : vx_Met l y wsm rm (PR D ca zz (.ref b :: As) H.size wc) (QIo D ca ro wn (va_A wc H.size)) (QXo D ca ro wn (va_A wc H.size)) mc ms (va_A wc H.size)) (cw : CallW R s args own C index y bytes maxL ret wsm rm mc ms n)
    (hK : va_K D vwCl (TY ca) s) (hN : NW s) (hZ : ZS zz A s s.heap) (hA : ∀ q, s.heap.size ≤ q → A q) (hP : va_P D vwCl ws H) (hD : va_D A ws) (hS : va_S A s.heap H locs) (is : List Nat) (pm : List (Option Nat)) (hm : wmOK pm is = true) (hC : is.map (fun i => ws[i]?) = wc.map some) (hnd : va_nd is = true) (hf : wn.map Prod.fst = wc.map Prod.fst)
    (hc : vwCl[ci]? = some (C, T, N)) (q0 : Nat) (he : ws[q0]? = some (b, .inr (ci, fs))) (hn : As.length = n) (hsz : ls.size = nL) (hst : st0 = As.reverse ++ .ref b :: rest) (hW : (rest.map fun v => v.category).sum ≤ 8) (hdg : decode cc pc = .ok (.invokevirtual index, 3)) (hcr : cells + mc ≤ R.cells ∧ slots + ms ≤ R.slots) (ew : wmk ws pm wn = wx)
    (kx : ∀ (ce : Cell) (q9 : Addr) (H1 : Heap) (locs1 : List Loc), ro = none → va_P D vwCl wx H1 → va_D A wx → va_S A s.heap H1 locs1 → H1[q9]? = some ce → ce.vm = .none → s.vm.findClass "java/util/NoSuchElementException" = some ce.cls → vx_W p l e R s m args below meth c H1 locs1 (cells + mc) (slots + ms) Q (F0 m pc ls rest) q9)
    (kk : ∀ (r : Int32) (H1 : Heap) (locs1 : List Loc), ro = some r → va_P D vwCl wx H1 → va_D A wx → va_S A s.heap H1 locs1 → W p l e R s m args below meth c H1 locs1 (cells + mc) (slots + ms) Q (F0 m (pc + 3) ls (.int r :: rest))) : W p l e R s m args below meth c H locs cells slots Q (F0 m pc ls st0) := by
  subst ew
  have hFc := va_free (wc := wc) hD hS hA is hC
  refine vx_calli (vx_runV (As := As) (rest := rest) S hM cw ⟨PR_blind, va_recv hK hP hc he, pr_mk (va_P_pick hP hC) hK (hD.sub is hnd hC) hN hZ hS hFc⟩ rfl hn hsz hst (lv_room hW) hdg hcr) hS (fun q _ h => hFc q h) hFc (fun q _ h => hFc q h) (fun E ce q9 u t H1 locs1 ht hvm hpx hB hz1 hk1 hS1 hce hcv hcl => ?_) (fun r u t H1 locs1 ht hvm hw hB hz1 hk1 hS1 => ?_)
  · obtain ⟨hE, hP1, -, -⟩ := hB
    subst hE
    rw [ht] at hP1
    obtain ⟨g1, g2⟩ := wmk_P hP hD is pm hm hC hf hk1 hP1
    exact kx ce q9 H1 locs1 hpx g1 g2 hS1 hce hcv hcl
  · obtain ⟨hP1, -, -⟩ := hB
    rw [ht] at hP1
    obtain ⟨g1, g2⟩ := wmk_P hP hD is pm hm hC hf hk1 hP1
    exact kk r H1 locs1 hw g1 g2 hS1
theorem xImg {wr : va_W} {mc ms : Nat} {r : Int32} (S : CallFix p m c cc nL s args Ts own) (hM : Met l y wsm rm (PR D ca zz (.ref b :: As) H.size wc) (QI D ca r [] (va_A wc H.size)) mc ms (va_A wc H.size)) (cw : CallW R s args own C index y bytes maxL ret wsm rm mc ms n)
    (hK : va_K D vwCl (TY ca) s) (hN : NW s) (hZ : ZS zz A s s.heap) (hA : ∀ q, s.heap.size ≤ q → A q) (hP : va_P D vwCl ws H) (hD : va_D A ws) (hS : va_S A s.heap H locs) (is isR : List Nat) (hC : is.map (fun i => ws[i]?) = wc.map some) (hnd : va_nd is = true) (hR : isR.map (fun i => ws[i]?) = wr.map some) (hndR : va_nd isR = true) (hdis : ∀ i ∈ isR, i ∉ is)
    (hc : vwCl[ci]? = some (C, T, N)) (q0 : Nat) (he : ws[q0]? = some (b, .inr (ci, fs))) (hn : As.length = n) (hsz : ls.size = nL) (hst : st0 = As.reverse ++ .ref b :: rest) (hW : (rest.map fun v => v.category).sum ≤ 8) (hdg : decode cc pc = .ok (.invokevirtual index, 3)) (hcr : cells + mc ≤ R.cells ∧ slots + ms ≤ R.slots)
    (kk : ∀ (H1 : Heap) (locs1 : List Loc), va_P D vwCl (wr ++ []) H1 → va_D A (wr ++ []) → va_S A s.heap H1 locs1 → W p l e R s m args below meth c H1 locs1 (cells + mc) (slots + ms) Q (F0 m (pc + 3) ls (.int r :: rest))) : W p l e R s m args below meth c H locs cells slots Q (F0 m pc ls st0) := by
  have hFc := va_free (wc := wc) hD hS hA is hC
  refine va_calli (va_runV (As := As) (rest := rest) S hM cw ⟨PR_blind, va_recv hK hP hc he, pr_mk (va_P_pick hP hC) hK (hD.sub is hnd hC) hN hZ hS hFc⟩ rfl hn hsz hst (lv_room hW) hdg hcr) hS (fun q _ h => hFc q h) hFc (fun r' u t H1 locs1 ht hvm hw hB hz1 hk1 hS1 => ?_)
  obtain ⟨hP1, -, hD1⟩ := hB
  rw [ht] at hP1
  obtain ⟨g1, g2⟩ := va_join hP hD is isR hC hR hndR hdis hk1 hFc hP1 hD1
  subst hw
  exact kk H1 locs1 g1 g2 hS1
theorem xSWm {hh : List (Nat × Nat × Nat × Nat)} {mc ms : Nat} {r : Int32} (S : CallFix p m c cc nL s args Ts own) (hM : Met l y wsm rm (PR D ca zz As H.size wc) (QI D ca r wn (va_A wc H.size)) mc ms (va_A wc H.size)) (cw : vx_CSW R s args own index y bytes maxL ret hh wsm rm mc ms n)
    (hK : va_K D vwCl (TY ca) s) (hN : NW s) (hZ : ZS zz A s s.heap) (hA : ∀ q, s.heap.size ≤ q → A q) (hP : va_P D vwCl ws H) (hD : va_D A ws) (hS : va_S A s.heap H locs) (is : List Nat) (pm : List (Option Nat)) (hm : wmOK pm is = true) (hC : is.map (fun i => ws[i]?) = wc.map some) (hnd : va_nd is = true) (hf : wn.map Prod.fst = wc.map Prod.fst)
    (hn : As.length = n) (hsz : ls.size = nL) (hst : st0 = As.reverse ++ rest) (hW : (rest.map fun v => v.category).sum ≤ 8) (hdg : decode cc pc = .ok (.invokestatic index, 3)) (hcr : cells + mc ≤ R.cells ∧ slots + ms ≤ R.slots) (ew : wmk ws pm wn = wx)
    (kk : ∀ (H1 : Heap) (locs1 : List Loc), va_P D vwCl wx H1 → va_D A wx → va_S A s.heap H1 locs1 → W p l e R s m args below meth c H1 locs1 (cells + mc) (slots + ms) Q (F0 m (pc + 3) ls (.int r :: rest))) : W p l e R s m args below meth c H locs cells slots Q (F0 m pc ls st0) := by
  subst ew
  have hFc := va_free (wc := wc) hD hS hA is hC
  refine va_calli (vx_runSW (As := As) (rest := rest) S hM cw ⟨PR_blind, pr_mk (va_P_pick hP hC) hK (hD.sub is hnd hC) hN hZ hS hFc⟩ rfl hn hsz hst (lv_room hW) hdg hcr) hS (fun q _ h => hFc q h) hFc (fun r' u t H1 locs1 ht hvm hw hB hz1 hk1 hS1 => ?_)
  obtain ⟨hP1, -, -⟩ := hB
  rw [ht] at hP1
  obtain ⟨g1, g2⟩ := wmk_P hP hD is pm hm hC hf hk1 hP1
  subst hw
  exact kk H1 locs1 g1 g2 hS1
theorem rt_Im {v r : Int32} {mc ms : Nat} (hx : p.tables.exec = Jvm.exec) (hb : c.code = cc) (hr : meth.sig.returnType = some .int) (hlocks : meth.locks = false) (hK : va_K D vwCl (TY ca) s) (hP : va_P D vwCl ws H) (hD : va_D A ws) (hS : va_S A s.heap H locs) (hQ : Q = MQ below (QI D ca r wn A) args s mc ms A) (ev : v = r) (ew : ws = wn) (hc : cells ≤ mc) (hs : slots ≤ ms) (hdg : decode cc pc = .ok (.ireturn, 1)) : W p l e R s m args below meth c H locs cells slots Q (F0 m pc ls [.int v]) := by
  subst ev; subst ew; subst hQ
  refine W.widen (k := mc) (n := ms) hc hs ?_
  exact W.iret hx hb hr (fun t ht hW => ⟨⟨v, (), rfl, rfl, by rw [ht]; exact hP, va_K.moved hW.alike hK, hD⟩, hS.F ht⟩) hS.2.2 hdg
end LIBL

