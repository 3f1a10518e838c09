abbrev QIo (D : va_G) (ca : Nat → ClassId) (ro : Option Int32) (ws : va_W) (A : Nat → Prop) : Array Value → State → Outcome → State → Prop := va_Qi (fun (r' : Int32) (_ : Unit) => ro = some r') (fun _ t => va_P D vwCl ws t.heap ∧ va_K D vwCl (TY ca) t ∧ va_D A ws) A
abbrev QXo (D : va_G) (ca : Nat → ClassId) (ro : Option Int32) (ws : va_W) (A : Nat → Prop) : String → State → State → Prop := vx_X (fun (_ : Unit) => ro = none) (fun E _ t => E = "java/util/NoSuchElementException" ∧ va_P D vwCl ws t.heap ∧ va_K D vwCl (TY ca) t ∧ va_D A ws) A
section LIBT
variable {p : Program} {l : Launch} {e : Env} {R : Room} {s : State} {m : MethodId} {args : Array Value} {below : List Frame} {meth : Method} {c : Code} {H : Heap} {locs : List Loc} {cells slots : Nat} {Q : State → Prop} {A : Nat → Prop} {D : va_G} {ca : Nat → ClassId} {zz : Nat → Nat} {cc bytes : ByteArray} {pc : Nat} {ls : Array Slot} {rest st0 As : List Value}
variable {nL maxL n index ci N : Nat} {Ts wsm : List Cond} {own C : String} {y : MethodName} {ret : Option FieldType} {rm : Room} {b : Nat} {wc wn ws wx : va_W} {T : u_T} {fs : List Value} {ρ : Type} {r0 : ρ}
theorem enx {wsm ws' : List Cond} {av : List Value} {sz mc ms : Nat} {ws : va_W} {Qf : (Nat → Prop) → Array Value → State → Outcome → State → Prop} {Xf : (Nat → Prop) → String → State → State → Prop} (hy : plainName y.cls = true) (hw : wsm = Cond.code y cc maxL ret :: ws') (hlen : (lg_sl av).length ≤ maxL)
    (body : ∀ (p : Program) (e : Env) (s : State) (m : MethodId) (args : Array Value) (below : List Frame) (meth : Method) (c : Code) (A : Nat → Prop) (Q : State → Prop) (ls : Array Slot),
      p.tables.exec = Jvm.exec → c.code = cc → meth.sig.returnType = ret → c.maxLocals = maxL → s.vm.findClass y.cls = some m.cls → (∀ w ∈ wsm, w.before args s = true) → meth.locks = false → (∀ x ∈ c.exceptionTable.toList, False) →
      (∀ q : Nat, s.heap.size ≤ q → A q) → NW s → ZS zz A s s.heap → va_K D vwCl (TY ca) s → Q = vx_MQ below (Qf A) (Xf A) args s mc ms A → va_P D vwCl ws s.heap → va_D A ws → va_S A s.heap s.heap [] → lv_has ls maxL (lv_args 0 av) →
      W p l e rm s m args below meth c s.heap [] 0 0 Q (F0 m 0 ls [])) :
    vx_Met l y wsm rm (PR D ca zz av sz ws) (Qf (va_A ws sz)) (Xf (va_A ws sz)) mc ms (va_A ws sz) := by
  refine vx_ofW (cc := cc) (maxL := maxL) (ret := ret) hy hw ?_
  intro p e s m args below meth c s₁ B hml ht hv
  obtain ⟨rfl, hsz, hP, hK, hD0, hN, hZ⟩ := hv
  subst hsz
  have hl := lv_entry av (n := maxL) hlen
  rw [lg_entry_eq]
  exact body p e s m _ below meth c (va_A ws s.heap.size) _ _ B.exec B.bytes B.returns hml (findClass_of_methodNamed B.named) (atoms_spec (ws := wsm) B.pre) B.notSynchronized ht (fun q h => Or.inr h) hN hZ hK rfl hP (hD0.self (sz := s.heap.size)) va_S.rf hl
theorem rt_Io {ro : Option Int32} {v : Int32} {mc ms : Nat} (hx : p.tables.exec = Jvm.exec) (hb : c.code = cc) (hr : meth.sig.returnType = some .int) (hlocks : meth.locks = false) (hK : va_K D vwCl (TY ca) s) (hP : va_P D vwCl ws H) (hD : va_D A ws) (hS : va_S A s.heap H locs) (hQ : Q = vx_MQ below (QIo D ca ro wn A) (QXo D ca ro wn A) args s mc ms A) (ev : ro = some v) (ew : ws = wn) (hc : cells ≤ mc) (hs : slots ≤ ms) (hdg : decode cc pc = .ok (.ireturn, 1)) : W p l e R s m args below meth c H locs cells slots Q (F0 m pc ls [.int v]) := by
  subst ew; subst hQ
  refine vx_ret ?_
  refine W.widen (k := mc) (n := ms) hc hs ?_
  exact W.iret hx hb hr (fun t ht hW => ⟨⟨v, (), rfl, ev, by rw [ht]; exact hP, va_K.moved hW.alike hK, hD⟩, hS.F ht⟩) hS.2.2 hdg
theorem xthrow {ro : Option Int32} {mc ms : Nat} (hx : p.tables.exec = Jvm.exec) (hb : c.code = cc) (hl : l.stackTraces = false) (hown : s.vm.findClass RX11 = some m.cls) (hk : (Cond.classLink RX11 154 "java/util/NoSuchElementException").before args s = true) (hini : (Cond.initialized "java/util/NoSuchElementException").before args s = true) (hN : NW s) (hZ : ZS zz A s s.heap) (hK : va_K D vwCl (TY ca) s) (hP : va_P D vwCl ws H) (hD : va_D A ws) (hS : va_S A s.heap H locs) (hA : ∀ q, s.heap.size ≤ q → A q) (hQ : Q = vx_MQ below (QIo D ca ro wn A) (QXo D ca ro wn A) args s mc ms A) (er : ro = none) (ew : ws = wn) (hsize : ls.size = c.maxLocals) (ht : ∀ x ∈ c.exceptionTable.toList, False) (hlocks : meth.locks = false)
    (d0 : decode cc pc = .ok (.new 154, 3)) (d3 : decode cc (pc + 3) = .ok (.dup, 1)) (d4 : decode cc (pc + 4) = .ok (.invokespecial 156, 3)) (d7 : decode cc (pc + 7) = .ok (.athrow, 1))
    (hRframes : 2 + 3 < R.frames) (hRlocals : (rest.map fun v => v.category).sum + (13 * (2 + 1) + 42) ≤ R.locals) (hRcells : cells + 1 ≤ R.cells) (hRslots : slots + 6 ≤ R.slots) (hc : cells + 1 ≤ mc) (hs : slots + 6 ≤ ms) : W p l e R s m args below meth c H locs cells slots Q (F0 m pc ls rest) := by
  subst ew; subst hQ
  refine vx_throw0 (own := RX11) (cls := "java/util/NoSuchElementException") (names := ["java/lang/RuntimeException", "java/lang/Exception"]) (ik := 154) (ic := 156) hx hb hl hown (by decide +kernel) (by decide +kernel) hk hini (fun w hw => ?_) (by decide +kernel) hZ.2.2.2.1.1 hZ.2.2.2.1.2 hS hsize d0 d3 d4 d7 (fun x hx => absurd hx (fun h => ht x h)) hRframes hRlocals hRcells hRslots hlocks (fun t hvm hz hq => ?_) hS.2.2 hc hs
  · have h1 := List.all_eq_true.mp atL_ok w hw
    have h2 := hN.2.2.2 w hw
    have h3 : w.onTables = true := by
      rcases Bool.or_eq_true _ _ ▸ h1 with h3 | h3
      · exact (Bool.and_eq_true _ _ ▸ h3 : _ ∧ _).1
      · cases w <;> first | rfl | cases h3
    exact va_Nw.use h3 h2
  · refine ⟨(), er, ⟨rfl, hP.kept (fun k x hx => hq x.1 (hP k x hx).lt), va_K.moved hvm hK, hD⟩, Nat.le_trans hS.1 hz, fun q h1 h2 => ?_⟩
    rw [hq q (Nat.lt_of_lt_of_le h1 hS.1)]
    exact hS.2.1 q h1 h2
theorem rt_Zm {v r : Int32} {mc ms : Nat} (hx : p.tables.exec = Jvm.exec) (hb : c.code = cc) (hr : meth.sig.returnType = some .boolean) (hlocks : meth.locks = false) (hK : va_K D vwCl (TY ca) s) (hP : va_P D vwCl ws H) (hD : va_D A ws) (hS : va_S A s.heap H locs) (hQ : Q = MQ below (QI D ca r wn A) args s mc ms A) (hv : v = 0 ∨ v = 1) (ev : v = r) (ew : ws = wn) (hc : cells ≤ mc) (hs : slots ≤ ms) (hdg : decode cc pc = .ok (.ireturn, 1)) : W p l e R s m args below meth c H locs cells slots Q (F0 m pc ls [.int v]) := by
  subst ev; subst ew; subst hQ
  refine W.widen (k := mc) (n := ms) hc hs ?_
  exact W.zret hx hb hr (by rcases hv with h | h <;> (rw [h]; rfl)) (fun t ht hW => ⟨⟨v, (), rfl, rfl, by rw [ht]; exact hP, va_K.moved hW.alike hK, hD⟩, hS.F ht⟩) hS.2.2 hdg
def chknull {ρ : Type} (o : Option Nat) (k : Option ρ) : Option ρ := match o with
  | none => k
  | some _ => none
theorem chknull_el {ρ : Type} {o : Option Nat} {k : Option ρ} {r : ρ} (h : chknull o k = some r) : o = none ∧ k = some r := by
  cases o with
  | none => exact ⟨rfl, h⟩
  | some a => cases h
theorem xaldn (hx : p.tables.exec = Jvm.exec) (hb : c.code = cc) (hK : va_K D vwCl (TY ca) s) (hP : va_P D vwCl ws H) (q0 : Nat) {a n : Nat} {f : Nat → Option Nat} (ha : ws[q0]? = some (a, .inl (ca 4, n, .inr (.inr (.inr (.inr f)))))) {i : Int32} {kx : Option ρ} (hf : chkin i n (chknull (f i.toNatClampNeg) kx) = some r0) (hdg : decode cc pc = .ok (.aaload, 1)) (kk : f i.toNatClampNeg = none → kx = some r0 → W p l e R s m args below meth c H locs cells slots Q (F0 m (pc + 1) ls (.null :: rest))) : W p l e R s m args below meth c H locs cells slots Q (F0 m pc ls (.int i :: .ref a :: rest)) := by
  obtain ⟨h1, h2⟩ := chkin_el hf
  obtain ⟨h3, h4⟩ := chknull_el h2
  refine va_aldq hx hb hK hP q0 4 ha rfl h1 hdg ?_
  rw [h3]
  exact kk h3 h4
end LIBT
