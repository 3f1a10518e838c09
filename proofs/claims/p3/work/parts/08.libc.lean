def nwL : List Cond := [.fieldLinkNest RX7 9 "NoiseWatch" "FIRST" "[I" "NoiseWatch", .fieldLinkNest RX5 56 "NoiseWatch$Settings" "stuckCount" "I" "NoiseWatch", .fieldLinkNest RX11 95 "NoiseWatch$Settings" "stuckCount" "I" "NoiseWatch", .fieldLinkNest RX10 149 "NoiseWatch$Settings" "stuckCount" "I" "NoiseWatch", .fieldLinkNest RX10 191 "NoiseWatch$Odds" "repeats" "I" "NoiseWatch", .fieldLinkNest RX11 138 "NoiseWatch$Odds" "repeats" "I" "NoiseWatch", .fieldLinkNest RX10 194 "NoiseWatch$Odds" "proportion" "I" "NoiseWatch", .fieldLinkNest RX11 141 "NoiseWatch$Odds" "proportion" "I" "NoiseWatch", .fieldLinkNest RX10 197 "NoiseWatch$Odds" "changes" "I" "NoiseWatch", .fieldLinkNest RX11 144 "NoiseWatch$Odds" "changes" "I" "NoiseWatch", .fieldLinkNest RX10 152 "NoiseWatch$Source" "drawn" "I" "NoiseWatch", .fieldLinkNest RX2 53 "NoiseWatch$Counts" "alike" "I" "NoiseWatch", .fieldLinkNest RX10 155 "NoiseWatch$Counts" "alike" "I" "NoiseWatch", .fieldLinkNest RX10 158 "NoiseWatch$Counts" "inWindow" "I" "NoiseWatch", .fieldLinkNest RX2 58 "NoiseWatch$Counts" "like" "I" "NoiseWatch", .fieldLinkNest RX10 161 "NoiseWatch$Counts" "like" "I" "NoiseWatch", .fieldLinkNest RX2 61 "NoiseWatch$Counts" "unlike" "I" "NoiseWatch", .fieldLinkNest RX10 164 "NoiseWatch$Counts" "unlike" "I" "NoiseWatch", .fieldLinkNest RX0 37 "NoiseWatch$Queue" "size" "I" "NoiseWatch", .fieldLinkNest RX3 55 "NoiseWatch$Queue" "size" "I" "NoiseWatch", .fieldLinkNest RX10 121 "NoiseWatch$Queue" "size" "I" "NoiseWatch", .fieldLinkNest RX11 248 "NoiseWatch$Queue" "size" "I" "NoiseWatch", .fieldLinkNest RX10 170 "NoiseWatch$Pool" "bits" "LNoiseWatch$Queue;" "NoiseWatch", .fieldLinkNest RX11 178 "NoiseWatch$Pool" "bits" "LNoiseWatch$Queue;" "NoiseWatch", .fieldLinkNest RX10 167 "NoiseWatch$Pool" "inBlock" "I" "NoiseWatch", .fieldLinkNest RX10 173 "NoiseWatch$Pool" "came" "I" "NoiseWatch", .fieldLinkNest RX10 176 "NoiseWatch$Pool" "wasted" "I" "NoiseWatch", .fieldLinkNest RX10 179 "NoiseWatch$Pool" "taken" "I" "NoiseWatch", .fieldLinkNest RX10 182 "NoiseWatch$Pool" "gone" "I" "NoiseWatch", .fieldLinkNest RX10 185 "NoiseWatch$Rows" "size" "I" "NoiseWatch", .fieldLinkNest RX5 84 "NoiseWatch$Text" "size" "I" "NoiseWatch", .fieldLinkNest RX10 186 "NoiseWatch$Text" "size" "I" "NoiseWatch", .fieldLinkNest RX11 99 "NoiseWatch$Text" "fault" "I" "NoiseWatch", .fieldLinkNest RX11 98 "NoiseWatch$Text" "place" "I" "NoiseWatch", .fieldLinkNest RX11 79 "NoiseWatch$Watch" "settings" "LNoiseWatch$Settings;" "NoiseWatch", .fieldLinkNest RX11 135 "NoiseWatch$Watch" "limits" "LNoiseWatch$Odds;" "NoiseWatch", .fieldLinkNest RX11 120 "NoiseWatch$Watch" "pool" "LNoiseWatch$Pool;" "NoiseWatch", .fieldLinkNest RX11 169 "NoiseWatch$Watch" "heard" "LNoiseWatch$Queue;" "NoiseWatch", .fieldLinkNest RX11 181 "NoiseWatch$Watch" "rows" "LNoiseWatch$Rows;" "NoiseWatch", .fieldLinkNest RX11 54 "NoiseWatch$Watch" "text" "LNoiseWatch$Text;" "NoiseWatch", .fieldLinkNest RX11 106 "NoiseWatch$Watch" "status" "I" "NoiseWatch", .fieldLinkNest RX11 103 "NoiseWatch$Watch" "starts" "I" "NoiseWatch", .fieldLinkNest RX11 83 "NoiseWatch$Reader" "draft" "LNoiseWatch$Settings;" "NoiseWatch", .fieldLinkNest RX11 68 "NoiseWatch$Reader" "fault" "I" "NoiseWatch", .fieldLinkNest RX11 72 "NoiseWatch$Reader" "place" "I" "NoiseWatch", .fieldLinkNest RX11 205 "NoiseWatch$Bounds" "above" "I" "NoiseWatch", .fieldLinkNest RX11 202 "NoiseWatch$Bounds" "below" "I" "NoiseWatch", .fieldLinkNest RX5 70 "NoiseWatch" "LEAST" "[I" "NoiseWatch", .fieldLinkNest RX5 73 "NoiseWatch" "MOST" "[I" "NoiseWatch", .methodLinkNest RX10 11 yX7_init "NoiseWatch", .methodLinkNest RX10 20 yX2_init "NoiseWatch", .methodLinkNest RX10 27 yX8_init "NoiseWatch", .methodLinkNest RX10 34 yX1_init "NoiseWatch", .methodLinkNest RX10 41 yX3_init "NoiseWatch", .methodLinkNest RX3 11 yX4_init "NoiseWatch", .methodLinkNest RX10 48 yX4_init "NoiseWatch", .methodLinkNest RX10 55 yX6_init "NoiseWatch", .methodLinkNest RX10 62 yX9_init "NoiseWatch", .methodLinkNest RX11 25 yX5_init "NoiseWatch", .methodLinkNest RX5 11 yX7_init "NoiseWatch", .methodLinkNest RX11 32 yX0_init "NoiseWatch", .methodLinkNest RX11 39 yX2_init "NoiseWatch", .methodLinkNest RX11 46 yX1_init "NoiseWatch"]
def isNest (w : Cond) : Bool := match w with
  | .fieldLinkNest _ _ _ _ _ _ => true
  | .methodLinkNest _ _ _ _ => true
  | _ => false
theorem nwL_nest : nwL.all isNest = true := by decide +kernel
def NW0 (U : State) : Prop := ∀ w ∈ nwL, va_Nw w U
theorem NW0.warm {s U : State} (hW : s.WarmedH U.vm) (h : NW0 s) : NW0 U := by
  intro w hw
  have h1 := List.all_eq_true.mp nwL_nest w hw
  have h2 := h w hw
  cases w <;> first | exact va_Nw.warmF hW h2 | exact va_Nw.warmM hW h2 | cases h1
theorem NW0.same {s U : State} (hv : s.vm = U.vm) (h : NW0 s) : NW0 U := by
  intro w hw
  have h1 := List.all_eq_true.mp nwL_nest w hw
  have h2 := h w hw
  cases w <;> first | exact va_Nw.same rfl hv h2 | cases h1
/-- the words of the throw in NoiseWatch.limit -/
def atL : List Cond := vx_at0 RX11 156 "java/util/NoSuchElementException" ["java/lang/RuntimeException", "java/lang/Exception"]
def isCast (w : Cond) : Bool := match w with
  | .castable _ _ => true
  | .declares _ => true
  | _ => false
theorem atL_ok : atL.all (fun w => (w.onTables && w.keeps) || isCast w) = true := by decide +kernel
def NWX (U : State) : Prop := ∀ w ∈ atL, va_Nw w U
theorem NWX.warm {s U : State} (hW : s.WarmedH U.vm) (h : NWX s) : NWX U := by
  intro w hw
  have h1 := List.all_eq_true.mp atL_ok w hw
  have h2 := h w hw
  rcases Bool.or_eq_true _ _ ▸ h1 with h3 | h3
  · exact word_at hW (Or.inl h3) h2
  · cases w <;> first | exact va_Nw.warmC hW h2 | exact va_Nw.warmD hW h2 | cases h3
theorem NWX.same {s U : State} (hv : s.vm = U.vm) (h : NWX s) : NWX U := by
  intro w hw
  have h1 := List.all_eq_true.mp atL_ok w hw
  have h2 := h w hw
  have h3 : w.onTables = true := by
    rcases Bool.or_eq_true _ _ ▸ h1 with h3 | h3
    · exact (Bool.and_eq_true _ _ ▸ h3 : _ ∧ _).1
    · cases w <;> first | rfl | cases h3
  exact va_Nw.same h3 hv h2
def NW (U : State) : Prop := NW0 U ∧ va_Nw (.castable "[I" "java/lang/Cloneable") U ∧ va_AO "NoiseWatch$Watch" U ∧ NWX U
theorem NW.warm {s U : State} (hW : s.WarmedH U.vm) (h : NW s) : NW U := ⟨h.1.warm hW, va_Nw.warmC hW h.2.1, va_AO.moved hW.alike h.2.2.1, h.2.2.2.warm hW⟩
theorem NW.same {s U : State} (hv : s.vm = U.vm) (h : NW s) : NW U := ⟨h.1.same hv, va_Nw.same rfl hv h.2.1, va_AO.moved (hv ▸ Vm.Alike.refl s.vm) h.2.2.1, h.2.2.2.same hv⟩
theorem NW.get {s : State} {w : Cond} (h : NW s) (i : Nat) (hi : nwL[i]? = some w) : va_Nw w s := h.1 w (List.mem_of_getElem? hi)
theorem NW.use {s : State} {args : Array Value} {w : Cond} (h : NW s) (i : Nat) (hi : nwL[i]? = some w) : w.before args s = true := by
  have hm := List.mem_of_getElem? hi
  have h1 := List.all_eq_true.mp nwL_nest w hm
  have h2 := h.1 w hm
  cases w <;> first | exact va_Nw.use rfl h2 | cases h1
/-- the static arrays -/
def stF : Nat → Int32 := fun j => if j = 0 then 10 else if j = 1 then 20 else if j = 2 then 15 else if j = 3 then 32 else if j = 4 then 16 else if j = 5 then 4 else if j = 6 then 8 else if j = 7 then 0 else 1
def stL : Nat → Int32 := fun j => if j = 0 then 8 else if j = 1 then 1 else if j = 2 then 4 else if j = 3 then 0 else if j = 4 then 2 else if j = 5 then 1 else if j = 6 then 0 else if j = 7 then 0 else 0
def stM : Nat → Int32 := fun j => if j = 0 then 15 else if j = 1 then 40 else if j = 2 then 15 else if j = 3 then 200 else if j = 4 then 64 else if j = 5 then 16 else if j = 6 then 16 else if j = 7 then 15 else 9999
def ZC (t : Nat) (U : State) (H : Heap) : Prop := ∃ cell : Cell, H[t]? = some cell ∧ cell.slots.size = 9 ∧ U.vm.findClass "[I" = some cell.cls
def ZS1 (n : String) (t : Nat) (f : Nat → Int32) (A : Nat → Prop) (U : State) (H : Heap) : Prop := va_Z "NoiseWatch" n "[I" (.ref t) A U H ∧ va_T .int t 9 (fun j => .int (f j)) A U H ∧ ZC t U H
theorem ZS1.kept {n : String} {t : Nat} {f : Nat → Int32} {A : Nat → Prop} {U : State} {H H1 : Heap} (h : ZS1 n t f A U H) (hq : ∀ a : Nat, a < H.size → ¬ A a → H1[a]? = H[a]?) : ZS1 n t f A U H1 := ⟨h.1.kept hq, h.2.1.kept hq, by
  obtain ⟨cell, h1, h2⟩ := h.2.2
  exact ⟨cell, (hq t (Array.getElem?_eq_some_iff.mp h1).1 h.2.1.out).trans h1, h2⟩⟩
theorem ZS1.narrow {n : String} {t : Nat} {f : Nat → Int32} {A B : Nat → Prop} {U : State} {H : Heap} (h : ZS1 n t f A U H) (hAB : ∀ q, B q → A q) : ZS1 n t f B U H := ⟨h.1.narrow hAB, h.2.1.narrow hAB, h.2.2⟩
theorem ZS1.moved {n : String} {t : Nat} {f : Nat → Int32} {A : Nat → Prop} {u U : State} {H : Heap} (hvm : u.vm.Alike U.vm) (h : ZS1 n t f A u H) : ZS1 n t f A U H := ⟨h.1.moved hvm, h.2.1.moved hvm, by
  obtain ⟨cell, h1, h2, h3⟩ := h.2.2
  exact ⟨cell, h1, h2, by rw [hvm.findClass]; exact h3⟩⟩
abbrev ZU (A : Nat → Prop) (U : State) (H : Heap) : Prop := vx_Zq Bundle.tN "UNASSIGNED_STACK" Bundle.steD A U H ∧ vx_Zq Bundle.tN "SUPPRESSED_SENTINEL" Bundle.listD A U H
/-- the ten words of the Reader -/
def lenS : List Nat := [6, 3, 6, 5, 5, 3, 4, 5, 4, 5]
def bytS : List (List Int32) := [[99, 104, 97, 110, 99, 101], [108, 111, 103], [119, 105, 110, 100, 111, 119], [115, 116, 97, 114, 116], [98, 108, 111, 99, 107], [111, 117, 116], [98, 105, 97, 115], [115, 116, 105, 99, 107], [115, 101, 101, 100], [115, 116, 117, 99, 107]]
def txtS : List String := ["chance", "log", "window", "start", "block", "out", "bias", "stick", "seed", "stuck"]
def ZT (zz : Nat → Nat) (A : Nat → Prop) (U : State) (H : Heap) : Prop := vk_S 10 lenS bytS (fun i => zz (10 + i)) (fun i => zz (30 + i)) A U H ∧ va_Z "java/lang/String" "COMPACT_STRINGS" "Z" (.int 1) A U H ∧ va_Zq "jdk/internal/util/Preconditions" "SIOOBE_FORMATTER" "Ljava/util/function/BiFunction;" A U H ∧ ∀ i : Nat, i < 10 → vk_R RX5 (117 + 2 * i) (txtS.getD i "") (zz (10 + i)) U
theorem ZT.kept {zz : Nat → Nat} {A : Nat → Prop} {U : State} {H H1 : Heap} (h : ZT zz A U H) (hq : ∀ a : Nat, a < H.size → ¬ A a → H1[a]? = H[a]?) : ZT zz A U H1 := ⟨h.1.kept hq, h.2.1.kept hq, h.2.2.1.kept hq, h.2.2.2⟩
theorem ZT.narrow {zz : Nat → Nat} {A B : Nat → Prop} {U : State} {H : Heap} (h : ZT zz A U H) (hAB : ∀ q, B q → A q) : ZT zz B U H := ⟨h.1.narrow hAB, h.2.1.narrow hAB, h.2.2.1.narrow hAB, h.2.2.2⟩
theorem ZT.warm {zz : Nat → Nat} {A : Nat → Prop} {s U : State} {H : Heap} (hW : s.WarmedH U.vm) (h : ZT zz A s H) : ZT zz A U H := ⟨h.1.moved hW.alike, h.2.1.moved hW.alike, h.2.2.1.moved hW.alike, fun i hi => (h.2.2.2 i hi).warm hW⟩
theorem ZT.same {zz : Nat → Nat} {A : Nat → Prop} {s U : State} {H : Heap} (hv : s.vm = U.vm) (h : ZT zz A s H) : ZT zz A U H := ⟨h.1.moved (hv ▸ Vm.Alike.refl s.vm), h.2.1.moved (hv ▸ Vm.Alike.refl s.vm), h.2.2.1.moved (hv ▸ Vm.Alike.refl s.vm), fun i hi => (h.2.2.2 i hi).same hv.symm⟩
def ZS (zz : Nat → Nat) (A : Nat → Prop) (U : State) (H : Heap) : Prop := ZS1 "FIRST" (zz 0) stF A U H ∧ ZS1 "LEAST" (zz 1) stL A U H ∧ ZS1 "MOST" (zz 2) stM A U H ∧ ZU A U H ∧ ZT zz A U H
theorem ZS.kept {zz : Nat → Nat} {A : Nat → Prop} {U : State} {H H1 : Heap} (h : ZS zz A U H) (hq : ∀ a : Nat, a < H.size → ¬ A a → H1[a]? = H[a]?) : ZS zz A U H1 := ⟨h.1.kept hq, h.2.1.kept hq, h.2.2.1.kept hq, ⟨h.2.2.2.1.1.kept hq, h.2.2.2.1.2.kept hq⟩, h.2.2.2.2.kept hq⟩
theorem ZS.narrow {zz : Nat → Nat} {A B : Nat → Prop} {U : State} {H : Heap} (h : ZS zz A U H) (hAB : ∀ q, B q → A q) : ZS zz B U H := ⟨h.1.narrow hAB, h.2.1.narrow hAB, h.2.2.1.narrow hAB, ⟨h.2.2.2.1.1.narrow hAB, h.2.2.2.1.2.narrow hAB⟩, h.2.2.2.2.narrow hAB⟩
theorem ZS.warm {zz : Nat → Nat} {A : Nat → Prop} {s U : State} {H : Heap} (hW : s.WarmedH U.vm) (h : ZS zz A s H) : ZS zz A U H := ⟨h.1.moved hW.alike, h.2.1.moved hW.alike, h.2.2.1.moved hW.alike, ⟨h.2.2.2.1.1.moved hW.alike, h.2.2.2.1.2.moved hW.alike⟩, h.2.2.2.2.warm hW⟩
theorem ZS.same {zz : Nat → Nat} {A : Nat → Prop} {s U : State} {H : Heap} (hv : s.vm = U.vm) (h : ZS zz A s H) : ZS zz A U H := ⟨h.1.moved (hv ▸ Vm.Alike.refl s.vm), h.2.1.moved (hv ▸ Vm.Alike.refl s.vm), h.2.2.1.moved (hv ▸ Vm.Alike.refl s.vm), ⟨h.2.2.2.1.1.moved (hv ▸ Vm.Alike.refl s.vm), h.2.2.2.1.2.moved (hv ▸ Vm.Alike.refl s.vm)⟩, h.2.2.2.2.same hv⟩
abbrev TY (ca : Nat → ClassId) : List (ClassId × FieldType) := [(ca 0, .int), (ca 1, .long), (ca 2, .byte), (ca 3, .boolean), (ca 4, .object "NoiseWatch$Watch")]
/-- a contract's start: the world ws, nothing else said -/
def PR (D : va_G) (ca : Nat → ClassId) (zz : Nat → Nat) (av : List Value) (sz : Nat) (ws : va_W) : Array Value → State → Prop := va_Pc av (fun U => U.heap.size = sz ∧ va_P D vwCl ws U.heap ∧ va_K D vwCl (TY ca) U ∧ va_D (fun _ => True) ws ∧ NW U ∧ ZS zz (va_A ws sz) U U.heap)
theorem PR_blind {D : va_G} {ca : Nat → ClassId} {zz : Nat → Nat} {av : List Value} {sz : Nat} {ws : va_W} : FrameBlind (PR D ca zz av sz ws) := by
  intro a U g mk q
  obtain ⟨q0, q1, qP, qK, qD, qN, qZ⟩ := q
  exact ⟨q0, q1, qP, va_K.moved (u := U) (U := U.calling g mk a) (Vm.Alike.refl U.vm) qK, qD, NW.same (s := U) (U := U.calling g mk a) rfl qN, ZS.same (s := U) (U := U.calling g mk a) rfl qZ⟩
abbrev QI (D : va_G) (ca : Nat → ClassId) (r : Int32) (ws : va_W) (A : Nat → Prop) : Array Value → State → Outcome → State → Prop := va_Qi (fun (r' : Int32) (_ : Unit) => r' = r) (fun _ t => va_P D vwCl ws t.heap ∧ va_K D vwCl (TY ca) t ∧ va_D A ws) A
abbrev QL (D : va_G) (ca : Nat → ClassId) (r : Int64) (ws : va_W) (A : Nat → Prop) : Array Value → State → Outcome → State → Prop := va_Ql (fun (r' : Int64) (_ : Unit) => r' = r) (fun _ t => va_P D vwCl ws t.heap ∧ va_K D vwCl (TY ca) t ∧ va_D A ws) A
abbrev QV (D : va_G) (ca : Nat → ClassId) (ws : va_W) (A : Nat → Prop) : Array Value → State → Outcome → State → Prop := va_Qv (fun (_ : Unit) => True) (fun _ t => va_P D vwCl ws t.heap ∧ va_K D vwCl (TY ca) t ∧ va_D A ws) A
section LIBC
variable {p : Program} {l : Launch} {e : Env} {R : Room} {s : State} {m : MethodId} {args : Array Value} {below : List Frame} {meth : Method} {c : Code} {H : Heap} {locs : List Loc} {cells slots : Nat} {Q : State → Prop} {A : Nat → Prop} {D : va_G} {ca : Nat → ClassId} {zz : Nat → Nat} {cc : ByteArray} {pc : Nat} {ls : Array Slot} {rest : List Value}
theorem pr_mk {av : List Value} {wc : va_W} (hP : va_P D vwCl wc H) (hK : va_K D vwCl (TY ca) s) (hD : va_D A wc) (hN : NW s) (hZ : ZS zz A s s.heap) (hS : va_S A s.heap H locs) (hF : ∀ q, va_A wc H.size q → A q) : ∀ U : State, U.heap = H → s.WarmedH U.vm → PR D ca zz av H.size wc av.toArray U := by
  intro U hU hW
  refine ⟨rfl, by rw [hU], by rw [hU]; exact hP, va_K.moved hW.alike hK, hD.weaken (fun _ _ _ _ => trivial), NW.warm hW hN, ?_⟩
  rw [hU]
  exact ((hZ.kept hS.2.1).narrow hF).warm hW
/-- a method's entry -/
theorem en {y : MethodName} {wsm ws' : List Cond} {rm : Room} {maxL : Nat} {ret : Option FieldType} {av : List Value} {sz mc ms : Nat} {ws : va_W} {Qf : (Nat → Prop) → Array Value → State → Outcome → State → Prop} (hy : plainName y.cls = true) (hw : wsm = Cond.code y cc maxL ret :: ws') (hlen : (lg_sl av).length ≤ maxL)
    (body : ∀ (p : Program) (e : Env) (s : State) (m : MethodId) (args : Array Value) (below : List Frame) (meth : Method) (c : Code) (A : Nat → Prop) (Q : State → Prop) (ls : Array Slot),
      p.tables.exec = Jvm.exec → c.code = cc → meth.sig.returnType = ret → c.maxLocals = maxL → s.vm.findClass y.cls = some m.cls → (∀ w ∈ wsm, w.before args s = true) → meth.locks = false → meth.name = y.name →
      (∀ q : Nat, s.heap.size ≤ q → A q) → NW s → ZS zz A s s.heap → va_K D vwCl (TY ca) s → Q = MQ below (Qf A) args s mc ms A → va_P D vwCl ws s.heap → va_D A ws → va_S A s.heap s.heap [] → lv_has ls maxL (lv_args 0 av) →
      W p l e rm s m args below meth c s.heap [] 0 0 Q (F0 m 0 ls [])) :
    Met l y wsm rm (PR D ca zz av sz ws) (Qf (va_A ws sz)) mc ms (va_A ws sz) := by
  refine Met.ofW (cc := cc) (maxL := maxL) (ret := ret) hy hw ?_
  intro p e s m args below meth c s₁ B hml hv
  obtain ⟨rfl, hsz, hP, hK, hD0, hN, hZ⟩ := hv
  subst hsz
  have hl := lv_entry av (n := maxL) hlen
  rw [lg_entry_eq]
  exact body p e s m _ below meth c (va_A ws s.heap.size) _ _ B.exec B.bytes B.returns hml (findClass_of_methodNamed B.named) (atoms_spec (ws := wsm) B.pre) B.notSynchronized (name_of_methodNamed B.named B.method).1 (fun q h => Or.inr h) hN hZ hK rfl hP (hD0.self (sz := s.heap.size)) va_S.rf hl
theorem lv_nm {x y : Int32} (h : y = x) (k : W p l e R s m args below meth c H locs cells slots Q (F0 m pc ls (.int y :: rest))) : W p l e R s m args below meth c H locs cells slots Q (F0 m pc ls (.int x :: rest)) := h ▸ k
theorem lv_nml {x y : Int64} (h : y = x) (k : W p l e R s m args below meth c H locs cells slots Q (F0 m pc ls (.long y :: rest))) : W p l e R s m args below meth c H locs cells slots Q (F0 m pc ls (.long x :: rest)) := h ▸ k
theorem rt_I {ws wn : va_W} {v r : Int32} (hx : p.tables.exec = Jvm.exec) (hb : c.code = cc) (hr : meth.sig.returnType = some .int) (hlocks : meth.locks = false) (hK : va_K D vwCl (TY ca) s) (hP : va_P D vwCl ws H) (hD : va_D A ws) (hS : va_S A s.heap H locs) (hQ : Q = MQ below (QI D ca r wn A) args s 0 0 A) (ev : v = r) (ew : ws = wn) (hdg : decode cc pc = .ok (.ireturn, 1)) : W p l e R s m args below meth c H locs 0 0 Q (F0 m pc ls [.int v]) := by
  subst ev; subst ew; subst hQ
  exact W.iret hx hb hr (fun t ht hW => ⟨⟨v, (), rfl, rfl, by rw [ht]; exact hP, va_K.moved hW.alike hK, hD⟩, hS.F ht⟩) hS.2.2 hdg
theorem rt_Z {ws wn : va_W} {v r : Int32} (hx : p.tables.exec = Jvm.exec) (hb : c.code = cc) (hr : meth.sig.returnType = some .boolean) (hlocks : meth.locks = false) (hK : va_K D vwCl (TY ca) s) (hP : va_P D vwCl ws H) (hD : va_D A ws) (hS : va_S A s.heap H locs) (hQ : Q = MQ below (QI D ca r wn A) args s 0 0 A) (hv : v = 0 ∨ v = 1) (ev : v = r) (ew : ws = wn) (hdg : decode cc pc = .ok (.ireturn, 1)) : W p l e R s m args below meth c H locs 0 0 Q (F0 m pc ls [.int v]) := by
  subst ev; subst ew; subst hQ
  exact W.zret hx hb hr (by rcases hv with h | h <;> (rw [h]; rfl)) (fun t ht hW => ⟨⟨v, (), rfl, rfl, by rw [ht]; exact hP, va_K.moved hW.alike hK, hD⟩, hS.F ht⟩) hS.2.2 hdg
theorem rt_L {ws wn : va_W} {v r : Int64} (hx : p.tables.exec = Jvm.exec) (hb : c.code = cc) (hr : meth.sig.returnType = some .long) (hlocks : meth.locks = false) (hK : va_K D vwCl (TY ca) s) (hP : va_P D vwCl ws H) (hD : va_D A ws) (hS : va_S A s.heap H locs) (hQ : Q = MQ below (QL D ca r wn A) args s 0 0 A) (ev : v = r) (ew : ws = wn) (hdg : decode cc pc = .ok (.lreturn, 1)) : W p l e R s m args below meth c H locs 0 0 Q (F0 m pc ls [.long v]) := by
  subst ev; subst ew; subst hQ
  exact W.lret hx hb hr (fun t ht hW => ⟨⟨v, (), rfl, rfl, by rw [ht]; exact hP, va_K.moved hW.alike hK, hD⟩, hS.F ht⟩) hS.2.2 hdg
theorem rt_V {ws wn : va_W} (hx : p.tables.exec = Jvm.exec) (hb : c.code = cc) (hr : meth.sig.returnType = none) (hlocks : meth.locks = false) (hK : va_K D vwCl (TY ca) s) (hP : va_P D vwCl ws H) (hD : va_D A ws) (hS : va_S A s.heap H locs) (hQ : Q = MQ below (QV D ca wn A) args s 0 0 A) (ew : ws = wn) (hdg : decode cc pc = .ok (.return_, 1)) : W p l e R s m args below meth c H locs 0 0 Q (F0 m pc ls []) := by
  subst ew; subst hQ
  exact W.vret hx hb hr (fun t ht hW => ⟨⟨(), rfl, trivial, by rw [ht]; exact hP, va_K.moved hW.alike hK, hD⟩, hS.F ht⟩) hS.2.2 hdg
end LIBC
section LIBD
variable {p : Program} {l : Launch} {e : Env} {R : Room} {s : State} {m : MethodId} {args : Array Value} {below : List Frame} {meth : Method} {c : Code} {H : Heap} {locs : List Loc} {cells slots : Nat} {Q : State → Prop} {A : Nat → Prop} {D : va_G} {ca : Nat → ClassId} {zz : Nat → Nat} {cc bytes : ByteArray} {pc : Nat} {ls : Array Slot} {rest st0 As : List Value}
variable {nL maxL n index ci N : Nat} {Ts wsm : List Cond} {own C : String} {y : MethodName} {ret : Option FieldType} {rm : Room} {b : Nat} {wc wn ws : va_W} {T : u_T} {fs : List Value}
theorem cV_I {r : Int32} (S : CallFix p m c cc nL s args Ts own) (hM : Met l y wsm rm (PR D ca zz (.ref b :: As) H.size wc) (QI D ca r wn (va_A wc H.size)) 0 0 (va_A wc H.size)) (cw : CallW R s args own C index y bytes maxL ret wsm rm 0 0 n)
    (hK : va_K D vwCl (TY ca) s) (hN : NW s) (hZ : ZS zz A s s.heap) (hA : ∀ q, s.heap.size ≤ q → A q) (hP : va_P D vwCl ws H) (hD : va_D A ws) (hS : va_S A s.heap H locs) (is : List Nat) (ms : List (Option Nat)) (hm : wmOK ms is = true) (hC : is.map (fun i => ws[i]?) = wc.map some) (hnd : va_nd is = true) (hf : wn.map Prod.fst = wc.map Prod.fst)
    (hc : vwCl[ci]? = some (C, T, N)) (q0 : Nat) (he : ws[q0]? = some (b, .inr (ci, fs))) (hn : As.length = n) (hsz : ls.size = nL) (hst : st0 = As.reverse ++ .ref b :: rest) (hW : (rest.map fun v => v.category).sum ≤ 8) (hdg : decode cc pc = .ok (.invokevirtual index, 3)) (hcr : cells ≤ R.cells ∧ slots ≤ R.slots)
    (kk : ∀ (H1 : Heap) (locs1 : List Loc), va_P D vwCl (wmk ws ms wn) H1 → va_D A (wmk ws ms wn) → va_S A s.heap H1 locs1 → W p l e R s m args below meth c H1 locs1 cells slots Q (F0 m (pc + 3) ls (.int r :: rest))) : W p l e R s m args below meth c H locs cells slots Q (F0 m pc ls st0) := by
  have hFc := va_free (wc := wc) hD hS hA is hC
  refine va_calli (va_runV (As := As) (rest := rest) S hM cw ⟨PR_blind, va_recv hK hP hc he, pr_mk (va_P_pick hP hC) hK (hD.sub is hnd hC) hN hZ hS hFc⟩ rfl hn hsz hst (lv_room hW) hdg hcr) hS (fun q _ h => hFc q h) hFc (fun r' u t H1 locs1 ht hvm hw hB hz1 hk1 hS1 => ?_)
  obtain ⟨hP1, -, -⟩ := hB
  rw [ht] at hP1
  obtain ⟨g1, g2⟩ := wmk_P hP hD is ms hm hC hf hk1 hP1
  subst hw
  exact kk H1 locs1 g1 g2 hS1
theorem cV_L {r : Int64} (S : CallFix p m c cc nL s args Ts own) (hM : Met l y wsm rm (PR D ca zz (.ref b :: As) H.size wc) (QL D ca r wn (va_A wc H.size)) 0 0 (va_A wc H.size)) (cw : CallW R s args own C index y bytes maxL ret wsm rm 0 0 n)
    (hK : va_K D vwCl (TY ca) s) (hN : NW s) (hZ : ZS zz A s s.heap) (hA : ∀ q, s.heap.size ≤ q → A q) (hP : va_P D vwCl ws H) (hD : va_D A ws) (hS : va_S A s.heap H locs) (is : List Nat) (ms : List (Option Nat)) (hm : wmOK ms is = true) (hC : is.map (fun i => ws[i]?) = wc.map some) (hnd : va_nd is = true) (hf : wn.map Prod.fst = wc.map Prod.fst)
    (hc : vwCl[ci]? = some (C, T, N)) (q0 : Nat) (he : ws[q0]? = some (b, .inr (ci, fs))) (hn : As.length = n) (hsz : ls.size = nL) (hst : st0 = As.reverse ++ .ref b :: rest) (hW : (rest.map fun v => v.category).sum ≤ 8) (hdg : decode cc pc = .ok (.invokevirtual index, 3)) (hcr : cells ≤ R.cells ∧ slots ≤ R.slots)
    (kk : ∀ (H1 : Heap) (locs1 : List Loc), va_P D vwCl (wmk ws ms wn) H1 → va_D A (wmk ws ms wn) → va_S A s.heap H1 locs1 → W p l e R s m args below meth c H1 locs1 cells slots Q (F0 m (pc + 3) ls (.long r :: rest))) : W p l e R s m args below meth c H locs cells slots Q (F0 m pc ls st0) := by
  have hFc := va_free (wc := wc) hD hS hA is hC
  refine va_calll (va_runV (As := As) (rest := rest) S hM cw ⟨PR_blind, va_recv hK hP hc he, pr_mk (va_P_pick hP hC) hK (hD.sub is hnd hC) hN hZ hS hFc⟩ rfl hn hsz hst (lv_room hW) hdg hcr) hS (fun q _ h => hFc q h) hFc (fun r' u t H1 locs1 ht hvm hw hB hz1 hk1 hS1 => ?_)
  obtain ⟨hP1, -, -⟩ := hB
  rw [ht] at hP1
  obtain ⟨g1, g2⟩ := wmk_P hP hD is ms hm hC hf hk1 hP1
  subst hw
  exact kk H1 locs1 g1 g2 hS1
theorem cV_V (S : CallFix p m c cc nL s args Ts own) (hM : Met l y wsm rm (PR D ca zz (.ref b :: As) H.size wc) (QV D ca wn (va_A wc H.size)) 0 0 (va_A wc H.size)) (cw : CallW R s args own C index y bytes maxL ret wsm rm 0 0 n)
    (hK : va_K D vwCl (TY ca) s) (hN : NW s) (hZ : ZS zz A s s.heap) (hA : ∀ q, s.heap.size ≤ q → A q) (hP : va_P D vwCl ws H) (hD : va_D A ws) (hS : va_S A s.heap H locs) (is : List Nat) (ms : List (Option Nat)) (hm : wmOK ms is = true) (hC : is.map (fun i => ws[i]?) = wc.map some) (hnd : va_nd is = true) (hf : wn.map Prod.fst = wc.map Prod.fst)
    (hc : vwCl[ci]? = some (C, T, N)) (q0 : Nat) (he : ws[q0]? = some (b, .inr (ci, fs))) (hn : As.length = n) (hsz : ls.size = nL) (hst : st0 = As.reverse ++ .ref b :: rest) (hW : (rest.map fun v => v.category).sum ≤ 8) (hdg : decode cc pc = .ok (.invokevirtual index, 3)) (hcr : cells ≤ R.cells ∧ slots ≤ R.slots)
    (kk : ∀ (H1 : Heap) (locs1 : List Loc), va_P D vwCl (wmk ws ms wn) H1 → va_D A (wmk ws ms wn) → va_S A s.heap H1 locs1 → W p l e R s m args below meth c H1 locs1 cells slots Q (F0 m (pc + 3) ls rest)) : W p l e R s m args below meth c H locs cells slots Q (F0 m pc ls st0) := by
  have hFc := va_free (wc := wc) hD hS hA is hC
  refine va_callv (va_runV (As := As) (rest := rest) S hM cw ⟨PR_blind, va_recv hK hP hc he, pr_mk (va_P_pick hP hC) hK (hD.sub is hnd hC) hN hZ hS hFc⟩ rfl hn hsz hst (lv_room hW) hdg hcr) hS (fun q _ h => hFc q h) hFc (fun u t H1 locs1 ht hvm hw hB hz1 hk1 hS1 => ?_)
  obtain ⟨hP1, -, -⟩ := hB
  rw [ht] at hP1
  obtain ⟨g1, g2⟩ := wmk_P hP hD is ms hm hC hf hk1 hP1
  exact kk H1 locs1 g1 g2 hS1
theorem cS_I {r : Int32} (S : CallFix p m c cc nL s args Ts own) (hM : Met l y wsm rm (PR D ca zz As H.size wc) (QI D ca r wn (va_A wc H.size)) 0 0 (va_A wc H.size)) (cw : CallB R s args own index y bytes maxL ret wsm rm 0 0 n ∧ (Cond.static y).before args s = true)
    (hK : va_K D vwCl (TY ca) s) (hN : NW s) (hZ : ZS zz A s s.heap) (hA : ∀ q, s.heap.size ≤ q → A q) (hP : va_P D vwCl ws H) (hD : va_D A ws) (hS : va_S A s.heap H locs) (is : List Nat) (ms : List (Option Nat)) (hm : wmOK ms is = true) (hC : is.map (fun i => ws[i]?) = wc.map some) (hnd : va_nd is = true) (hf : wn.map Prod.fst = wc.map Prod.fst)
    (hn : As.length = n) (hsz : ls.size = nL) (hst : st0 = As.reverse ++ rest) (hW : (rest.map fun v => v.category).sum ≤ 8) (hdg : decode cc pc = .ok (.invokestatic index, 3)) (hcr : cells ≤ R.cells ∧ slots ≤ R.slots)
    (kk : ∀ (H1 : Heap) (locs1 : List Loc), va_P D vwCl (wmk ws ms wn) H1 → va_D A (wmk ws ms wn) → va_S A s.heap H1 locs1 → W p l e R s m args below meth c H1 locs1 cells slots Q (F0 m (pc + 3) ls (.int r :: rest))) : W p l e R s m args below meth c H locs cells slots Q (F0 m pc ls st0) := by
  have hFc := va_free (wc := wc) hD hS hA is hC
  refine va_calli (va_runS (As := As) (rest := rest) S hM cw ⟨PR_blind, pr_mk (va_P_pick hP hC) hK (hD.sub is hnd hC) hN hZ hS hFc⟩ rfl hn hsz hst (lv_room hW) hdg hcr) hS (fun q _ h => hFc q h) hFc (fun r' u t H1 locs1 ht hvm hw hB hz1 hk1 hS1 => ?_)
  obtain ⟨hP1, -, -⟩ := hB
  rw [ht] at hP1
  obtain ⟨g1, g2⟩ := wmk_P hP hD is ms hm hC hf hk1 hP1
  subst hw
  exact kk H1 locs1 g1 g2 hS1
theorem cS_L {r : Int64} (S : CallFix p m c cc nL s args Ts own) (hM : Met l y wsm rm (PR D ca zz As H.size wc) (QL D ca r wn (va_A wc H.size)) 0 0 (va_A wc H.size)) (cw : CallB R s args own index y bytes maxL ret wsm rm 0 0 n ∧ (Cond.static y).before args s = true)
    (hK : va_K D vwCl (TY ca) s) (hN : NW s) (hZ : ZS zz A s s.heap) (hA : ∀ q, s.heap.size ≤ q → A q) (hP : va_P D vwCl ws H) (hD : va_D A ws) (hS : va_S A s.heap H locs) (is : List Nat) (ms : List (Option Nat)) (hm : wmOK ms is = true) (hC : is.map (fun i => ws[i]?) = wc.map some) (hnd : va_nd is = true) (hf : wn.map Prod.fst = wc.map Prod.fst)
    (hn : As.length = n) (hsz : ls.size = nL) (hst : st0 = As.reverse ++ rest) (hW : (rest.map fun v => v.category).sum ≤ 8) (hdg : decode cc pc = .ok (.invokestatic index, 3)) (hcr : cells ≤ R.cells ∧ slots ≤ R.slots)
    (kk : ∀ (H1 : Heap) (locs1 : List Loc), va_P D vwCl (wmk ws ms wn) H1 → va_D A (wmk ws ms wn) → va_S A s.heap H1 locs1 → W p l e R s m args below meth c H1 locs1 cells slots Q (F0 m (pc + 3) ls (.long r :: rest))) : W p l e R s m args below meth c H locs cells slots Q (F0 m pc ls st0) := by
  have hFc := va_free (wc := wc) hD hS hA is hC
  refine va_calll (va_runS (As := As) (rest := rest) S hM cw ⟨PR_blind, pr_mk (va_P_pick hP hC) hK (hD.sub is hnd hC) hN hZ hS hFc⟩ rfl hn hsz hst (lv_room hW) hdg hcr) hS (fun q _ h => hFc q h) hFc (fun r' u t H1 locs1 ht hvm hw hB hz1 hk1 hS1 => ?_)
  obtain ⟨hP1, -, -⟩ := hB
  rw [ht] at hP1
  obtain ⟨g1, g2⟩ := wmk_P hP hD is ms hm hC hf hk1 hP1
  subst hw
  exact kk H1 locs1 g1 g2 hS1
theorem cS_V (S : CallFix p m c cc nL s args Ts own) (hM : Met l y wsm rm (PR D ca zz As H.size wc) (QV D ca wn (va_A wc H.size)) 0 0 (va_A wc H.size)) (cw : CallB R s args own index y bytes maxL ret wsm rm 0 0 n ∧ (Cond.static y).before args s = true)
    (hK : va_K D vwCl (TY ca) s) (hN : NW s) (hZ : ZS zz A s s.heap) (hA : ∀ q, s.heap.size ≤ q → A q) (hP : va_P D vwCl ws H) (hD : va_D A ws) (hS : va_S A s.heap H locs) (is : List Nat) (ms : List (Option Nat)) (hm : wmOK ms is = true) (hC : is.map (fun i => ws[i]?) = wc.map some) (hnd : va_nd is = true) (hf : wn.map Prod.fst = wc.map Prod.fst)
    (hn : As.length = n) (hsz : ls.size = nL) (hst : st0 = As.reverse ++ rest) (hW : (rest.map fun v => v.category).sum ≤ 8) (hdg : decode cc pc = .ok (.invokestatic index, 3)) (hcr : cells ≤ R.cells ∧ slots ≤ R.slots)
    (kk : ∀ (H1 : Heap) (locs1 : List Loc), va_P D vwCl (wmk ws ms wn) H1 → va_D A (wmk ws ms wn) → va_S A s.heap H1 locs1 → W p l e R s m args below meth c H1 locs1 cells slots Q (F0 m (pc + 3) ls rest)) : W p l e R s m args below meth c H locs cells slots Q (F0 m pc ls st0) := by
  have hFc := va_free (wc := wc) hD hS hA is hC
  refine va_callv (va_runS (As := As) (rest := rest) S hM cw ⟨PR_blind, pr_mk (va_P_pick hP hC) hK (hD.sub is hnd hC) hN hZ hS hFc⟩ rfl hn hsz hst (lv_room hW) hdg hcr) hS (fun q _ h => hFc q h) hFc (fun u t H1 locs1 ht hvm hw hB hz1 hk1 hS1 => ?_)
  obtain ⟨hP1, -, -⟩ := hB
  rw [ht] at hP1
  obtain ⟨g1, g2⟩ := wmk_P hP hD is ms hm hC hf hk1 hP1
  exact kk H1 locs1 g1 g2 hS1
end LIBD
