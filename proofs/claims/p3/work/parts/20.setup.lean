/-! THE CLAIM OUT OF ONE WALK OF THE LAW'S BODY. Your part is whole_start (and what it stands on); all else here is the same for every law, but numbers. -/
def R_law : String := "NoiseWatchLaw"
def lw_P (b : Addr) (xs : List Int32) (args : Array Value) (s : State) : Prop := args = #[.ref b] ∧ s.IntsAt b xs ∧ xs.length ≤ 2048 ∧ (Jvm.Cond.and given_1 narrow_1).before args s = true
def lw_Q (_ : Array Value) (s : State) (o : Outcome) (t : State) : Prop := o = .returned (some (.int 1)) ∧ Framed s o t [] 601024 7293034
def lw_Z (below : List Frame) (a : Array Value) (s : State) : State → Prop := fun t => ∃ o, t.status = .running ∧ Ended t below o ∧ lw_Q a s o t
/-- the law's own end, with 1 on the stack, nothing written that was there before, its room as the claim has it -/
theorem lw_ret {p : Program} {l : Launch} {e : Env} {s : State} {m : MethodId} {below : List Frame} {meth : Method} {c : Code} {b : Nat} (hx : p.tables.exec = Jvm.exec) (hb : c.code = code) (hr : meth.sig.returnType = ret) (hlocks : meth.locks = false) {pc : Nat} {H : Heap} {ls : Array Slot} (hdg : decode code pc = .ok (.ireturn, 1)) : W p l e room_1 s m #[Value.ref b] below meth c H [] 601024 7293034 (lw_Z below #[Value.ref b] s) (F0 m pc ls [.int 1]) := by
  intro T hT X
  obtain ⟨fs, hret, hrun, hended, hW, hframe⟩ := X.leave (v := some (.int 1)) (hlocks := hlocks) (fun h => by rw [hr] at h; cases h)
  have hmeth' : T.vm.method? m = some meth := X.method'
  refine ⟨T.setFrames fs, ?_, .returned (some (.int 1)), hrun, hended, rfl, ⟨_, rfl⟩, hW, hframe⟩
  jvm_step X.here [X.here.top, hx, hb, hdg, hmeth', hr, ret, narrow_b1]
  (try refine ⟨rfl, ?_⟩); (try refine ⟨rfl, ?_⟩)
  first | (intro acts; rw [hret _ acts rfl rfl rfl]) | rw [hret _ _ rfl rfl rfl]
  exact Steps.refl _
/-- what holds at the law's entry: the machine, the code, the tables' words (any of lw_tbl by 'hts w (by decide +kernel)'), the script of L ints xs at the cell b, what the Statement gives of the start (any of its parts by flat_of_before) -/
def lw_At (p : Program) (s : State) (m : MethodId) (meth : Method) (c : Code) (b L : Nat) (xs : Nat → Int32) : Prop :=
  p.tables.exec = Jvm.exec ∧ c.code = code ∧ meth.sig.returnType = ret ∧ c.maxLocals = 7 ∧ s.vm.findClass R_law = some m.cls ∧ (∀ w ∈ lw_tbl, w.before #[Value.ref b] s = true) ∧ va_X b L xs s s.heap ∧ b < s.heap.size ∧ meth.locks = false ∧ (Jvm.Cond.and given_1 narrow_1).before #[Value.ref b] s = true
def A0 (s : State) : Nat → Prop := fun q => s.heap.size ≤ q
theorem TB_t {w : Cond} (h : w ∈ tables_1) : w ∈ lw_tbl := List.mem_append_right _ h
theorem TB_1 {w : Cond} (h : w ∈ tables_1_1) : w ∈ lw_tbl := TB_t (List.mem_append_left _ h)
theorem TB_2 {w : Cond} (h : w ∈ tables_1_2) : w ∈ lw_tbl := TB_t (List.mem_append_right _ (List.mem_append_left _ h))
theorem TB_3 {w : Cond} (h : w ∈ tables_1_3) : w ∈ lw_tbl := TB_t (List.mem_append_right _ (List.mem_append_right _ (List.mem_append_left _ h)))
theorem TB_4 {w : Cond} (h : w ∈ tables_1_4) : w ∈ lw_tbl := TB_t (List.mem_append_right _ (List.mem_append_right _ (List.mem_append_right _ (List.mem_append_left _ h))))
theorem TB_5 {w : Cond} (h : w ∈ tables_1_5) : w ∈ lw_tbl := TB_t (List.mem_append_right _ (List.mem_append_right _ (List.mem_append_right _ (List.mem_append_right _ (List.mem_append_left _ h)))))
theorem TB_6 {w : Cond} (h : w ∈ tables_1_6) : w ∈ lw_tbl := TB_t (List.mem_append_right _ (List.mem_append_right _ (List.mem_append_right _ (List.mem_append_right _ (List.mem_append_right _ (List.mem_append_left _ h))))))
theorem TB_7 {w : Cond} (h : w ∈ tables_1_7) : w ∈ lw_tbl := TB_t (List.mem_append_right _ (List.mem_append_right _ (List.mem_append_right _ (List.mem_append_right _ (List.mem_append_right _ (List.mem_append_right _ (h)))))))
theorem nwp_0 : Cond.fieldLinkNest RX7 9 "NoiseWatch" "FIRST" "[I" "NoiseWatch" ∈ lw_tbl := (TB_1 (List.mem_of_getElem? (i := 46) rfl))
theorem nwp_1 : Cond.fieldLinkNest RX5 56 "NoiseWatch$Settings" "stuckCount" "I" "NoiseWatch" ∈ lw_tbl := (TB_1 (List.mem_of_getElem? (i := 60) rfl))
theorem nwp_2 : Cond.fieldLinkNest RX11 95 "NoiseWatch$Settings" "stuckCount" "I" "NoiseWatch" ∈ lw_tbl := (TB_1 (List.mem_of_getElem? (i := 61) rfl))
theorem nwp_3 : Cond.fieldLinkNest RX10 149 "NoiseWatch$Settings" "stuckCount" "I" "NoiseWatch" ∈ lw_tbl := (TB_1 (List.mem_of_getElem? (i := 62) rfl))
theorem nwp_4 : Cond.fieldLinkNest RX10 191 "NoiseWatch$Odds" "repeats" "I" "NoiseWatch" ∈ lw_tbl := (TB_1 (List.mem_of_getElem? (i := 84) rfl))
theorem nwp_5 : Cond.fieldLinkNest RX11 138 "NoiseWatch$Odds" "repeats" "I" "NoiseWatch" ∈ lw_tbl := (TB_1 (List.mem_of_getElem? (i := 85) rfl))
theorem nwp_6 : Cond.fieldLinkNest RX10 194 "NoiseWatch$Odds" "proportion" "I" "NoiseWatch" ∈ lw_tbl := (TB_1 (List.mem_of_getElem? (i := 87) rfl))
theorem nwp_7 : Cond.fieldLinkNest RX11 141 "NoiseWatch$Odds" "proportion" "I" "NoiseWatch" ∈ lw_tbl := (TB_1 (List.mem_of_getElem? (i := 88) rfl))
theorem nwp_8 : Cond.fieldLinkNest RX10 197 "NoiseWatch$Odds" "changes" "I" "NoiseWatch" ∈ lw_tbl := (TB_1 (List.mem_of_getElem? (i := 90) rfl))
theorem nwp_9 : Cond.fieldLinkNest RX11 144 "NoiseWatch$Odds" "changes" "I" "NoiseWatch" ∈ lw_tbl := (TB_1 (List.mem_of_getElem? (i := 91) rfl))
theorem nwp_10 : Cond.fieldLinkNest RX10 152 "NoiseWatch$Source" "drawn" "I" "NoiseWatch" ∈ lw_tbl := (TB_1 (List.mem_of_getElem? (i := 112) rfl))
theorem nwp_11 : Cond.fieldLinkNest RX2 53 "NoiseWatch$Counts" "alike" "I" "NoiseWatch" ∈ lw_tbl := (TB_1 (List.mem_of_getElem? (i := 128) rfl))
theorem nwp_12 : Cond.fieldLinkNest RX10 155 "NoiseWatch$Counts" "alike" "I" "NoiseWatch" ∈ lw_tbl := (TB_1 (List.mem_of_getElem? (i := 129) rfl))
theorem nwp_13 : Cond.fieldLinkNest RX10 158 "NoiseWatch$Counts" "inWindow" "I" "NoiseWatch" ∈ lw_tbl := (TB_1 (List.mem_of_getElem? (i := 132) rfl))
theorem nwp_14 : Cond.fieldLinkNest RX2 58 "NoiseWatch$Counts" "like" "I" "NoiseWatch" ∈ lw_tbl := (TB_1 (List.mem_of_getElem? (i := 135) rfl))
theorem nwp_15 : Cond.fieldLinkNest RX10 161 "NoiseWatch$Counts" "like" "I" "NoiseWatch" ∈ lw_tbl := (TB_1 (List.mem_of_getElem? (i := 136) rfl))
theorem nwp_16 : Cond.fieldLinkNest RX2 61 "NoiseWatch$Counts" "unlike" "I" "NoiseWatch" ∈ lw_tbl := (TB_1 (List.mem_of_getElem? (i := 138) rfl))
theorem nwp_17 : Cond.fieldLinkNest RX10 164 "NoiseWatch$Counts" "unlike" "I" "NoiseWatch" ∈ lw_tbl := (TB_1 (List.mem_of_getElem? (i := 139) rfl))
theorem nwp_18 : Cond.fieldLinkNest RX0 37 "NoiseWatch$Queue" "size" "I" "NoiseWatch" ∈ lw_tbl := (TB_1 (List.mem_of_getElem? (i := 168) rfl))
theorem nwp_19 : Cond.fieldLinkNest RX3 55 "NoiseWatch$Queue" "size" "I" "NoiseWatch" ∈ lw_tbl := (TB_1 (List.mem_of_getElem? (i := 169) rfl))
theorem nwp_20 : Cond.fieldLinkNest RX10 121 "NoiseWatch$Queue" "size" "I" "NoiseWatch" ∈ lw_tbl := (TB_1 (List.mem_of_getElem? (i := 170) rfl))
theorem nwp_21 : Cond.fieldLinkNest RX11 248 "NoiseWatch$Queue" "size" "I" "NoiseWatch" ∈ lw_tbl := (TB_1 (List.mem_of_getElem? (i := 171) rfl))
theorem nwp_22 : Cond.fieldLinkNest RX10 170 "NoiseWatch$Pool" "bits" "LNoiseWatch$Queue;" "NoiseWatch" ∈ lw_tbl := (TB_1 (List.mem_of_getElem? (i := 180) rfl))
theorem nwp_23 : Cond.fieldLinkNest RX11 178 "NoiseWatch$Pool" "bits" "LNoiseWatch$Queue;" "NoiseWatch" ∈ lw_tbl := (TB_1 (List.mem_of_getElem? (i := 181) rfl))
theorem nwp_24 : Cond.fieldLinkNest RX10 167 "NoiseWatch$Pool" "inBlock" "I" "NoiseWatch" ∈ lw_tbl := (TB_1 (List.mem_of_getElem? (i := 184) rfl))
theorem nwp_25 : Cond.fieldLinkNest RX10 173 "NoiseWatch$Pool" "came" "I" "NoiseWatch" ∈ lw_tbl := (TB_1 (List.mem_of_getElem? (i := 186) rfl))
theorem nwp_26 : Cond.fieldLinkNest RX10 176 "NoiseWatch$Pool" "wasted" "I" "NoiseWatch" ∈ lw_tbl := (TB_1 (List.mem_of_getElem? (i := 188) rfl))
theorem nwp_27 : Cond.fieldLinkNest RX10 179 "NoiseWatch$Pool" "taken" "I" "NoiseWatch" ∈ lw_tbl := (TB_1 (List.mem_of_getElem? (i := 190) rfl))
theorem nwp_28 : Cond.fieldLinkNest RX10 182 "NoiseWatch$Pool" "gone" "I" "NoiseWatch" ∈ lw_tbl := (TB_1 (List.mem_of_getElem? (i := 192) rfl))
theorem nwp_29 : Cond.fieldLinkNest RX10 185 "NoiseWatch$Rows" "size" "I" "NoiseWatch" ∈ lw_tbl := (TB_1 (List.mem_of_getElem? (i := 219) rfl))
theorem nwp_30 : Cond.fieldLinkNest RX5 84 "NoiseWatch$Text" "size" "I" "NoiseWatch" ∈ lw_tbl := (TB_1 (List.mem_of_getElem? (i := 235) rfl))
theorem nwp_31 : Cond.fieldLinkNest RX10 186 "NoiseWatch$Text" "size" "I" "NoiseWatch" ∈ lw_tbl := (TB_1 (List.mem_of_getElem? (i := 236) rfl))
theorem nwp_32 : Cond.fieldLinkNest RX11 99 "NoiseWatch$Text" "fault" "I" "NoiseWatch" ∈ lw_tbl := (TB_1 (List.mem_of_getElem? (i := 238) rfl))
theorem nwp_33 : Cond.fieldLinkNest RX11 98 "NoiseWatch$Text" "place" "I" "NoiseWatch" ∈ lw_tbl := (TB_2 (List.mem_of_getElem? (i := 0) rfl))
theorem nwp_34 : Cond.fieldLinkNest RX11 79 "NoiseWatch$Watch" "settings" "LNoiseWatch$Settings;" "NoiseWatch" ∈ lw_tbl := (TB_2 (List.mem_of_getElem? (i := 72) rfl))
theorem nwp_35 : Cond.fieldLinkNest RX11 135 "NoiseWatch$Watch" "limits" "LNoiseWatch$Odds;" "NoiseWatch" ∈ lw_tbl := (TB_2 (List.mem_of_getElem? (i := 74) rfl))
theorem nwp_36 : Cond.fieldLinkNest RX11 120 "NoiseWatch$Watch" "pool" "LNoiseWatch$Pool;" "NoiseWatch" ∈ lw_tbl := (TB_2 (List.mem_of_getElem? (i := 78) rfl))
theorem nwp_37 : Cond.fieldLinkNest RX11 169 "NoiseWatch$Watch" "heard" "LNoiseWatch$Queue;" "NoiseWatch" ∈ lw_tbl := (TB_2 (List.mem_of_getElem? (i := 80) rfl))
theorem nwp_38 : Cond.fieldLinkNest RX11 181 "NoiseWatch$Watch" "rows" "LNoiseWatch$Rows;" "NoiseWatch" ∈ lw_tbl := (TB_2 (List.mem_of_getElem? (i := 82) rfl))
theorem nwp_39 : Cond.fieldLinkNest RX11 54 "NoiseWatch$Watch" "text" "LNoiseWatch$Text;" "NoiseWatch" ∈ lw_tbl := (TB_2 (List.mem_of_getElem? (i := 84) rfl))
theorem nwp_40 : Cond.fieldLinkNest RX11 106 "NoiseWatch$Watch" "status" "I" "NoiseWatch" ∈ lw_tbl := (TB_2 (List.mem_of_getElem? (i := 86) rfl))
theorem nwp_41 : Cond.fieldLinkNest RX11 103 "NoiseWatch$Watch" "starts" "I" "NoiseWatch" ∈ lw_tbl := (TB_2 (List.mem_of_getElem? (i := 90) rfl))
theorem nwp_42 : Cond.fieldLinkNest RX11 83 "NoiseWatch$Reader" "draft" "LNoiseWatch$Settings;" "NoiseWatch" ∈ lw_tbl := (TB_2 (List.mem_of_getElem? (i := 132) rfl))
theorem nwp_43 : Cond.fieldLinkNest RX11 68 "NoiseWatch$Reader" "fault" "I" "NoiseWatch" ∈ lw_tbl := (TB_2 (List.mem_of_getElem? (i := 139) rfl))
theorem nwp_44 : Cond.fieldLinkNest RX11 72 "NoiseWatch$Reader" "place" "I" "NoiseWatch" ∈ lw_tbl := (TB_2 (List.mem_of_getElem? (i := 141) rfl))
theorem nwp_45 : Cond.fieldLinkNest RX11 205 "NoiseWatch$Bounds" "above" "I" "NoiseWatch" ∈ lw_tbl := (TB_2 (List.mem_of_getElem? (i := 169) rfl))
theorem nwp_46 : Cond.fieldLinkNest RX11 202 "NoiseWatch$Bounds" "below" "I" "NoiseWatch" ∈ lw_tbl := (TB_2 (List.mem_of_getElem? (i := 171) rfl))
theorem nwp_47 : Cond.fieldLinkNest RX5 70 "NoiseWatch" "LEAST" "[I" "NoiseWatch" ∈ lw_tbl := (TB_3 (List.mem_of_getElem? (i := 106) rfl))
theorem nwp_48 : Cond.fieldLinkNest RX5 73 "NoiseWatch" "MOST" "[I" "NoiseWatch" ∈ lw_tbl := (TB_3 (List.mem_of_getElem? (i := 108) rfl))
theorem nwp_49 : Cond.methodLinkNest RX10 11 yX7_init "NoiseWatch" ∈ lw_tbl := (TB_1 (List.mem_of_getElem? (i := 42) rfl))
theorem nwp_50 : Cond.methodLinkNest RX10 20 yX2_init "NoiseWatch" ∈ lw_tbl := (TB_1 (List.mem_of_getElem? (i := 77) rfl))
theorem nwp_51 : Cond.methodLinkNest RX10 27 yX8_init "NoiseWatch" ∈ lw_tbl := (TB_1 (List.mem_of_getElem? (i := 106) rfl))
theorem nwp_52 : Cond.methodLinkNest RX10 34 yX1_init "NoiseWatch" ∈ lw_tbl := (TB_1 (List.mem_of_getElem? (i := 123) rfl))
theorem nwp_53 : Cond.methodLinkNest RX10 41 yX3_init "NoiseWatch" ∈ lw_tbl := (TB_1 (List.mem_of_getElem? (i := 155) rfl))
theorem nwp_54 : Cond.methodLinkNest RX3 11 yX4_init "NoiseWatch" ∈ lw_tbl := (TB_1 (List.mem_of_getElem? (i := 161) rfl))
theorem nwp_55 : Cond.methodLinkNest RX10 48 yX4_init "NoiseWatch" ∈ lw_tbl := (TB_1 (List.mem_of_getElem? (i := 209) rfl))
theorem nwp_56 : Cond.methodLinkNest RX10 55 yX6_init "NoiseWatch" ∈ lw_tbl := (TB_1 (List.mem_of_getElem? (i := 212) rfl))
theorem nwp_57 : Cond.methodLinkNest RX10 62 yX9_init "NoiseWatch" ∈ lw_tbl := (TB_1 (List.mem_of_getElem? (i := 229) rfl))
theorem nwp_58 : Cond.methodLinkNest RX11 25 yX5_init "NoiseWatch" ∈ lw_tbl := (TB_2 (List.mem_of_getElem? (i := 125) rfl))
theorem nwp_59 : Cond.methodLinkNest RX5 11 yX7_init "NoiseWatch" ∈ lw_tbl := (TB_2 (List.mem_of_getElem? (i := 130) rfl))
theorem nwp_60 : Cond.methodLinkNest RX11 32 yX0_init "NoiseWatch" ∈ lw_tbl := (TB_2 (List.mem_of_getElem? (i := 161) rfl))
theorem nwp_61 : Cond.methodLinkNest RX11 39 yX2_init "NoiseWatch" ∈ lw_tbl := (TB_2 (List.mem_of_getElem? (i := 184) rfl))
theorem nwp_62 : Cond.methodLinkNest RX11 46 yX1_init "NoiseWatch" ∈ lw_tbl := (TB_2 (List.mem_of_getElem? (i := 186) rfl))
theorem nw_in : ∀ w ∈ nwL, w ∈ lw_tbl := List.forall_mem_cons.mpr ⟨nwp_0, List.forall_mem_cons.mpr ⟨nwp_1, List.forall_mem_cons.mpr ⟨nwp_2, List.forall_mem_cons.mpr ⟨nwp_3, List.forall_mem_cons.mpr ⟨nwp_4, List.forall_mem_cons.mpr ⟨nwp_5, List.forall_mem_cons.mpr ⟨nwp_6, List.forall_mem_cons.mpr ⟨nwp_7, List.forall_mem_cons.mpr ⟨nwp_8, List.forall_mem_cons.mpr ⟨nwp_9, List.forall_mem_cons.mpr ⟨nwp_10, List.forall_mem_cons.mpr ⟨nwp_11, List.forall_mem_cons.mpr ⟨nwp_12, List.forall_mem_cons.mpr ⟨nwp_13, List.forall_mem_cons.mpr ⟨nwp_14, List.forall_mem_cons.mpr ⟨nwp_15, List.forall_mem_cons.mpr ⟨nwp_16, List.forall_mem_cons.mpr ⟨nwp_17, List.forall_mem_cons.mpr ⟨nwp_18, List.forall_mem_cons.mpr ⟨nwp_19, List.forall_mem_cons.mpr ⟨nwp_20, List.forall_mem_cons.mpr ⟨nwp_21, List.forall_mem_cons.mpr ⟨nwp_22, List.forall_mem_cons.mpr ⟨nwp_23, List.forall_mem_cons.mpr ⟨nwp_24, List.forall_mem_cons.mpr ⟨nwp_25, List.forall_mem_cons.mpr ⟨nwp_26, List.forall_mem_cons.mpr ⟨nwp_27, List.forall_mem_cons.mpr ⟨nwp_28, List.forall_mem_cons.mpr ⟨nwp_29, List.forall_mem_cons.mpr ⟨nwp_30, List.forall_mem_cons.mpr ⟨nwp_31, List.forall_mem_cons.mpr ⟨nwp_32, List.forall_mem_cons.mpr ⟨nwp_33, List.forall_mem_cons.mpr ⟨nwp_34, List.forall_mem_cons.mpr ⟨nwp_35, List.forall_mem_cons.mpr ⟨nwp_36, List.forall_mem_cons.mpr ⟨nwp_37, List.forall_mem_cons.mpr ⟨nwp_38, List.forall_mem_cons.mpr ⟨nwp_39, List.forall_mem_cons.mpr ⟨nwp_40, List.forall_mem_cons.mpr ⟨nwp_41, List.forall_mem_cons.mpr ⟨nwp_42, List.forall_mem_cons.mpr ⟨nwp_43, List.forall_mem_cons.mpr ⟨nwp_44, List.forall_mem_cons.mpr ⟨nwp_45, List.forall_mem_cons.mpr ⟨nwp_46, List.forall_mem_cons.mpr ⟨nwp_47, List.forall_mem_cons.mpr ⟨nwp_48, List.forall_mem_cons.mpr ⟨nwp_49, List.forall_mem_cons.mpr ⟨nwp_50, List.forall_mem_cons.mpr ⟨nwp_51, List.forall_mem_cons.mpr ⟨nwp_52, List.forall_mem_cons.mpr ⟨nwp_53, List.forall_mem_cons.mpr ⟨nwp_54, List.forall_mem_cons.mpr ⟨nwp_55, List.forall_mem_cons.mpr ⟨nwp_56, List.forall_mem_cons.mpr ⟨nwp_57, List.forall_mem_cons.mpr ⟨nwp_58, List.forall_mem_cons.mpr ⟨nwp_59, List.forall_mem_cons.mpr ⟨nwp_60, List.forall_mem_cons.mpr ⟨nwp_61, List.forall_mem_cons.mpr ⟨nwp_62, fun _ h => absurd h List.not_mem_nil⟩⟩⟩⟩⟩⟩⟩⟩⟩⟩⟩⟩⟩⟩⟩⟩⟩⟩⟩⟩⟩⟩⟩⟩⟩⟩⟩⟩⟩⟩⟩⟩⟩⟩⟩⟩⟩⟩⟩⟩⟩⟩⟩⟩⟩⟩⟩⟩⟩⟩⟩⟩⟩⟩⟩⟩⟩⟩⟩⟩⟩⟩⟩
theorem at_in : ∀ w ∈ atL, w ∈ lw_tbl := by decide +kernel
theorem castL : Cond.castable "java/util/NoSuchElementException" "java/util/NoSuchElementException" ∈ atL := by decide +kernel
theorem cloneL : Cond.castable "[I" "java/lang/Cloneable" ∈ lw_tbl := (TB_1 (List.mem_of_getElem? (i := 53) rfl))
theorem overL : Cond.arrayOver (.object "NoiseWatch$Watch") ∈ lw_tbl := (TB_2 (List.mem_of_getElem? (i := 122) rfl))
theorem lsL0 : Cond.laysStatic "NoiseWatch" "FIRST" "[I" ∈ lw_tbl := (TB_1 (List.mem_of_getElem? (i := 47) rfl))
theorem lsL1 : Cond.laysStatic "NoiseWatch" "LEAST" "[I" ∈ lw_tbl := (TB_3 (List.mem_of_getElem? (i := 107) rfl))
theorem lsL2 : Cond.laysStatic "NoiseWatch" "MOST" "[I" ∈ lw_tbl := (TB_3 (List.mem_of_getElem? (i := 109) rfl))
theorem lsU : Cond.laysStatic "java/lang/Throwable" "UNASSIGNED_STACK" "[Ljava/lang/StackTraceElement;" ∈ lw_tbl := (TB_5 (List.mem_of_getElem? (i := 67) rfl))
theorem lsS : Cond.laysStatic "java/lang/Throwable" "SUPPRESSED_SENTINEL" "Ljava/util/List;" ∈ lw_tbl := (TB_5 (List.mem_of_getElem? (i := 69) rfl))
theorem inT : Cond.initialized "java/lang/Throwable" ∈ lw_tbl := (TB_1 (List.mem_of_getElem? (i := 21) rfl))
theorem inN : Cond.initialized "NoiseWatch" ∈ lw_tbl := (TB_1 (List.mem_of_getElem? (i := 1) rfl))
theorem acL0 : Cond.arrayClass .int ∈ lw_tbl := (TB_1 (List.mem_of_getElem? (i := 74) rfl))
theorem acL1 : Cond.arrayClass .long ∈ lw_tbl := (TB_1 (List.mem_of_getElem? (i := 103) rfl))
theorem acL2 : Cond.arrayClass .byte ∈ lw_tbl := (TB_3 (List.mem_of_getElem? (i := 128) rfl))
theorem acL3 : Cond.arrayClass .boolean ∈ lw_tbl := (TB_5 (List.mem_of_getElem? (i := 182) rfl))
theorem iiL0 : Cond.instantiable RX0 5 ∈ lw_tbl := (TB_2 (List.mem_of_getElem? (i := 160) rfl))
theorem iiL1 : Cond.instantiable RX1 6 ∈ lw_tbl := (TB_1 (List.mem_of_getElem? (i := 122) rfl))
theorem iiL2 : Cond.instantiable RX2 5 ∈ lw_tbl := (TB_1 (List.mem_of_getElem? (i := 76) rfl))
theorem iiL3 : Cond.instantiable RX3 7 ∈ lw_tbl := (TB_1 (List.mem_of_getElem? (i := 154) rfl))
theorem iiL4 : Cond.instantiable RX4 3 ∈ lw_tbl := (TB_1 (List.mem_of_getElem? (i := 160) rfl))
theorem iiL5 : Cond.instantiable RX5 8 ∈ lw_tbl := (TB_2 (List.mem_of_getElem? (i := 124) rfl))
theorem iiL6 : Cond.instantiable RX6 3 ∈ lw_tbl := (TB_1 (List.mem_of_getElem? (i := 211) rfl))
theorem iiL7 : Cond.instantiable RX7 5 ∈ lw_tbl := (TB_1 (List.mem_of_getElem? (i := 41) rfl))
theorem iiL8 : Cond.instantiable RX8 3 ∈ lw_tbl := (TB_1 (List.mem_of_getElem? (i := 105) rfl))
theorem iiL9 : Cond.instantiable RX9 4 ∈ lw_tbl := (TB_1 (List.mem_of_getElem? (i := 228) rfl))
theorem iiL10 : Cond.instantiable RX10 14 ∈ lw_tbl := (TB_1 (List.mem_of_getElem? (i := 35) rfl))
theorem iiL11 : Cond.instantiable RX11 8 ∈ lw_tbl := (TB_1 (List.mem_of_getElem? (i := 27) rfl))
theorem iiL12 : Cond.instantiable RX12 22 ∈ lw_tbl := (TB_5 (List.mem_of_getElem? (i := 102) rfl))
theorem len_lt {args : Array Value} {first s : State} {o : Option Outcome} {idx : List Nat} {t : Term} {v : Value} (h : (Term.length t).eval args first o idx s = some v) {a : Addr} {cell : Cell} (ht : t.eval args first o idx s = some (.ref a)) (hat : s.arrayAt? a = some cell) : cell.slots.size < 2 ^ 31 := by
  by_cases hn : cell.slots.size < 2 ^ 31
  · exact hn
  · simp only [Term.eval, Option.bind_eq_bind, ht, hat, Option.bind_some, if_neg hn] at h
    cases h
theorem su_T {args : Array Value} {s : State} {n : String} {f : Nat → Int32} (hl : (Cond.laysStatic "NoiseWatch" n "[I").before args s = true) (hini : (Cond.initialized "NoiseWatch").before args s = true) (harr : (Cond.arrayOf (.static "NoiseWatch" n "[I") .int).before args s = true) (hlen : (Cond.eq (.length (.static "NoiseWatch" n "[I")) (.int 9)).before args s = true)
    (hel : ∀ j : Nat, j < 9 → (Cond.eq (.elem (.static "NoiseWatch" n "[I") (.int (Int32.ofNat j))) (.int (f j))).before args s = true) (hex : (Cond.exactly (.static "NoiseWatch" n "[I") "[I").before args s = true) : ∃ t, ZS1 n t f (A0 s) s s.heap := by
  have hA : ∀ a : Nat, a < s.heap.size → ¬ A0 s a := fun a h q => absurd q (Nat.not_le.mpr h)
  obtain ⟨y, h1, h2⟩ := Cond.eq_one hlen
  have e1 : (Term.length (.static "NoiseWatch" n "[I")).eval args s none [] s = some (.int (Int32.ofNat 9)) := by
    rw [h1]; exact h2.symm
  obtain ⟨t, ht, hT⟩ := va_Tof (N := 9) (f := fun j => .int (f j)) (A := A0 s) (by decide) harr e1 (fun j hj => by
    obtain ⟨y, g1, g2⟩ := Cond.eq_one (hel j hj)
    rw [g1]; exact g2.symm) hA
  obtain ⟨t', cell, ht', hat, hv⟩ := Term.length_spec e1
  cases ht.symm.trans ht'
  refine ⟨t, va_Zof hl hini ht hA, hT, cell, (State.arrayAt?_spec hat).1, ?_, ?_⟩
  · have hs := len_lt e1 ht hat
    have h3 : nI 9 = nI cell.slots.size := Value.int.inj hv
    exact ((nI_eq (by decide) hs).mp h3).symm
  · obtain ⟨a, c, cell2, k, x1, x2, x3, -, -, x6, -⟩ := Cond.exactly_spec hex
    cases ht.symm.trans x1
    rw [(State.arrayAt?_spec hat).1] at x3
    cases x3
    rw [x6]; exact x2
theorem fl0 : ∀ w ∈ ([Cond.arrayOf (Term.static "NoiseWatch" "FIRST" "[I") .int, Cond.eq (.length (Term.static "NoiseWatch" "FIRST" "[I")) (.int 9), Cond.exactly (Term.static "NoiseWatch" "FIRST" "[I") "[I", Cond.eq (.elem (Term.static "NoiseWatch" "FIRST" "[I") (.int 0)) (.int 10), Cond.eq (.elem (Term.static "NoiseWatch" "FIRST" "[I") (.int 1)) (.int 20), Cond.eq (.elem (Term.static "NoiseWatch" "FIRST" "[I") (.int 2)) (.int 15), Cond.eq (.elem (Term.static "NoiseWatch" "FIRST" "[I") (.int 3)) (.int 32), Cond.eq (.elem (Term.static "NoiseWatch" "FIRST" "[I") (.int 4)) (.int 16), Cond.eq (.elem (Term.static "NoiseWatch" "FIRST" "[I") (.int 5)) (.int 4), Cond.eq (.elem (Term.static "NoiseWatch" "FIRST" "[I") (.int 6)) (.int 8), Cond.eq (.elem (Term.static "NoiseWatch" "FIRST" "[I") (.int 7)) (.int 0), Cond.eq (.elem (Term.static "NoiseWatch" "FIRST" "[I") (.int 8)) (.int 1)] : List Cond), w ∈ flatC (Jvm.Cond.and given_1 narrow_1) := by decide +kernel
theorem fl1 : ∀ w ∈ ([Cond.arrayOf (Term.static "NoiseWatch" "LEAST" "[I") .int, Cond.eq (.length (Term.static "NoiseWatch" "LEAST" "[I")) (.int 9), Cond.exactly (Term.static "NoiseWatch" "LEAST" "[I") "[I", Cond.eq (.elem (Term.static "NoiseWatch" "LEAST" "[I") (.int 0)) (.int 8), Cond.eq (.elem (Term.static "NoiseWatch" "LEAST" "[I") (.int 1)) (.int 1), Cond.eq (.elem (Term.static "NoiseWatch" "LEAST" "[I") (.int 2)) (.int 4), Cond.eq (.elem (Term.static "NoiseWatch" "LEAST" "[I") (.int 3)) (.int 0), Cond.eq (.elem (Term.static "NoiseWatch" "LEAST" "[I") (.int 4)) (.int 2), Cond.eq (.elem (Term.static "NoiseWatch" "LEAST" "[I") (.int 5)) (.int 1), Cond.eq (.elem (Term.static "NoiseWatch" "LEAST" "[I") (.int 6)) (.int 0), Cond.eq (.elem (Term.static "NoiseWatch" "LEAST" "[I") (.int 7)) (.int 0), Cond.eq (.elem (Term.static "NoiseWatch" "LEAST" "[I") (.int 8)) (.int 0)] : List Cond), w ∈ flatC (Jvm.Cond.and given_1 narrow_1) := by decide +kernel
theorem fl2 : ∀ w ∈ ([Cond.arrayOf (Term.static "NoiseWatch" "MOST" "[I") .int, Cond.eq (.length (Term.static "NoiseWatch" "MOST" "[I")) (.int 9), Cond.exactly (Term.static "NoiseWatch" "MOST" "[I") "[I", Cond.eq (.elem (Term.static "NoiseWatch" "MOST" "[I") (.int 0)) (.int 15), Cond.eq (.elem (Term.static "NoiseWatch" "MOST" "[I") (.int 1)) (.int 40), Cond.eq (.elem (Term.static "NoiseWatch" "MOST" "[I") (.int 2)) (.int 15), Cond.eq (.elem (Term.static "NoiseWatch" "MOST" "[I") (.int 3)) (.int 200), Cond.eq (.elem (Term.static "NoiseWatch" "MOST" "[I") (.int 4)) (.int 64), Cond.eq (.elem (Term.static "NoiseWatch" "MOST" "[I") (.int 5)) (.int 16), Cond.eq (.elem (Term.static "NoiseWatch" "MOST" "[I") (.int 6)) (.int 16), Cond.eq (.elem (Term.static "NoiseWatch" "MOST" "[I") (.int 7)) (.int 15), Cond.eq (.elem (Term.static "NoiseWatch" "MOST" "[I") (.int 8)) (.int 9999)] : List Cond), w ∈ flatC (Jvm.Cond.and given_1 narrow_1) := by decide +kernel
theorem flU : ∀ w ∈ ([Cond.isRef (.static "java/lang/Throwable" "UNASSIGNED_STACK" "[Ljava/lang/StackTraceElement;"), Cond.isRef (.static "java/lang/Throwable" "SUPPRESSED_SENTINEL" "Ljava/util/List;")] : List Cond), w ∈ flatC (Jvm.Cond.and given_1 narrow_1) := by decide +kernel
abbrev tmS (i : Nat) : Term := Term.string "NoiseWatch$Reader" (117 + 2 * i)
abbrev tvS (i : Nat) : Term := .field (tmS i) "java/lang/String" "value" "[B"
theorem flS1 : ∀ i, i < 10 → Cond.exactly (tmS i) "java/lang/String" ∈ flatC (Jvm.Cond.and given_1 narrow_1) := by decide +kernel
theorem flS2 : ∀ i, i < 10 → Cond.eq (.field (tmS i) "java/lang/String" "coder" "B") (.int 0) ∈ flatC (Jvm.Cond.and given_1 narrow_1) := by decide +kernel
theorem flS3 : ∀ i, i < 10 → Cond.arrayOf (tvS i) .byte ∈ flatC (Jvm.Cond.and given_1 narrow_1) := by decide +kernel
theorem flS4 : ∀ i, i < 10 → Cond.eq (.length (tvS i)) (.int (Int32.ofNat (lenS.getD i 0))) ∈ flatC (Jvm.Cond.and given_1 narrow_1) := by decide +kernel
theorem flS5 : ∀ i, i < 10 → ∀ j, j < lenS.getD i 0 → Cond.eq (.elem (tvS i) (.int (Int32.ofNat j))) (.int ((bytS.getD i []).getD j 0)) ∈ flatC (Jvm.Cond.and given_1 narrow_1) := by decide +kernel
theorem flS6 : ∀ i, i < 10 → ∀ j, j < 10 → i ≠ j → (Cond.not (Cond.eq (tmS i) (tmS j)) ∈ flatC (Jvm.Cond.and given_1 narrow_1) ∨ Cond.not (Cond.eq (tmS j) (tmS i)) ∈ flatC (Jvm.Cond.and given_1 narrow_1)) := by decide +kernel
theorem flS7 : Cond.eq (.static "java/lang/String" "COMPACT_STRINGS" "Z") (.int 1) ∈ flatC (Jvm.Cond.and given_1 narrow_1) := by decide +kernel
theorem flS8 : Cond.isRef (.static "jdk/internal/util/Preconditions" "SIOOBE_FORMATTER" "Ljava/util/function/BiFunction;") ∈ flatC (Jvm.Cond.and given_1 narrow_1) := by decide +kernel
theorem lenS_lt : ∀ i, i < 10 → lenS.getD i 0 < 2 ^ 31 := by decide +kernel
theorem lsC : Cond.laysStatic "java/lang/String" "COMPACT_STRINGS" "Z" ∈ lw_tbl := (TB_3 (List.mem_of_getElem? (i := 58) rfl))
theorem lsQ : Cond.laysStatic "jdk/internal/util/Preconditions" "SIOOBE_FORMATTER" "Ljava/util/function/BiFunction;" ∈ lw_tbl := (TB_3 (List.mem_of_getElem? (i := 75) rfl))
theorem inS : Cond.initialized "java/lang/String" ∈ lw_tbl := (TB_1 (List.mem_of_getElem? (i := 17) rfl))
theorem inQ : Cond.initialized "jdk/internal/util/Preconditions" ∈ lw_tbl := (TB_1 (List.mem_of_getElem? (i := 19) rfl))
theorem strL : ∀ i : Nat, i < 10 → Cond.stringRef RX5 (117 + 2 * i) (txtS.getD i "") ∈ lw_tbl
  | 0, _ => (TB_3 (List.mem_of_getElem? (i := 35) rfl))
  | 1, _ => (TB_3 (List.mem_of_getElem? (i := 36) rfl))
  | 2, _ => (TB_3 (List.mem_of_getElem? (i := 37) rfl))
  | 3, _ => (TB_3 (List.mem_of_getElem? (i := 38) rfl))
  | 4, _ => (TB_3 (List.mem_of_getElem? (i := 39) rfl))
  | 5, _ => (TB_3 (List.mem_of_getElem? (i := 40) rfl))
  | 6, _ => (TB_3 (List.mem_of_getElem? (i := 41) rfl))
  | 7, _ => (TB_3 (List.mem_of_getElem? (i := 42) rfl))
  | 8, _ => (TB_3 (List.mem_of_getElem? (i := 43) rfl))
  | 9, _ => (TB_3 (List.mem_of_getElem? (i := 44) rfl))
  | i + 10, h => absurd h (by omega)
set_option maxHeartbeats 4000000 in
theorem lw_setup {p : Program} {s : State} {m : MethodId} {meth : Method} {c : Code} {b L : Nat} {xs : Nat → Int32} (C0 : lw_At p s m meth c b L xs) : ∃ (D : va_G) (ca : Nat → ClassId) (zz : Nat → Nat), va_K D vwCl (TY ca) s ∧ NW s ∧ ZS zz (A0 s) s s.heap := by
  obtain ⟨hx, hb, hr, hml, hown, hts, hX, hbl, hlocks, hgv⟩ := C0
  have hA : ∀ a : Nat, a < s.heap.size → ¬ A0 s a := fun a h q => absurd q (Nat.not_le.mpr h)
  have hG : ∀ w ∈ GL, w.before #[Value.ref b] s = true := fun w h => hts w (GL_good h).1
  have hF := flat_of_before _ hgv
  obtain ⟨c0, iS0, hKn0⟩ := u_known (C := RX0) (T := TX0) (N := 5) (n := 5) hG inX0 (hts _ iiL0)
  obtain ⟨c1, iS1, hKn1⟩ := u_known (C := RX1) (T := TX1) (N := 6) (n := 6) hG inX1 (hts _ iiL1)
  obtain ⟨c2, iS2, hKn2⟩ := u_known (C := RX2) (T := TX2) (N := 5) (n := 5) hG inX2 (hts _ iiL2)
  obtain ⟨c3, iS3, hKn3⟩ := u_known (C := RX3) (T := TX3) (N := 7) (n := 7) hG inX3 (hts _ iiL3)
  obtain ⟨c4, iS4, hKn4⟩ := u_known (C := RX4) (T := TX4) (N := 3) (n := 3) hG inX4 (hts _ iiL4)
  obtain ⟨c5, iS5, hKn5⟩ := u_known (C := RX5) (T := TX5) (N := 8) (n := 8) hG inX5 (hts _ iiL5)
  obtain ⟨c6, iS6, hKn6⟩ := u_known (C := RX6) (T := TX6) (N := 3) (n := 3) hG inX6 (hts _ iiL6)
  obtain ⟨c7, iS7, hKn7⟩ := u_known (C := RX7) (T := TX7) (N := 5) (n := 5) hG inX7 (hts _ iiL7)
  obtain ⟨c8, iS8, hKn8⟩ := u_known (C := RX8) (T := TX8) (N := 3) (n := 3) hG inX8 (hts _ iiL8)
  obtain ⟨c9, iS9, hKn9⟩ := u_known (C := RX9) (T := TX9) (N := 4) (n := 4) hG inX9 (hts _ iiL9)
  obtain ⟨c10, iS10, hKn10⟩ := u_known (C := RX10) (T := TX10) (N := 14) (n := 14) hG inX10 (hts _ iiL10)
  obtain ⟨c11, iS11, hKn11⟩ := u_known (C := RX11) (T := TX11) (N := 8) (n := 8) hG inX11 (hts _ iiL11)
  obtain ⟨c12, iS12, hKn12⟩ := u_known (C := RX12) (T := TX12) (N := 22) (n := 22) hG inX12 (hts _ iiL12)
  obtain ⟨cA0, kA0, comp0, hA01, hA02, hA03⟩ := Cond.arrayClass_spec (hts _ acL0)
  obtain ⟨cA1, kA1, comp1, hA11, hA12, hA13⟩ := Cond.arrayClass_spec (hts _ acL1)
  obtain ⟨cA2, kA2, comp2, hA21, hA22, hA23⟩ := Cond.arrayClass_spec (hts _ acL2)
  obtain ⟨cA3, kA3, comp3, hA31, hA32, hA33⟩ := Cond.arrayClass_spec (hts _ acL3)
  obtain ⟨comp4, cA4, kA4, hA41, -, hA42, hA43, hA44⟩ := Cond.arrayOver_spec (hts _ overL)
  obtain ⟨t0, hT0⟩ := su_T (n := "FIRST") (f := stF) (hts _ lsL0) (hts _ inN) (hF _ (fl0 _ (List.mem_of_getElem? (i := 0) rfl))) (hF _ (fl0 _ (List.mem_of_getElem? (i := 1) rfl))) (fun j hj => by
      match j, hj with
      | 0, _ => exact hF _ (fl0 _ (List.mem_of_getElem? (i := 3) rfl))
      | 1, _ => exact hF _ (fl0 _ (List.mem_of_getElem? (i := 4) rfl))
      | 2, _ => exact hF _ (fl0 _ (List.mem_of_getElem? (i := 5) rfl))
      | 3, _ => exact hF _ (fl0 _ (List.mem_of_getElem? (i := 6) rfl))
      | 4, _ => exact hF _ (fl0 _ (List.mem_of_getElem? (i := 7) rfl))
      | 5, _ => exact hF _ (fl0 _ (List.mem_of_getElem? (i := 8) rfl))
      | 6, _ => exact hF _ (fl0 _ (List.mem_of_getElem? (i := 9) rfl))
      | 7, _ => exact hF _ (fl0 _ (List.mem_of_getElem? (i := 10) rfl))
      | 8, _ => exact hF _ (fl0 _ (List.mem_of_getElem? (i := 11) rfl))
      | j + 9, h => exact absurd h (by omega)) (hF _ (fl0 _ (List.mem_of_getElem? (i := 2) rfl)))
  obtain ⟨t1, hT1⟩ := su_T (n := "LEAST") (f := stL) (hts _ lsL1) (hts _ inN) (hF _ (fl1 _ (List.mem_of_getElem? (i := 0) rfl))) (hF _ (fl1 _ (List.mem_of_getElem? (i := 1) rfl))) (fun j hj => by
      match j, hj with
      | 0, _ => exact hF _ (fl1 _ (List.mem_of_getElem? (i := 3) rfl))
      | 1, _ => exact hF _ (fl1 _ (List.mem_of_getElem? (i := 4) rfl))
      | 2, _ => exact hF _ (fl1 _ (List.mem_of_getElem? (i := 5) rfl))
      | 3, _ => exact hF _ (fl1 _ (List.mem_of_getElem? (i := 6) rfl))
      | 4, _ => exact hF _ (fl1 _ (List.mem_of_getElem? (i := 7) rfl))
      | 5, _ => exact hF _ (fl1 _ (List.mem_of_getElem? (i := 8) rfl))
      | 6, _ => exact hF _ (fl1 _ (List.mem_of_getElem? (i := 9) rfl))
      | 7, _ => exact hF _ (fl1 _ (List.mem_of_getElem? (i := 10) rfl))
      | 8, _ => exact hF _ (fl1 _ (List.mem_of_getElem? (i := 11) rfl))
      | j + 9, h => exact absurd h (by omega)) (hF _ (fl1 _ (List.mem_of_getElem? (i := 2) rfl)))
  obtain ⟨t2, hT2⟩ := su_T (n := "MOST") (f := stM) (hts _ lsL2) (hts _ inN) (hF _ (fl2 _ (List.mem_of_getElem? (i := 0) rfl))) (hF _ (fl2 _ (List.mem_of_getElem? (i := 1) rfl))) (fun j hj => by
      match j, hj with
      | 0, _ => exact hF _ (fl2 _ (List.mem_of_getElem? (i := 3) rfl))
      | 1, _ => exact hF _ (fl2 _ (List.mem_of_getElem? (i := 4) rfl))
      | 2, _ => exact hF _ (fl2 _ (List.mem_of_getElem? (i := 5) rfl))
      | 3, _ => exact hF _ (fl2 _ (List.mem_of_getElem? (i := 6) rfl))
      | 4, _ => exact hF _ (fl2 _ (List.mem_of_getElem? (i := 7) rfl))
      | 5, _ => exact hF _ (fl2 _ (List.mem_of_getElem? (i := 8) rfl))
      | 6, _ => exact hF _ (fl2 _ (List.mem_of_getElem? (i := 9) rfl))
      | 7, _ => exact hF _ (fl2 _ (List.mem_of_getElem? (i := 10) rfl))
      | 8, _ => exact hF _ (fl2 _ (List.mem_of_getElem? (i := 11) rfl))
      | j + 9, h => exact absurd h (by omega)) (hF _ (fl2 _ (List.mem_of_getElem? (i := 2) rfl)))
  obtain ⟨adK, adV, hSS, hTm⟩ := vk_Sof (args := #[Value.ref b]) (s := s) (N := 10) (tm := tmS) (len := lenS) (byt := bytS) (A := A0 s) lenS_lt (fun i hi => hF _ (flS1 i hi)) (fun i hi => hF _ (flS2 i hi)) (fun i hi => hF _ (flS3 i hi)) (fun i hi => hF _ (flS4 i hi)) (fun i hi j hj => hF _ (flS5 i hi j hj)) (fun i j hi hj hij => (flS6 i hi j hj hij).imp (fun h => hF _ h) (fun h => hF _ h)) hA
  have eK : ∀ i : Nat, i < 10 → (fun k : Nat => if k = 0 then t0 else if k = 1 then t1 else if k = 2 then t2 else if k < 30 then adK (k - 10) else adV (k - 30)) (10 + i) = adK i := fun i hi => by
    show (if 10 + i = 0 then t0 else if 10 + i = 1 then t1 else if 10 + i = 2 then t2 else if 10 + i < 30 then adK (10 + i - 10) else adV (10 + i - 30)) = adK i
    rw [if_neg (by omega), if_neg (by omega), if_neg (by omega), if_pos (by omega), Nat.add_sub_cancel_left]
  have eV : ∀ i : Nat, i < 10 → (fun k : Nat => if k = 0 then t0 else if k = 1 then t1 else if k = 2 then t2 else if k < 30 then adK (k - 10) else adV (k - 30)) (30 + i) = adV i := fun i hi => by
    show (if 30 + i = 0 then t0 else if 30 + i = 1 then t1 else if 30 + i = 2 then t2 else if 30 + i < 30 then adK (30 + i - 10) else adV (30 + i - 30)) = adV i
    rw [if_neg (by omega), if_neg (by omega), if_neg (by omega), if_neg (by omega), Nat.add_sub_cancel_left]
  refine ⟨(fun k => if k = 0 then c0 else if k = 1 then c1 else if k = 2 then c2 else if k = 3 then c3 else if k = 4 then c4 else if k = 5 then c5 else if k = 6 then c6 else if k = 7 then c7 else if k = 8 then c8 else if k = 9 then c9 else if k = 10 then c10 else if k = 11 then c11 else c12, fun k => if k = 0 then iS0 else if k = 1 then iS1 else if k = 2 then iS2 else if k = 3 then iS3 else if k = 4 then iS4 else if k = 5 then iS5 else if k = 6 then iS6 else if k = 7 then iS7 else if k = 8 then iS8 else if k = 9 then iS9 else if k = 10 then iS10 else if k = 11 then iS11 else iS12), fun k => if k = 0 then cA0 else if k = 1 then cA1 else if k = 2 then cA2 else if k = 3 then cA3 else cA4, fun k => if k = 0 then t0 else if k = 1 then t1 else if k = 2 then t2 else if k < 30 then adK (k - 10) else adV (k - 30), ⟨?_, ?_⟩, ⟨fun w hw => ?_, va_Nw.of rfl (hts _ cloneL), va_AO.of (hts _ overL), fun w hw => ?_⟩, hT0, hT1, hT2, ⟨vx_Zqof (hts _ lsU) (hts _ inT) (hF _ (flU _ (List.mem_of_getElem? (i := 0) rfl))) hA, vx_Zqof (hts _ lsS) (hts _ inT) (hF _ (flU _ (List.mem_of_getElem? (i := 1) rfl))) hA⟩, ⟨fun i hi => ?_, fun i j hi hj => ?_⟩, va_Zof (hts _ lsC) (hts _ inS) (va_eqi (hF _ flS7)) hA, (vx_Zqof (hts _ lsQ) (hts _ inQ) (hF _ flS8) hA).1, fun i hi => ?_⟩
  · intro k q hq
    match k, hq with
    | 0, hq => cases hq; exact hKn0
    | 1, hq => cases hq; exact hKn1
    | 2, hq => cases hq; exact hKn2
    | 3, hq => cases hq; exact hKn3
    | 4, hq => cases hq; exact hKn4
    | 5, hq => cases hq; exact hKn5
    | 6, hq => cases hq; exact hKn6
    | 7, hq => cases hq; exact hKn7
    | 8, hq => cases hq; exact hKn8
    | 9, hq => cases hq; exact hKn9
    | 10, hq => cases hq; exact hKn10
    | 11, hq => cases hq; exact hKn11
    | 12, hq => cases hq; exact hKn12
    | k + 13, hq => simp at hq
  · intro k q hq
    match k, hq with
    | 0, hq => cases hq; exact ⟨fun n z => ⟨fun k h => (by cases h), kA0, hA02, comp0, hA03⟩, hA01⟩
    | 1, hq => cases hq; exact ⟨fun n z => ⟨fun k h => (by cases h), kA1, hA12, comp1, hA13⟩, hA11⟩
    | 2, hq => cases hq; exact ⟨fun n z => ⟨fun k h => (by cases h), kA2, hA22, comp2, hA23⟩, hA21⟩
    | 3, hq => cases hq; exact ⟨fun n z => ⟨fun k h => (by cases h), kA3, hA32, comp3, hA33⟩, hA31⟩
    | 4, hq => cases hq; exact ⟨fun n z => ⟨fun k h => (by cases h), kA4, hA42, comp4, hA43⟩, kA4, comp4, hA42, hA43, hA41, hA44⟩
    | k + 5, hq => simp at hq
  · have h1 := List.all_eq_true.mp nwL_nest w hw
    have h2 := hts w (nw_in w hw)
    cases w <;> first | exact va_Nw.of rfl h2 | cases h1
  · have h1 := List.all_eq_true.mp atL_ok w hw
    have h2 := hts w (at_in w hw)
    have h3 : w.onTables = true := by
      rcases Bool.or_eq_true _ _ ▸ h1 with h3 | h3
      · exact (Bool.and_eq_true _ _ ▸ h3 : _ ∧ _).1
      · cases w <;> first | rfl | cases h3
    exact va_Nw.of h3 h2
  · have h9 := hSS.1 i hi
    dsimp only at h9 ⊢
    have e1 := eK i hi
    have e2 := eV i hi
    dsimp only at e1 e2
    rw [e1, e2]
    exact h9
  · have e1 := eK i hi
    have e2 := eK j hj
    dsimp only at e1 e2 ⊢
    rw [e1, e2]
    exact hSS.2 i j hi hj
  · have e1 := eK i hi
    dsimp only at e1 ⊢
    rw [e1]
    exact vk_R.of (hts _ (strL i hi)) (hTm i hi)
