/-- a String that is returned -/
abbrev QS (D : va_G) (ca : Nat → ClassId) (q : Nat) (ws : va_W) (A : Nat → Prop) : Array Value → State → Outcome → State → Prop := va_Qr (fun (_ : Unit) => True) (fun _ a t => a = q ∧ va_P D vwCl ws t.heap ∧ va_K D vwCl (TY ca) t ∧ va_D A ws) A
section LIBS
variable {p : Program} {l : Launch} {e : Env} {R : Room} {s : State} {m : MethodId} {args : Array Value} {below : List Frame} {meth : Method} {c : Code} {H : Heap} {locs : List Loc} {cells slots : Nat} {Q : State → Prop} {A : Nat → Prop} {D : va_G} {ca : Nat → ClassId} {zz : Nat → Nat} {cc bytes : ByteArray} {pc : Nat} {ls : Array Slot} {rest st0 As : List Value}
variable {nL maxL n index ci N : Nat} {Ts wsm : List Cond} {own C : String} {y : MethodName} {ret : Option FieldType} {rm : Room} {b : Nat} {wc wn ws wx : va_W} {T : u_T} {fs : List Value} {ρ : Type} {r0 : ρ}
theorem rt_T {v r : Int32} {ty : FieldType} (hx : p.tables.exec = Jvm.exec) (hb : c.code = cc) (hr : meth.sig.returnType = some ty) (hlocks : meth.locks = false) (hK : va_K D vwCl (TY ca) s) (hP : va_P D vwCl ws H) (hD : va_D A ws) (hS : va_S A s.heap H locs) (hQ : Q = MQ below (QI D ca r wn A) args s 0 0 A) (hv : narrow ty (.int v) = .int v) (ev : v = r) (ew : ws = wn) (hdg : decode cc pc = .ok (.ireturn, 1)) : W p l e R s m args below meth c H locs 0 0 Q (F0 m pc ls [.int v]) := by
  subst ev; subst ew; subst hQ
  exact W.zret hx hb hr hv (fun t ht hW => ⟨⟨v, (), rfl, rfl, by rw [ht]; exact hP, va_K.moved hW.alike hK, hD⟩, hS.F ht⟩) hS.2.2 hdg
theorem rt_S {q q' : Nat} {nm : String} (hx : p.tables.exec = Jvm.exec) (hb : c.code = cc) (hr : meth.sig.returnType = some (.object nm)) (hlocks : meth.locks = false) (hK : va_K D vwCl (TY ca) s) (hP : va_P D vwCl ws H) (hD : va_D A ws) (hS : va_S A s.heap H locs) (hQ : Q = MQ below (QS D ca q wn A) args s 0 0 A) (ev : q' = q) (ew : ws = wn) (hdg : decode cc pc = .ok (.areturn, 1)) : W p l e R s m args below meth c H locs 0 0 Q (F0 m pc ls [.ref q']) := by
  subst ev; subst ew; subst hQ
  exact W.aret hx hb hr (Or.inl ⟨nm, rfl⟩) (Or.inr ⟨q', rfl⟩) (fun t ht hW => ⟨⟨(), q', rfl, trivial, rfl, by rw [ht]; exact hP, va_K.moved hW.alike hK, hD⟩, hS.F ht⟩) hS.2.2 hdg
theorem xT_I {r : Int32} {w : Nat} (S : CallFix p m c cc nL s args Ts own) (hM : Met l y wsm rm (PR D ca zz (.ref (zz (10 + w)) :: As) H.size []) (QI D ca r [] (va_A [] H.size)) 0 0 (va_A [] H.size)) (cw : CallW R s args own "java/lang/String" index y bytes maxL ret wsm rm 0 0 n) (hw : w < 10)
    (hK : va_K D vwCl (TY ca) s) (hN : NW s) (hZ : ZS zz A s s.heap) (hA : ∀ q, s.heap.size ≤ q → A q) (hP : va_P D vwCl ws H) (hD : va_D A ws) (hS : va_S A s.heap H locs)
    (hn : As.length = n) (hsz : ls.size = nL) (hst : st0 = As.reverse ++ .ref (zz (10 + w)) :: rest) (hW : (rest.map fun v => v.category).sum ≤ 8) (hdg : decode cc pc = .ok (.invokevirtual index, 3)) (hcr : cells ≤ R.cells ∧ slots ≤ R.slots)
    (kk : ∀ (H1 : Heap) (locs1 : List Loc), va_P D vwCl ws H1 → va_D A ws → va_S A s.heap H1 locs1 → W p l e R s m args below meth c H1 locs1 cells slots Q (F0 m (pc + 3) ls (.int r :: rest))) : W p l e R s m args below meth c H locs cells slots Q (F0 m pc ls st0) := by
  have hFc := va_free (wc := []) hD hS hA [] rfl
  refine va_calli (va_runV (As := As) (rest := rest) S hM cw ⟨PR_blind, vk_recv hZ.2.2.2.2.1 hw hS, pr_mk (va_P_pick (is := []) hP rfl) hK (hD.sub [] rfl rfl) hN hZ hS hFc⟩ rfl hn hsz hst (lv_room hW) hdg hcr) hS (fun q _ h => hFc q h) hFc (fun r' u t H1 locs1 ht hvm hw hB hz1 hk1 hS1 => ?_)
  obtain ⟨hP1, -, -⟩ := hB
  rw [ht] at hP1
  obtain ⟨g1, g2⟩ := wmk_P hP hD [] [] rfl rfl rfl hk1 hP1
  subst hw
  exact kk H1 locs1 g1 g2 hS1
theorem xS_S {q : Nat} (S : CallFix p m c cc nL s args Ts own) (hM : Met l y wsm rm (PR D ca zz As H.size []) (QS D ca q [] (va_A [] H.size)) 0 0 (va_A [] H.size)) (cw : CallB R s args own index y bytes maxL ret wsm rm 0 0 n ∧ (Cond.static y).before args s = true)
    (hK : va_K D vwCl (TY ca) s) (hN : NW s) (hZ : ZS zz A s s.heap) (hA : ∀ q, s.heap.size ≤ q → A q) (hP : va_P D vwCl ws H) (hD : va_D A ws) (hS : va_S A s.heap H locs)
    (hn : As.length = n) (hsz : ls.size = nL) (hst : st0 = As.reverse ++ rest) (hW : (rest.map fun v => v.category).sum ≤ 8) (hdg : decode cc pc = .ok (.invokestatic index, 3)) (hcr : cells ≤ R.cells ∧ slots ≤ R.slots)
    (kk : ∀ (H1 : Heap) (locs1 : List Loc), va_P D vwCl ws H1 → va_D A ws → va_S A s.heap H1 locs1 → W p l e R s m args below meth c H1 locs1 cells slots Q (F0 m (pc + 3) ls (.ref q :: rest))) : W p l e R s m args below meth c H locs cells slots Q (F0 m pc ls st0) := by
  have hFc := va_free (wc := []) hD hS hA [] rfl
  refine va_callr (va_runS (As := As) (rest := rest) S hM cw ⟨PR_blind, pr_mk (va_P_pick (is := []) hP rfl) hK (hD.sub [] rfl rfl) hN hZ hS hFc⟩ rfl hn hsz hst (lv_room hW) hdg hcr) hS (fun q _ h => hFc q h) hFc (fun u ra t H1 locs1 ht hvm hw hB hz1 hk1 hS1 => ?_)
  obtain ⟨hq, hP1, -, -⟩ := hB
  rw [ht] at hP1
  obtain ⟨g1, g2⟩ := wmk_P hP hD [] [] rfl rfl rfl hk1 hP1
  subst hq
  exact kk H1 locs1 g1 g2 hS1
end LIBS
def sch (w k : Nat) : Int32 := (bytS.getD w []).getD k 0
def f_J0_length_8abf5 (w : Nat) : Option Int32 := if w < 10 then some (Int32.ofNat (lenS.getD w 0)) else none
def f_J0_charAt_5068e (w : Nat) (p1 : Int32) : Option Int32 := if w < 10 then (chkin p1 (lenS.getD w 0) <| some (sch w p1.toNatClampNeg)) else none
def f_X5_wordOf (p0 : Int32) : Option Nat := if p0 < 0 ∨ 8 < p0 then some 9 else some p0.toNatClampNeg
theorem sl_J0_length_8abf5 {w : Nat} {r : Int32} (h : f_J0_length_8abf5 w = some r) : w < 10 := by
  unfold f_J0_length_8abf5 at h
  by_cases hw : w < 10
  · exact hw
  · rw [if_neg hw] at h; cases h
theorem sl_J0_charAt_5068e {w : Nat} {p1 r : Int32} (h : f_J0_charAt_5068e w p1 = some r) : w < 10 := by
  unfold f_J0_charAt_5068e at h
  by_cases hw : w < 10
  · exact hw
  · rw [if_neg hw] at h; cases h
theorem sch_ok : ∀ w, w < 10 → ∀ k, k < lenS.getD w 0 → ((sch w k &&& 255).toUInt32 % 65536).toInt32 = sch w k ∧ narrow .char (.int (sch w k)) = .int (sch w k) := by decide +kernel
theorem len_ok : ∀ w, w < 10 → Int32.ofNat (lenS.getD w 0) >>> ((0 : Int32) &&& 31) = Int32.ofNat (lenS.getD w 0) ∧ lenS.getD w 0 < 2 ^ 31 := by decide +kernel
abbrev wq_J3_checkIndex_8e157 : List Cond := Cond.code yJ3_checkIndex_8e157 cJ3_checkIndex_8e157 3 (some .int) :: GL
theorem c_J3_checkIndex_8e157N (l : Launch) (D : va_G) (ca : Nat → ClassId) (zz : Nat → Nat) (sz : Nat) (p0 p1 : Int32) (h0 : ¬ p0 < 0) (h1 : p0 < p1) : Met l yJ3_checkIndex_8e157 wq_J3_checkIndex_8e157 ({ frames := 0, cells := 0, slots := 0, locals := 0 } : Room) (PR D ca zz [.int p0, .int p1, .null] sz []) (QI D ca p0 [] (va_A [] sz)) 0 0 (va_A [] sz) := by
  refine en (y := yJ3_checkIndex_8e157) (wsm := wq_J3_checkIndex_8e157) (av := [.int p0, .int p1, .null]) (cc := cJ3_checkIndex_8e157) (maxL := 3) (ret := (some .int)) (Qf := fun A => QI D ca p0 [] A) (by decide) rfl (Nat.le_of_ble_eq_true rfl) ?_
  intro p e s m args below meth c A Q ls hx hb hr hml hown hts hlocks hnm hA hN hZ hK hQ hP hD hS hl
  refine lv_iload_n hx hb dJ3_checkIndex_8e157_0 rfl (lv_at hl 0 rfl) ?_
  refine lv_if_lt (tgt := 9) hx hb dJ3_checkIndex_8e157_1 (by decide) (fun h => absurd h h0) (fun _ => ?_)
  refine lv_iload_n hx hb dJ3_checkIndex_8e157_4 rfl (lv_at hl 0 rfl) ?_
  refine lv_iload_n hx hb dJ3_checkIndex_8e157_5 rfl (lv_at hl 1 rfl) ?_
  refine lv_icmp_lt (tgt := 16) hx hb dJ3_checkIndex_8e157_6 (by decide) (fun _ => ?_) (fun h => absurd h1 h)
  refine lv_iload_n hx hb dJ3_checkIndex_8e157_16 rfl (lv_at hl 0 rfl) ?_
  exact rt_I hx hb hr hlocks hK hP hD hS hQ rfl rfl dJ3_checkIndex_8e157_17
theorem c_J3_checkIndex_8e157R (l : Launch) (D : va_G) (ca : Nat → ClassId) (zz : Nat → Nat) (sz : Nat) (t : Nat) (p0 p1 : Int32) (h0 : ¬ p0 < 0) (h1 : p0 < p1) : Met l yJ3_checkIndex_8e157 wq_J3_checkIndex_8e157 ({ frames := 0, cells := 0, slots := 0, locals := 0 } : Room) (PR D ca zz [.int p0, .int p1, .ref t] sz []) (QI D ca p0 [] (va_A [] sz)) 0 0 (va_A [] sz) := by
  refine en (y := yJ3_checkIndex_8e157) (wsm := wq_J3_checkIndex_8e157) (av := [.int p0, .int p1, .ref t]) (cc := cJ3_checkIndex_8e157) (maxL := 3) (ret := (some .int)) (Qf := fun A => QI D ca p0 [] A) (by decide) rfl (Nat.le_of_ble_eq_true rfl) ?_
  intro p e s m args below meth c A Q ls hx hb hr hml hown hts hlocks hnm hA hN hZ hK hQ hP hD hS hl
  refine lv_iload_n hx hb dJ3_checkIndex_8e157_0 rfl (lv_at hl 0 rfl) ?_
  refine lv_if_lt (tgt := 9) hx hb dJ3_checkIndex_8e157_1 (by decide) (fun h => absurd h h0) (fun _ => ?_)
  refine lv_iload_n hx hb dJ3_checkIndex_8e157_4 rfl (lv_at hl 0 rfl) ?_
  refine lv_iload_n hx hb dJ3_checkIndex_8e157_5 rfl (lv_at hl 1 rfl) ?_
  refine lv_icmp_lt (tgt := 16) hx hb dJ3_checkIndex_8e157_6 (by decide) (fun _ => ?_) (fun h => absurd h1 h)
  refine lv_iload_n hx hb dJ3_checkIndex_8e157_16 rfl (lv_at hl 0 rfl) ?_
  exact rt_I hx hb hr hlocks hK hP hD hS hQ rfl rfl dJ3_checkIndex_8e157_17
abbrev wq_J0_checkIndex_df160 : List Cond := Cond.code yJ0_checkIndex_df160 cJ0_checkIndex_df160 2 none :: GL
theorem c_J0_checkIndex_df160 (l : Launch) (D : va_G) (ca : Nat → ClassId) (zz : Nat → Nat) (sz : Nat) (p0 p1 : Int32) (h0 : ¬ p0 < 0) (h1 : p0 < p1) : Met l yJ0_checkIndex_df160 wq_J0_checkIndex_df160 ({ frames := 1, cells := 0, slots := 0, locals := 22 } : Room) (PR D ca zz [.int p0, .int p1] sz []) (QV D ca [] (va_A [] sz)) 0 0 (va_A [] sz) := by
  refine en (y := yJ0_checkIndex_df160) (wsm := wq_J0_checkIndex_df160) (av := [.int p0, .int p1]) (cc := cJ0_checkIndex_df160) (maxL := 2) (ret := none) (Qf := fun A => QV D ca [] A) (by decide) rfl (Nat.le_of_ble_eq_true rfl) ?_
  intro p e s m args below meth c A Q ls hx hb hr hml hown hts hlocks hnm hA hN hZ hK hQ hP hD hS hl
  refine lv_iload_n hx hb dJ0_checkIndex_df160_0 rfl (lv_at hl 0 rfl) ?_
  refine lv_iload_n hx hb dJ0_checkIndex_df160_1 rfl (lv_at hl 1 rfl) ?_
  rcases hZ.2.2.2.2.2.2.1 with hq | ⟨t, hq⟩
  · refine va_gets hx hb hq hS hown (hts _ (List.mem_cons_of_mem _ gw_3_74)) (fun _ h9 => h9) dJ0_checkIndex_df160_2 ?_
    refine xS_I (As := [.int p0, .int p1, .null]) (wx := []) ⟨hx, hb, hml, hown, hts⟩ (c_J3_checkIndex_8e157N l D ca zz _ p0 p1 h0 h1) (va_cwS 3 hts (gS gw_3_76 gw_3_77 gw_1_19 gw_3_78) rfl rfl rfl (by decide +kernel) ⟨(Nat.le_of_ble_eq_true rfl), (Nat.le_of_ble_eq_true rfl)⟩) hK hN hZ hA hP hD hS [] [] rfl rfl rfl rfl rfl hl.1 rfl (Nat.le_of_ble_eq_true rfl) dJ0_checkIndex_df160_5 ⟨Nat.zero_le _, Nat.zero_le _⟩ rfl (fun H locs hP hD hS => ?_)
    refine lv_pop hx hb dJ0_checkIndex_df160_8 rfl ?_
    exact rt_V hx hb hr hlocks hK hP hD hS hQ rfl dJ0_checkIndex_df160_9
  · refine va_gets hx hb hq hS hown (hts _ (List.mem_cons_of_mem _ gw_3_74)) (fun _ h9 => h9) dJ0_checkIndex_df160_2 ?_
    refine xS_I (As := [.int p0, .int p1, .ref t]) (wx := []) ⟨hx, hb, hml, hown, hts⟩ (c_J3_checkIndex_8e157R l D ca zz _ t p0 p1 h0 h1) (va_cwS 3 hts (gS gw_3_76 gw_3_77 gw_1_19 gw_3_78) rfl rfl rfl (by decide +kernel) ⟨(Nat.le_of_ble_eq_true rfl), (Nat.le_of_ble_eq_true rfl)⟩) hK hN hZ hA hP hD hS [] [] rfl rfl rfl rfl rfl hl.1 rfl (Nat.le_of_ble_eq_true rfl) dJ0_checkIndex_df160_5 ⟨Nat.zero_le _, Nat.zero_le _⟩ rfl (fun H locs hP hD hS => ?_)
    refine lv_pop hx hb dJ0_checkIndex_df160_8 rfl ?_
    exact rt_V hx hb hr hlocks hK hP hD hS hQ rfl dJ0_checkIndex_df160_9
abbrev wq_J1_charAt_3b067 : List Cond := Cond.code yJ1_charAt_3b067 cJ1_charAt_3b067 2 (some .char) :: GL
theorem c_J1_charAt_3b067 (l : Launch) (D : va_G) (ca : Nat → ClassId) (zz : Nat → Nat) (sz : Nat) (w : Nat) (p1 : Int32) (hw : w < 10) (hin : vp_in p1 (lenS.getD w 0)) : Met l yJ1_charAt_3b067 wq_J1_charAt_3b067 ({ frames := 2, cells := 0, slots := 0, locals := 43 } : Room) (PR D ca zz [.ref (zz (30 + w)), .int p1] sz []) (QI D ca (sch w p1.toNatClampNeg) [] (va_A [] sz)) 0 0 (va_A [] sz) := by
  refine en (y := yJ1_charAt_3b067) (wsm := wq_J1_charAt_3b067) (av := [.ref (zz (30 + w)), .int p1]) (cc := cJ1_charAt_3b067) (maxL := 2) (ret := (some .char)) (Qf := fun A => QI D ca (sch w p1.toNatClampNeg) [] A) (by decide) rfl (Nat.le_of_ble_eq_true rfl) ?_
  intro p e s m args below meth c A Q ls hx hb hr hml hown hts hlocks hnm hA hN hZ hK hQ hP hD hS hl
  have hT := (hZ.2.2.2.2.1.1 w hw).2.2.2
  have hlt : p1.toNatClampNeg < lenS.getD w 0 := Nat.not_le.mp fun q => hin (Or.inr q)
  have h0 : ¬ p1 < 0 := fun q => hin (Or.inl q)
  have h1 : p1 < Int32.ofNat (lenS.getD w 0) := by
    obtain ⟨j, hj, e⟩ := nI_of h0
    rw [e, nI_clamp hj] at hlt
    rw [e]
    exact nI_lt hlt (len_ok w hw).2
  refine lv_iload_n hx hb dJ1_charAt_3b067_0 rfl (lv_at hl 1 rfl) ?_
  refine lv_aload_n hx hb dJ1_charAt_3b067_1 rfl (lv_at hl 0 rfl) ?_
  refine va_tlen (v := Int32.ofNat (lenS.getD w 0)) hx hb hT hS rfl dJ1_charAt_3b067_2 ?_
  refine xS_V (As := [.int p1, .int (Int32.ofNat (lenS.getD w 0))]) (wx := []) ⟨hx, hb, hml, hown, hts⟩ (c_J0_checkIndex_df160 l D ca zz _ p1 (Int32.ofNat (lenS.getD w 0)) h0 h1) (va_cwS 2 hts (gS gw_3_71 gw_3_72 gw_1_17 gw_3_73) rfl rfl rfl (by decide +kernel) ⟨(Nat.le_of_ble_eq_true rfl), (Nat.le_of_ble_eq_true rfl)⟩) hK hN hZ hA hP hD hS [] [] rfl rfl rfl rfl rfl hl.1 rfl (Nat.le_of_ble_eq_true rfl) dJ1_charAt_3b067_3 ⟨Nat.zero_le _, Nat.zero_le _⟩ rfl (fun H locs hP hD hS => ?_)
  refine lv_aload_n hx hb dJ1_charAt_3b067_6 rfl (lv_at hl 0 rfl) ?_
  refine lv_iload_n hx hb dJ1_charAt_3b067_7 rfl (lv_at hl 1 rfl) ?_
  refine va_tb (v := .int (sch w p1.toNatClampNeg)) hx hb hT hS hin rfl dJ1_charAt_3b067_8 ?_
  refine lv_sipush (v := 255) hx hb dJ1_charAt_3b067_9 rfl ?_
  refine lv_iand hx hb dJ1_charAt_3b067_12 ?_
  refine lv_i2c hx hb dJ1_charAt_3b067_13 (sch_ok w hw _ hlt).1 ?_
  exact rt_T hx hb hr hlocks hK hP hD hS hQ (sch_ok w hw _ hlt).2 rfl rfl dJ1_charAt_3b067_14
abbrev wq_J0_coder_7d493 : List Cond := Cond.code yJ0_coder_7d493 cJ0_coder_7d493 1 (some .byte) :: GL
theorem c_J0_coder_7d493 (l : Launch) (D : va_G) (ca : Nat → ClassId) (zz : Nat → Nat) (sz : Nat) (w : Nat) (hw : w < 10) : Met l yJ0_coder_7d493 wq_J0_coder_7d493 ({ frames := 0, cells := 0, slots := 0, locals := 0 } : Room) (PR D ca zz [.ref (zz (10 + w))] sz []) (QI D ca 0 [] (va_A [] sz)) 0 0 (va_A [] sz) := by
  refine en (y := yJ0_coder_7d493) (wsm := wq_J0_coder_7d493) (av := [.ref (zz (10 + w))]) (cc := cJ0_coder_7d493) (maxL := 1) (ret := (some .byte)) (Qf := fun A => QI D ca 0 [] A) (by decide) rfl (Nat.le_of_ble_eq_true rfl) ?_
  intro p e s m args below meth c A Q ls hx hb hr hml hown hts hlocks hnm hA hN hZ hK hQ hP hD hS hl
  refine va_gets hx hb hZ.2.2.2.2.2.1 hS hown (hts _ (List.mem_cons_of_mem _ gw_3_57)) (fun _ h9 => h9) dJ0_coder_7d493_0 ?_
  refine lv_if_eq (tgt := 13) hx hb dJ0_coder_7d493_3 (by decide) (fun h => absurd h (by decide)) (fun _ => ?_)
  refine lv_aload_n hx hb dJ0_coder_7d493_6 rfl (lv_at hl 0 rfl) ?_
  refine vk_getf hx hb (hZ.2.2.2.2.1.1 w hw).2.1 hS hown (hts _ (List.mem_cons_of_mem _ gw_7_84)) (fun _ h9 => h9) dJ0_coder_7d493_7 ?_
  refine lv_goto (tgt := 14) hx hb dJ0_coder_7d493_10 (by decide) ?_
  exact rt_T hx hb hr hlocks hK hP hD hS hQ (by decide) rfl rfl dJ0_coder_7d493_14
abbrev wq_J0_isLatin1_aae02 : List Cond := Cond.code yJ0_isLatin1_aae02 cJ0_isLatin1_aae02 1 (some .boolean) :: GL
theorem c_J0_isLatin1_aae02 (l : Launch) (D : va_G) (ca : Nat → ClassId) (zz : Nat → Nat) (sz : Nat) (w : Nat) (hw : w < 10) : Met l yJ0_isLatin1_aae02 wq_J0_isLatin1_aae02 ({ frames := 0, cells := 0, slots := 0, locals := 0 } : Room) (PR D ca zz [.ref (zz (10 + w))] sz []) (QI D ca 1 [] (va_A [] sz)) 0 0 (va_A [] sz) := by
  refine en (y := yJ0_isLatin1_aae02) (wsm := wq_J0_isLatin1_aae02) (av := [.ref (zz (10 + w))]) (cc := cJ0_isLatin1_aae02) (maxL := 1) (ret := (some .boolean)) (Qf := fun A => QI D ca 1 [] A) (by decide) rfl (Nat.le_of_ble_eq_true rfl) ?_
  intro p e s m args below meth c A Q ls hx hb hr hml hown hts hlocks hnm hA hN hZ hK hQ hP hD hS hl
  refine va_gets hx hb hZ.2.2.2.2.2.1 hS hown (hts _ (List.mem_cons_of_mem _ gw_3_57)) (fun _ h9 => h9) dJ0_isLatin1_aae02_0 ?_
  refine lv_if_eq (tgt := 17) hx hb dJ0_isLatin1_aae02_3 (by decide) (fun h => absurd h (by decide)) (fun _ => ?_)
  refine lv_aload_n hx hb dJ0_isLatin1_aae02_6 rfl (lv_at hl 0 rfl) ?_
  refine vk_getf hx hb (hZ.2.2.2.2.1.1 w hw).2.1 hS hown (hts _ (List.mem_cons_of_mem _ gw_7_84)) (fun _ h9 => h9) dJ0_isLatin1_aae02_7 ?_
  refine lv_if_ne (tgt := 17) hx hb dJ0_isLatin1_aae02_10 (by decide) (fun h => absurd rfl h) (fun _ => ?_)
  refine lv_iconst (v := 1) hx hb dJ0_isLatin1_aae02_13 rfl ?_
  refine lv_goto (tgt := 18) hx hb dJ0_isLatin1_aae02_14 (by decide) ?_
  exact rt_T hx hb hr hlocks hK hP hD hS hQ (by decide) rfl rfl dJ0_isLatin1_aae02_18
abbrev wq_J0_length_8abf5 : List Cond := Cond.code yJ0_length_8abf5 cJ0_length_8abf5 1 (some .int) :: GL
theorem c_J0_length_8abf5 (l : Launch) (D : va_G) (ca : Nat → ClassId) (zz : Nat → Nat) (sz : Nat) (w : Nat) (r : Int32) (hf : f_J0_length_8abf5 w = some r) : Met l yJ0_length_8abf5 wq_J0_length_8abf5 ({ frames := 1, cells := 0, slots := 0, locals := 20 } : Room) (PR D ca zz [.ref (zz (10 + w))] sz []) (QI D ca r [] (va_A [] sz)) 0 0 (va_A [] sz) := by
  unfold f_J0_length_8abf5 at hf
  by_cases hw : w < 10
  case neg => rw [if_neg hw] at hf; cases hf
  rw [if_pos hw] at hf
  have e_r := Option.some.inj hf
  refine en (y := yJ0_length_8abf5) (wsm := wq_J0_length_8abf5) (av := [.ref (zz (10 + w))]) (cc := cJ0_length_8abf5) (maxL := 1) (ret := (some .int)) (Qf := fun A => QI D ca r [] A) (by decide) rfl (Nat.le_of_ble_eq_true rfl) ?_
  intro p e s m args below meth c A Q ls hx hb hr hml hown hts hlocks hnm hA hN hZ hK hQ hP hD hS hl
  refine lv_aload_n hx hb dJ0_length_8abf5_0 rfl (lv_at hl 0 rfl) ?_
  refine vk_getf hx hb (hZ.2.2.2.2.1.1 w hw).2.2.1 hS hown (hts _ (List.mem_cons_of_mem _ gw_7_83)) (fun _ h9 => h9) dJ0_length_8abf5_1 ?_
  refine va_tlen (v := Int32.ofNat (lenS.getD w 0)) hx hb (hZ.2.2.2.2.1.1 w hw).2.2.2 hS rfl dJ0_length_8abf5_4 ?_
  refine lv_aload_n hx hb dJ0_length_8abf5_5 rfl (lv_at hl 0 rfl) ?_
  refine xT_I (As := []) ⟨hx, hb, hml, hown, hts⟩ (c_J0_coder_7d493 l D ca zz _ w hw) (cwV 0 hts (gV gw_3_53 gw_3_54 gw_3_55 gw_1_17 gw_3_56) rfl rfl rfl (by decide +kernel) ⟨(Nat.le_of_ble_eq_true rfl), (Nat.le_of_ble_eq_true rfl)⟩) hw hK hN hZ hA hP hD hS rfl hl.1 rfl (Nat.le_of_ble_eq_true rfl) dJ0_length_8abf5_6 ⟨Nat.zero_le _, Nat.zero_le _⟩ (fun H locs hP hD hS => ?_)
  refine lv_ishr hx hb dJ0_length_8abf5_9 ?_
  exact rt_I hx hb hr hlocks hK hP hD hS hQ ((len_ok w hw).1.trans e_r) rfl dJ0_length_8abf5_10
abbrev wq_J0_charAt_5068e : List Cond := Cond.code yJ0_charAt_5068e cJ0_charAt_5068e 2 (some .char) :: GL
theorem c_J0_charAt_5068e (l : Launch) (D : va_G) (ca : Nat → ClassId) (zz : Nat → Nat) (sz : Nat) (w : Nat) (p1 : Int32) (r : Int32) (hf : f_J0_charAt_5068e w p1 = some r) : Met l yJ0_charAt_5068e wq_J0_charAt_5068e ({ frames := 3, cells := 0, slots := 0, locals := 64 } : Room) (PR D ca zz [.ref (zz (10 + w)), .int p1] sz []) (QI D ca r [] (va_A [] sz)) 0 0 (va_A [] sz) := by
  unfold f_J0_charAt_5068e at hf
  by_cases hw : w < 10
  case neg => rw [if_neg hw] at hf; cases hf
  rw [if_pos hw] at hf
  obtain ⟨hin, hf⟩ := chkin_el hf
  have e_r := Option.some.inj hf
  have hlt : p1.toNatClampNeg < lenS.getD w 0 := Nat.not_le.mp fun q => hin (Or.inr q)
  refine en (y := yJ0_charAt_5068e) (wsm := wq_J0_charAt_5068e) (av := [.ref (zz (10 + w)), .int p1]) (cc := cJ0_charAt_5068e) (maxL := 2) (ret := (some .char)) (Qf := fun A => QI D ca r [] A) (by decide) rfl (Nat.le_of_ble_eq_true rfl) ?_
  intro p e s m args below meth c A Q ls hx hb hr hml hown hts hlocks hnm hA hN hZ hK hQ hP hD hS hl
  refine lv_aload_n hx hb dJ0_charAt_5068e_0 rfl (lv_at hl 0 rfl) ?_
  refine xT_I (As := []) ⟨hx, hb, hml, hown, hts⟩ (c_J0_isLatin1_aae02 l D ca zz _ w hw) (cwV 0 hts (gV gw_3_64 gw_3_65 gw_3_66 gw_1_17 gw_3_67) rfl rfl rfl (by decide +kernel) ⟨(Nat.le_of_ble_eq_true rfl), (Nat.le_of_ble_eq_true rfl)⟩) hw hK hN hZ hA hP hD hS rfl hl.1 rfl (Nat.le_of_ble_eq_true rfl) dJ0_charAt_5068e_1 ⟨Nat.zero_le _, Nat.zero_le _⟩ (fun H locs hP hD hS => ?_)
  refine lv_if_eq (tgt := 16) hx hb dJ0_charAt_5068e_4 (by decide) (fun h => absurd h (by decide)) (fun _ => ?_)
  refine lv_aload_n hx hb dJ0_charAt_5068e_7 rfl (lv_at hl 0 rfl) ?_
  refine vk_getf hx hb (hZ.2.2.2.2.1.1 w hw).2.2.1 hS hown (hts _ (List.mem_cons_of_mem _ gw_7_83)) (fun _ h9 => h9) dJ0_charAt_5068e_8 ?_
  refine lv_iload_n hx hb dJ0_charAt_5068e_11 rfl (lv_at hl 1 rfl) ?_
  refine xS_I (As := [.ref (zz (30 + w)), .int p1]) (wx := []) ⟨hx, hb, hml, hown, hts⟩ (c_J1_charAt_3b067 l D ca zz _ w p1 hw hin) (va_cwS 2 hts (gS gw_3_68 gw_3_69 gw_1_18 gw_3_70) rfl rfl rfl (by decide +kernel) ⟨(Nat.le_of_ble_eq_true rfl), (Nat.le_of_ble_eq_true rfl)⟩) hK hN hZ hA hP hD hS [] [] rfl rfl rfl rfl rfl hl.1 rfl (Nat.le_of_ble_eq_true rfl) dJ0_charAt_5068e_12 ⟨Nat.zero_le _, Nat.zero_le _⟩ rfl (fun H locs hP hD hS => ?_)
  exact rt_T hx hb hr hlocks hK hP hD hS hQ (sch_ok w hw _ hlt).2 e_r rfl dJ0_charAt_5068e_15
abbrev wq_X5_wordOf : List Cond := Cond.code yX5_wordOf cX5_wordOf 1 (some (.object "java/lang/String")) :: GL
theorem c_X5_wordOf (l : Launch) (D : va_G) (ca : Nat → ClassId) (zz : Nat → Nat) (sz : Nat) (p0 : Int32) (r : Nat) (hf : f_X5_wordOf p0 = some r) : Met l yX5_wordOf wq_X5_wordOf ({ frames := 0, cells := 0, slots := 0, locals := 0 } : Room) (PR D ca zz [.int p0] sz []) (QS D ca (zz (10 + r)) [] (va_A [] sz)) 0 0 (va_A [] sz) := by
  refine en (y := yX5_wordOf) (wsm := wq_X5_wordOf) (av := [.int p0]) (cc := cX5_wordOf) (maxL := 1) (ret := (some (.object "java/lang/String"))) (Qf := fun A => QS D ca (zz (10 + r)) [] A) (by decide) rfl (Nat.le_of_ble_eq_true rfl) ?_
  intro p e s m args below meth c A Q ls hx hb hr hml hown hts hlocks hnm hA hN hZ hK hQ hP hD hS hl
  unfold f_X5_wordOf at hf
  refine lv_iload_n hx hb dX5_wordOf_0 rfl (lv_at hl 0 rfl) ?_
  by_cases hc : p0 < 0 ∨ 8 < p0
  · rw [if_pos hc] at hf
    have e_r := Option.some.inj hf
    refine xtabO (tgt := 79) hx hb dX5_wordOf_1 (a := 0) (b := 8) rfl rfl hc (by decide) ?_
    refine va_ldcS hx hb hown (hZ.2.2.2.2.2.2.2 9 (by decide)) dX5_wordOf_79 ?_
    exact rt_S hx hb hr hlocks hK hP hD hS hQ (by rw [← e_r]) rfl dX5_wordOf_81
  rw [if_neg hc] at hf
  have e_r := Option.some.inj hf
  by_cases hc0 : p0 = 0
  · refine xtabK (tgt := 52) hx hb dX5_wordOf_1 hc0 (by decide) (by decide) rfl (by decide) ?_
    refine va_ldcS hx hb hown (hZ.2.2.2.2.2.2.2 0 (by decide)) dX5_wordOf_52 ?_
    exact rt_S hx hb hr hlocks hK hP hD hS hQ (by rw [← e_r, hc0]; rfl) rfl dX5_wordOf_54
  by_cases hc1 : p0 = 1
  · refine xtabK (tgt := 55) hx hb dX5_wordOf_1 hc1 (by decide) (by decide) rfl (by decide) ?_
    refine va_ldcS hx hb hown (hZ.2.2.2.2.2.2.2 1 (by decide)) dX5_wordOf_55 ?_
    exact rt_S hx hb hr hlocks hK hP hD hS hQ (by rw [← e_r, hc1]; rfl) rfl dX5_wordOf_57
  by_cases hc2 : p0 = 2
  · refine xtabK (tgt := 58) hx hb dX5_wordOf_1 hc2 (by decide) (by decide) rfl (by decide) ?_
    refine va_ldcS hx hb hown (hZ.2.2.2.2.2.2.2 2 (by decide)) dX5_wordOf_58 ?_
    exact rt_S hx hb hr hlocks hK hP hD hS hQ (by rw [← e_r, hc2]; rfl) rfl dX5_wordOf_60
  by_cases hc3 : p0 = 3
  · refine xtabK (tgt := 61) hx hb dX5_wordOf_1 hc3 (by decide) (by decide) rfl (by decide) ?_
    refine va_ldcS hx hb hown (hZ.2.2.2.2.2.2.2 3 (by decide)) dX5_wordOf_61 ?_
    exact rt_S hx hb hr hlocks hK hP hD hS hQ (by rw [← e_r, hc3]; rfl) rfl dX5_wordOf_63
  by_cases hc4 : p0 = 4
  · refine xtabK (tgt := 64) hx hb dX5_wordOf_1 hc4 (by decide) (by decide) rfl (by decide) ?_
    refine va_ldcS hx hb hown (hZ.2.2.2.2.2.2.2 4 (by decide)) dX5_wordOf_64 ?_
    exact rt_S hx hb hr hlocks hK hP hD hS hQ (by rw [← e_r, hc4]; rfl) rfl dX5_wordOf_66
  by_cases hc5 : p0 = 5
  · refine xtabK (tgt := 67) hx hb dX5_wordOf_1 hc5 (by decide) (by decide) rfl (by decide) ?_
    refine va_ldcS hx hb hown (hZ.2.2.2.2.2.2.2 5 (by decide)) dX5_wordOf_67 ?_
    exact rt_S hx hb hr hlocks hK hP hD hS hQ (by rw [← e_r, hc5]; rfl) rfl dX5_wordOf_69
  by_cases hc6 : p0 = 6
  · refine xtabK (tgt := 70) hx hb dX5_wordOf_1 hc6 (by decide) (by decide) rfl (by decide) ?_
    refine va_ldcS hx hb hown (hZ.2.2.2.2.2.2.2 6 (by decide)) dX5_wordOf_70 ?_
    exact rt_S hx hb hr hlocks hK hP hD hS hQ (by rw [← e_r, hc6]; rfl) rfl dX5_wordOf_72
  by_cases hc7 : p0 = 7
  · refine xtabK (tgt := 73) hx hb dX5_wordOf_1 hc7 (by decide) (by decide) rfl (by decide) ?_
    refine va_ldcS hx hb hown (hZ.2.2.2.2.2.2.2 7 (by decide)) dX5_wordOf_73 ?_
    exact rt_S hx hb hr hlocks hK hP hD hS hQ (by rw [← e_r, hc7]; rfl) rfl dX5_wordOf_75
  by_cases hc8 : p0 = 8
  · refine xtabK (tgt := 76) hx hb dX5_wordOf_1 hc8 (by decide) (by decide) rfl (by decide) ?_
    refine va_ldcS hx hb hown (hZ.2.2.2.2.2.2.2 8 (by decide)) dX5_wordOf_76 ?_
    exact rt_S hx hb hr hlocks hK hP hD hS hQ (by rw [← e_r, hc8]; rfl) rfl dX5_wordOf_78
  exfalso
  obtain ⟨j, hj, e⟩ := nI_of (fun q => hc (Or.inl q))
  have h8 : j < 9 := by
    rcases Nat.lt_or_ge j 9 with q | q
    · exact q
    · exact absurd (e ▸ nI_lt (a := 8) (b := j) (by omega) hj) (fun q => hc (Or.inr q))
  match j, h8, e with
  | 0, _, e => exact hc0 e
  | 1, _, e => exact hc1 e
  | 2, _, e => exact hc2 e
  | 3, _, e => exact hc3 e
  | 4, _, e => exact hc4 e
  | 5, _, e => exact hc5 e
  | 6, _, e => exact hc6 e
  | 7, _, e => exact hc7 e
  | 8, _, e => exact hc8 e
  | j + 9, h, _ => exact absurd h (by omega)
