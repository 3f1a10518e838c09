section LIBP
theorem wmk_fst {ws wc wn : va_W} (is : List Nat) (ms : List (Option Nat)) (hm : wmOK ms is = true) (hC : is.map (fun i => ws[i]?) = wc.map some) (hf : wn.map Prod.fst = wc.map Prod.fst) : (wmk ws ms wn).map Prod.fst = ws.map Prod.fst := by
  have hlen : wn.length = wc.length := by simpa using congrArg List.length hf
  apply List.ext_getElem?
  intro k
  rw [List.getElem?_map, List.getElem?_map]
  cases hq : (wmk ws ms wn)[k]? with
  | none =>
    have : ws[k]? = none := List.getElem?_eq_none (by rw [← wmk_len ws ms wn]; exact List.getElem?_eq_none_iff.mp hq)
    rw [this]
  | some q =>
    obtain ⟨w, h1, h2⟩ := wmk_get ws ms wn k q hq
    rw [h1]
    rcases h2 with ⟨j, g1, g2⟩ | ⟨g1, g2⟩
    · have h3 : (is.map (fun i => ws[i]?))[j]? = some (some w) := by rw [List.getElem?_map, wmOK_some hm g1]; simp [h1]
      rw [hC, List.getElem?_map] at h3
      cases hz : wc[j]? with
      | none => rw [hz] at h3; cases h3
      | some z =>
        rw [hz] at h3
        have hzw : z = w := Option.some.inj (Option.some.inj h3)
        have hl : j < wn.length := by rw [hlen]; exact (List.getElem?_eq_some_iff.mp hz).1
        have h4 : (wn.map Prod.fst)[j]? = some w.1 := by rw [hf, List.getElem?_map, hz, hzw]; rfl
        rw [List.getElem?_map, List.getElem?_eq_getElem hl] at h4
        have h5 : q = wn[j] := by rw [g2, List.getD_eq_getElem?_getD, List.getElem?_eq_getElem hl]; rfl
        rw [h5]; exact h4
    · rw [g2]
/-- cells replaced in their places, new ones behind them -/
theorem wmk_J {A : Nat → Prop} {D : va_G} {cl : List vw_C} {ws wc wn nw : va_W} {H H1 : Heap} (hP : va_P D cl ws H) (hD : va_D A ws) (is : List Nat) (ms : List (Option Nat)) (hm : wmOK ms is = true) (hC : is.map (fun i => ws[i]?) = wc.map some) (hf : wn.map Prod.fst = wc.map Prod.fst)
    (hk : ∀ q : Nat, q < H.size → ¬ va_A wc H.size q → H1[q]? = H[q]?) (hFc : ∀ q, va_A wc H.size q → A q) (hP1 : va_P D cl (wn ++ nw) H1) (hD1 : va_D (va_A wc H.size) (wn ++ nw)) : va_P D cl (wmk ws ms wn ++ nw) H1 ∧ va_D A (wmk ws ms wn ++ nw) := by
  have hl : ∀ (k : Nat) (q : Nat × va_E), wn[k]? = some q → (wn ++ nw)[k]? = some q := fun k q h => by
    rw [List.getElem?_append_left (List.getElem?_eq_some_iff.mp h).1]; exact h
  have hr : ∀ (k : Nat) (q : Nat × va_E), nw[k]? = some q → (wn ++ nw)[wn.length + k]? = some q := fun k q h => by
    rw [List.getElem?_append_right (Nat.le_add_right _ _), Nat.add_sub_cancel_left]; exact h
  have hPn : va_P D cl wn H1 := fun k q h => hP1 k q (hl k q h)
  obtain ⟨g1, g2⟩ := wmk_P hP hD is ms hm hC hf hk hPn
  have hfst := wmk_fst is ms hm hC hf
  have old : ∀ (i : Nat) (p : Nat × va_E), (wmk ws ms wn)[i]? = some p → p.1 < H.size := by
    intro i p h
    have h1 : ((wmk ws ms wn).map Prod.fst)[i]? = some p.1 := by rw [List.getElem?_map, h]; rfl
    rw [hfst, List.getElem?_map] at h1
    cases hq : ws[i]? with
    | none => rw [hq] at h1; cases h1
    | some q =>
      rw [hq] at h1
      have : q.1 = p.1 := Option.some.inj h1
      rw [← this]; exact (hP i q hq).lt
  have new : ∀ (j : Nat) (q : Nat × va_E), nw[j]? = some q → H.size ≤ q.1 := by
    intro j q h
    rcases hD1.2 _ q (hr j q h) with ⟨k2, e, h3⟩ | h3
    · exfalso
      have h4 : (wc.map Prod.fst)[k2]? = some q.1 := by rw [List.getElem?_map, h3]; rfl
      rw [← hf, List.getElem?_map] at h4
      cases hz : wn[k2]? with
      | none => rw [hz] at h4; cases h4
      | some z =>
        rw [hz] at h4
        have e1 : z.1 = q.1 := Option.some.inj h4
        have := hD1.1 k2 (wn.length + j) z q (hl k2 z hz) (hr j q h) e1
        have h5 := (List.getElem?_eq_some_iff.mp hz).1
        omega
    · exact h3
  refine ⟨va_P.app g1 (fun k q h => hP1 _ q (hr k q h)), fun i j p q hp hq e => ?_, fun k q hq => ?_⟩
  · rw [List.getElem?_append] at hp hq
    split at hp <;> split at hq
    · exact g2.1 i j p q hp hq e
    · have := old i p hp; have := new _ q hq; omega
    · have := old j q hq; have := new _ p hp; omega
    · have := hD1.1 _ _ p q (hr _ p hp) (hr _ q hq) e
      omega
  · rw [List.getElem?_append] at hq
    split at hq
    · exact g2.2 k q hq
    · exact hFc _ (hD1.2 _ q (hr _ q hq))
theorem va_P_perm {D : va_G} {cl : List vw_C} {ws ws' : va_W} {H : Heap} (h : ws.Perm ws') (hP : va_P D cl ws H) : va_P D cl ws' H := by
  intro k q hq
  have hm : q ∈ ws := h.mem_iff.mpr (List.mem_of_getElem? hq)
  obtain ⟨i, hi⟩ := List.getElem?_of_mem hm
  exact hP i q hi
theorem va_D_nodup {A : Nat → Prop} {ws : va_W} : va_D A ws ↔ ((ws.map Prod.fst).Nodup ∧ ∀ q ∈ ws, A q.1) := by
  constructor
  · intro h
    refine ⟨?_, fun q hq => ?_⟩
    · rw [List.Nodup, List.pairwise_iff_getElem]
      intro i j hi hj hij he
      rw [List.length_map] at hi hj
      rw [List.getElem_map, List.getElem_map] at he
      have := h.1 i j _ _ (List.getElem?_eq_getElem hi) (List.getElem?_eq_getElem hj) he
      omega
    · obtain ⟨i, hi⟩ := List.getElem?_of_mem hq
      exact h.2 i q hi
  · intro h
    refine ⟨fun i j p q hp hq e => ?_, fun k q hq => h.2 q (List.mem_of_getElem? hq)⟩
    have hn := h.1
    rw [List.Nodup, List.pairwise_iff_getElem] at hn
    obtain ⟨hi, ei⟩ := List.getElem?_eq_some_iff.mp hp
    obtain ⟨hj, ej⟩ := List.getElem?_eq_some_iff.mp hq
    rcases Nat.lt_trichotomy i j with h1 | h1 | h1
    · exact absurd (by rw [List.getElem_map, List.getElem_map, ei, ej, e]) (hn i j (by rw [List.length_map]; exact hi) (by rw [List.length_map]; exact hj) h1)
    · exact h1
    · exact absurd (by rw [List.getElem_map, List.getElem_map, ei, ej, e]) (hn j i (by rw [List.length_map]; exact hj) (by rw [List.length_map]; exact hi) h1)
theorem va_D_perm {A : Nat → Prop} {ws ws' : va_W} (h : ws.Perm ws') (hD : va_D A ws) : va_D A ws' := by
  rw [va_D_nodup] at hD ⊢
  exact ⟨(h.map Prod.fst).nodup_iff.mp hD.1, fun q hq => hD.2 q (h.mem_iff.mpr hq)⟩
end LIBP
abbrev QNz (D : va_G) (ca : Nat → ClassId) (r : Int32) (wN : (Nat → Nat) → va_W) (A : Nat → Prop) : Array Value → State → Outcome → State → Prop := va_Qi (fun (r' : Int32) (_ : Nat → Nat) => r' = r) (fun q t => va_P D vwCl (wN q) t.heap ∧ va_K D vwCl (TY ca) t ∧ va_D A (wN q)) A
section LIBQ
variable {p : Program} {l : Launch} {e : Env} {R : Room} {s : State} {m : MethodId} {args : Array Value} {below : List Frame} {meth : Method} {c : Code} {H : Heap} {locs : List Loc} {cells slots : Nat} {Q : State → Prop} {A : Nat → Prop} {D : va_G} {ca : Nat → ClassId} {zz : Nat → Nat} {cc bytes : ByteArray} {pc : Nat} {ls : Array Slot} {rest st0 As : List Value}
variable {nL maxL n index ci N : Nat} {Ts wsm : List Cond} {own C : String} {y : MethodName} {ret : Option FieldType} {rm : Room} {b : Nat} {wc wn ws wx : va_W} {T : u_T} {fs : List Value} {ρ : Type} {r0 : ρ}
theorem rt_Nz {wN : (Nat → Nat) → va_W} {mc ms : Nat} {v r : Int32} (q : Nat → Nat) (hx : p.tables.exec = Jvm.exec) (hb : c.code = cc) (hr : meth.sig.returnType = some .boolean) (hlocks : meth.locks = false) (hK : va_K D vwCl (TY ca) s) (hP : va_P D vwCl ws H) (hD : va_D A ws) (hS : va_S A s.heap H locs) (hQ : Q = MQ below (QNz D ca r wN A) args s mc ms A) (hv : v = 0 ∨ v = 1) (ev : v = r) (ew : ws = wN q) (hc : cells ≤ mc) (hs : slots ≤ ms) (hdg : decode cc pc = .ok (.ireturn, 1)) : W p l e R s m args below meth c H locs cells slots Q (F0 m pc ls [.int v]) := by
  subst ev; subst ew; subst hQ
  refine W.widen (k := mc) (n := ms) hc hs ?_
  exact W.zret hx hb hr (by rcases hv with h | h <;> (rw [h]; rfl)) (fun t ht hW => ⟨⟨v, q, rfl, rfl, by rw [ht]; exact hP, va_K.moved hW.alike hK, hD⟩, hS.F ht⟩) hS.2.2 hdg
/-- a call that makes cells -/
theorem xImgN {mc ms : Nat} {r : Int32} {wn nw : (Nat → Nat) → va_W} (S : CallFix p m c cc nL s args Ts own) (hM : Met l y wsm rm (PR D ca zz (.ref b :: As) H.size wc) (QNz D ca r (fun q => wn q ++ nw q) (va_A wc H.size)) mc ms (va_A wc H.size)) (cw : CallW R s args own C index y bytes maxL ret wsm rm mc ms n)
    (hK : va_K D vwCl (TY ca) s) (hN : NW s) (hZ : ZS zz A s s.heap) (hA : ∀ q, s.heap.size ≤ q → A q) (hP : va_P D vwCl ws H) (hD : va_D A ws) (hS : va_S A s.heap H locs) (is : List Nat) (pm : List (Option Nat)) (hm : wmOK pm is = true) (hC : is.map (fun i => ws[i]?) = wc.map some) (hnd : va_nd is = true) (hf : ∀ q, (wn q).map Prod.fst = wc.map Prod.fst)
    (hc : vwCl[ci]? = some (C, T, N)) (q0 : Nat) (he : ws[q0]? = some (b, .inr (ci, fs))) (hn : As.length = n) (hsz : ls.size = nL) (hst : st0 = As.reverse ++ .ref b :: rest) (hW : (rest.map fun v => v.category).sum ≤ 8) (hdg : decode cc pc = .ok (.invokevirtual index, 3)) (hcr : cells + mc ≤ R.cells ∧ slots + ms ≤ R.slots)
    (kk : ∀ (q : Nat → Nat) (H1 : Heap) (locs1 : List Loc), va_P D vwCl (wmk ws pm (wn q) ++ nw q) H1 → va_D A (wmk ws pm (wn q) ++ nw q) → va_S A s.heap H1 locs1 → W p l e R s m args below meth c H1 locs1 (cells + mc) (slots + ms) Q (F0 m (pc + 3) ls (.int r :: rest))) : W p l e R s m args below meth c H locs cells slots Q (F0 m pc ls st0) := by
  have hFc := va_free (wc := wc) hD hS hA is hC
  refine va_calli (va_runV (As := As) (rest := rest) S hM cw ⟨PR_blind, va_recv hK hP hc he, pr_mk (va_P_pick hP hC) hK (hD.sub is hnd hC) hN hZ hS hFc⟩ rfl hn hsz hst (lv_room hW) hdg hcr) hS (fun q _ h => hFc q h) hFc (fun r' u t H1 locs1 ht hvm hw hB hz1 hk1 hS1 => ?_)
  obtain ⟨hP1, -, hD1⟩ := hB
  rw [ht] at hP1
  obtain ⟨g1, g2⟩ := wmk_J hP hD is pm hm hC (hf u) hk1 hFc hP1 hD1
  subst hw
  exact kk u H1 locs1 g1 g2 hS1
end LIBQ
