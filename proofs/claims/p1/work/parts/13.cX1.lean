abbrev wq_X7_valueOf : List Cond := Cond.code yX7_valueOf cX7_valueOf 2 (some .int) :: GL
set_option maxHeartbeats 4000000 in
set_option maxRecDepth 100000 in
theorem c_X7_valueOf (l : Launch) (D : va_G) (ca : Nat → ClassId) (zz : Nat → Nat) (a0 a1 a2 a3 a4 : Nat) (sz : Nat) (v0 : V7) (p1 : Int32) (r : Int32) (hf : f_X7_valueOf v0 p1 = some r) : Met l yX7_valueOf wq_X7_valueOf ({ frames := 0, cells := 0, slots := 0, locals := 0 } : Room) (PR D ca zz [.ref a0, .int p1] sz [(a0, .inr (7, [.ref a1, .ref a2, .ref a3, .ref a4, .int v0.2.2.2.2])), (a1, .inl (ca 0, 9, .inl v0.1))]) (QI D ca r [(a0, .inr (7, [.ref a1, .ref a2, .ref a3, .ref a4, .int v0.2.2.2.2])), (a1, .inl (ca 0, 9, .inl v0.1))] (va_A [(a0, .inr (7, [.ref a1, .ref a2, .ref a3, .ref a4, .int v0.2.2.2.2])), (a1, .inl (ca 0, 9, .inl v0.1))] sz)) 0 0 (va_A [(a0, .inr (7, [.ref a1, .ref a2, .ref a3, .ref a4, .int v0.2.2.2.2])), (a1, .inl (ca 0, 9, .inl v0.1))] sz) := by
  refine en (y := yX7_valueOf) (wsm := wq_X7_valueOf) (av := [.ref a0, .int p1]) (cc := cX7_valueOf) (maxL := 2) (ret := (some .int)) (Qf := fun A => QI D ca r [(a0, .inr (7, [.ref a1, .ref a2, .ref a3, .ref a4, .int v0.2.2.2.2])), (a1, .inl (ca 0, 9, .inl v0.1))] A) (by decide) rfl (Nat.le_of_ble_eq_true rfl) ?_
  intro p e s m args below meth c A Q ls hx hb hr hml hown hts hlocks hnm hA hN hZ hK hQ hP hD hS hl
  have w0 := hts _ (List.mem_cons_of_mem _ gw_1_55)
  have i7 : ∀ w ∈ u_ws RX7 TX7 5, w ∈ wq_X7_valueOf := fun w h => List.mem_cons_of_mem _ (inX7 w h)
  unfold f_X7_valueOf at hf
  refine lv_iload_n hx hb dX7_valueOf_0 rfl (lv_at hl 1 rfl) ?_
  refine xi_lt (tgt := 13) hx hb dX7_valueOf_1 (by decide) hf (fun hf => ?_) (fun hf => ?_)
  · refine lv_iconst (v := 0) hx hb dX7_valueOf_13 rfl ?_
    refine lv_goto (tgt := 23) hx hb dX7_valueOf_14 (by decide) ?_
    cases hf
    exact rt_I hx hb hr hlocks hK hP hD hS hQ rfl rfl dX7_valueOf_23
  · refine lv_iload_n hx hb dX7_valueOf_4 rfl (lv_at hl 1 rfl) ?_
    refine lv_aload_n hx hb dX7_valueOf_5 rfl (lv_at hl 0 rfl) ?_
    refine va_get (C := RX7) (T := TX7) (N := 5) hx hb hts i7 hown hK hP 0 rfl rfl 0 (Nat.le_of_ble_eq_true rfl) w0 (fun _ h9 => h9) rfl dX7_valueOf_6 ?_
    refine va_alen hx hb hK hP 1 0 rfl rfl (v := (9 : Int32)) rfl dX7_valueOf_9 ?_
    refine xc_lt (tgt := 17) hx hb dX7_valueOf_10 (by decide) hf (fun hf => ?_) (fun hf => ?_)
    · refine lv_aload_n hx hb dX7_valueOf_17 rfl (lv_at hl 0 rfl) ?_
      refine va_get (C := RX7) (T := TX7) (N := 5) hx hb hts i7 hown hK hP 0 rfl rfl 0 (Nat.le_of_ble_eq_true rfl) w0 (fun _ h9 => h9) rfl dX7_valueOf_18 ?_
      refine lv_iload_n hx hb dX7_valueOf_21 rfl (lv_at hl 1 rfl) ?_
      refine xiald hx hb hK hP 1 rfl hf dX7_valueOf_22 (fun hf => ?_)
      cases hf
      exact rt_I hx hb hr hlocks hK hP hD hS hQ rfl rfl dX7_valueOf_23
    · refine lv_iconst (v := 0) hx hb dX7_valueOf_13 rfl ?_
      refine lv_goto (tgt := 23) hx hb dX7_valueOf_14 (by decide) ?_
      cases hf
      exact rt_I hx hb hr hlocks hK hP hD hS hQ rfl rfl dX7_valueOf_23
abbrev wq_X2_leastRepeats : List Cond := Cond.code yX2_leastRepeats cX2_leastRepeats 6 (some .int) :: GL
set_option maxHeartbeats 4000000 in
set_option maxRecDepth 100000 in
theorem c_X2_leastRepeats (l : Launch) (D : va_G) (ca : Nat → ClassId) (zz : Nat → Nat) (sz : Nat) (p0 : Int32) (p1 : Int32) (r : Int32) (hf : f_X2_leastRepeats p0 p1 = some r) : Met l yX2_leastRepeats wq_X2_leastRepeats ({ frames := 0, cells := 0, slots := 0, locals := 0 } : Room) (PR D ca zz [.int p0, .int p1] sz []) (QI D ca r [] (va_A [] sz)) 0 0 (va_A [] sz) := by
  refine en (y := yX2_leastRepeats) (wsm := wq_X2_leastRepeats) (av := [.int p0, .int p1]) (cc := cX2_leastRepeats) (maxL := 6) (ret := (some .int)) (Qf := fun A => QI D ca r [] A) (by decide) rfl (Nat.le_of_ble_eq_true rfl) ?_
  intro p e s m args below meth c A Q ls hx hb hr hml hown hts hlocks hnm hA hN hZ hK hQ hP hD hS hl
  have bl5 : ∀ (k5 : Int32 → Int32 → Int64 → Int32 → Option (Int32)) (q5 : ∀ (x0 : Int32) (x1 : Int32) (x2 : Int64) (x4 : Int32), k5 x0 x1 x2 x4 = some r → ∀ (H : Heap) (locs : List Loc) (ls : Array Slot), va_P D vwCl [] H → va_D A [] → va_S A s.heap H locs → lv_has ls 6 [(0, .int x0), (1, .int x1), (2, .long x2), (4, .int x4)] → W p l e ({ frames := 0, cells := 0, slots := 0, locals := 0 } : Room) s m args below meth c H locs 0 0 Q (F0 m 5 ls [])) (x0 : Int32) (x1 : Int32) (x2 : Int64) (x4 : Int32), fl_X2_leastRepeats_5 k5 x0 x1 x2 x4 = some r → ∀ (H : Heap) (locs : List Loc) (ls : Array Slot), va_P D vwCl [] H → va_D A [] → va_S A s.heap H locs → lv_has ls 6 [(0, .int x0), (1, .int x1), (2, .long x2), (4, .int x4)] → W p l e ({ frames := 0, cells := 0, slots := 0, locals := 0 } : Room) s m args below meth c H locs 0 0 Q (F0 m 5 ls []) := by
    intro k5 q5 x0 x1 x2 x4 hf H locs ls hP hD hS hl
    unfold fl_X2_leastRepeats_5 at hf
    refine lv_iload hx hb dX2_leastRepeats_5 (lv_at hl 3 rfl) ?_
    refine lv_bipush (v := 16) hx hb dX2_leastRepeats_7 rfl ?_
    refine xc_ge (tgt := 50) hx hb dX2_leastRepeats_9 (by decide) hf (fun hf => ?_) (fun hf => ?_)
    · refine lv_bipush (v := 16) hx hb dX2_leastRepeats_50 rfl ?_
      cases hf
      exact rt_I hx hb hr hlocks hK hP hD hS hQ rfl rfl dX2_leastRepeats_52
    · refine lv_lload_n hx hb dX2_leastRepeats_12 rfl (lv_at hl 2 rfl) ?_
      refine lv_iload_n hx hb dX2_leastRepeats_13 rfl (lv_at hl 0 rfl) ?_
      refine lv_i2l hx hb dX2_leastRepeats_14 rfl ?_
      refine lv_lmul hx hb dX2_leastRepeats_15 ?_
      refine xnml hf (fun x_1 hf => ?_)
      refine lv_lstore_n (lv' := [(2, .long x_1), (0, .int x0), (1, .int x1), (4, .int x4)]) hx hb dX2_leastRepeats_16 rfl hl (Nat.le_of_ble_eq_true rfl) rfl (fun ls hl => ?_)
      refine lv_iconst (v := 4) hx hb dX2_leastRepeats_17 rfl ?_
      refine lv_iload hx hb dX2_leastRepeats_18 (lv_at hl 3 rfl) ?_
      refine lv_iconst (v := 1) hx hb dX2_leastRepeats_20 rfl ?_
      refine lv_isub hx hb dX2_leastRepeats_21 ?_
      refine lv_imul hx hb dX2_leastRepeats_22 ?_
      refine lv_iload_n hx hb dX2_leastRepeats_23 rfl (lv_at hl 2 rfl) ?_
      refine lv_isub hx hb dX2_leastRepeats_24 ?_
      refine xnm hf (fun x_2 hf => ?_)
      refine lv_istore (lv' := [(5, .int x_2), (2, .long x_1), (0, .int x0), (1, .int x1), (4, .int x4)]) hx hb dX2_leastRepeats_25 hl (Nat.le_of_ble_eq_true rfl) rfl (fun ls hl => ?_)
      refine lv_iload hx hb dX2_leastRepeats_27 (lv_at hl 0 rfl) ?_
      refine xi_lt (tgt := 44) hx hb dX2_leastRepeats_29 (by decide) hf (fun hf => ?_) (fun hf => ?_)
      · obtain ⟨x_3, ex_3, hf⟩ := bnd_el hf
        refine lv_iinc (v := x_3) (lv' := [(4, .int x_3), (5, .int x_2), (2, .long x_1), (0, .int x0), (1, .int x1)]) hx hb dX2_leastRepeats_44 hl (k := 4) rfl (by rw [ex_3]; rfl) (Nat.le_of_ble_eq_true rfl) rfl (fun ls hl => ?_)
        refine lv_goto (tgt := 5) hx hb dX2_leastRepeats_47 (by decide) ?_
        exact q5 x0 x1 x_1 x_3 hf _ _ _ hP hD hS (lv_sub hl [3, 4, 2, 0] rfl)
      · refine lv_lload_n hx hb dX2_leastRepeats_32 rfl (lv_at hl 1 rfl) ?_
        refine lv_lconst (v := 1) hx hb dX2_leastRepeats_33 rfl ?_
        refine lv_iload hx hb dX2_leastRepeats_34 (lv_at hl 0 rfl) ?_
        refine lv_lshl (v := jlshl (1 : Int64) x_2) hx hb dX2_leastRepeats_36 rfl ?_
        refine xl_gt (tgt := 44) hx hb dX2_leastRepeats_37 dX2_leastRepeats_38 (by decide) hf (fun hf => ?_) (fun hf => ?_)
        · obtain ⟨x_4, ex_4, hf⟩ := bnd_el hf
          refine lv_iinc (v := x_4) (lv' := [(4, .int x_4), (5, .int x_2), (2, .long x_1), (0, .int x0), (1, .int x1)]) hx hb dX2_leastRepeats_44 hl (k := 4) rfl (by rw [ex_4]; rfl) (Nat.le_of_ble_eq_true rfl) rfl (fun ls hl => ?_)
          refine lv_goto (tgt := 5) hx hb dX2_leastRepeats_47 (by decide) ?_
          exact q5 x0 x1 x_1 x_4 hf _ _ _ hP hD hS (lv_sub hl [3, 4, 2, 0] rfl)
        · refine lv_iload hx hb dX2_leastRepeats_41 (lv_at hl 4 rfl) ?_
          cases hf
          exact rt_I hx hb hr hlocks hK hP hD hS hQ rfl rfl dX2_leastRepeats_43
  have b5 : ∀ (n : Nat) (x0 : Int32) (x1 : Int32) (x2 : Int64) (x4 : Int32), fb_X2_leastRepeats_5 n x0 x1 x2 x4 = some r → ∀ (H : Heap) (locs : List Loc) (ls : Array Slot), va_P D vwCl [] H → va_D A [] → va_S A s.heap H locs → lv_has ls 6 [(0, .int x0), (1, .int x1), (2, .long x2), (4, .int x4)] → W p l e ({ frames := 0, cells := 0, slots := 0, locals := 0 } : Room) s m args below meth c H locs 0 0 Q (F0 m 5 ls []) := by
    intro n
    induction n with
    | zero => intro x0 x1 x2 x4 hf; exact no_el hf
    | succ n ih => exact bl5 (fb_X2_leastRepeats_5 n) ih
  unfold f_X2_leastRepeats at hf
  refine lv_lconst (v := 1) hx hb dX2_leastRepeats_0 rfl ?_
  refine lv_lstore_n (lv' := [(2, .long (1 : Int64)), (0, .int p0), (1, .int p1)]) hx hb dX2_leastRepeats_1 rfl hl (Nat.le_of_ble_eq_true rfl) rfl (fun ls hl => ?_)
  refine lv_iconst (v := 2) hx hb dX2_leastRepeats_2 rfl ?_
  refine lv_istore (lv' := [(4, .int (2 : Int32)), (2, .long (1 : Int64)), (0, .int p0), (1, .int p1)]) hx hb dX2_leastRepeats_3 hl (Nat.le_of_ble_eq_true rfl) rfl (fun ls hl => ?_)
  exact b5 FU p0 p1 (1 : Int64) (2 : Int32) hf _ _ _ hP hD hS (lv_sub hl [2, 3, 1, 0] rfl)
abbrev wq_J7_fill_d0a16 : List Cond := Cond.code yJ7_fill_d0a16 cJ7_fill_d0a16 5 none :: GL
set_option maxHeartbeats 4000000 in
set_option maxRecDepth 100000 in
theorem c_J7_fill_d0a16 (l : Launch) (D : va_G) (ca : Nat → ClassId) (zz : Nat → Nat) (a0 : Nat) (sz : Nat) (n0 : Nat) (v0 : (Nat → Int64)) (p1 : Int64) (v0' : (Nat → Int64)) (hf : f_J7_fill_d0a16 n0 v0 p1 = some v0') : Met l yJ7_fill_d0a16 wq_J7_fill_d0a16 ({ frames := 0, cells := 0, slots := 0, locals := 0 } : Room) (PR D ca zz [.ref a0, .long p1] sz [(a0, .inl (ca 1, n0, .inr (.inl v0)))]) (QV D ca [(a0, .inl (ca 1, n0, .inr (.inl v0')))] (va_A [(a0, .inl (ca 1, n0, .inr (.inl v0)))] sz)) 0 0 (va_A [(a0, .inl (ca 1, n0, .inr (.inl v0)))] sz) := by
  refine en (y := yJ7_fill_d0a16) (wsm := wq_J7_fill_d0a16) (av := [.ref a0, .long p1]) (cc := cJ7_fill_d0a16) (maxL := 5) (ret := none) (Qf := fun A => QV D ca [(a0, .inl (ca 1, n0, .inr (.inl v0')))] A) (by decide) rfl (Nat.le_of_ble_eq_true rfl) ?_
  intro p e s m args below meth c A Q ls hx hb hr hml hown hts hlocks hnm hA hN hZ hK hQ hP hD hS hl
  have bl6 : ∀ (k6 : (Nat → Int64) → Int64 → Int32 → Int32 → Option ((Nat → Int64))) (q6 : ∀ (v0 : (Nat → Int64)) (x1 : Int64) (x3 : Int32) (x4 : Int32), k6 v0 x1 x3 x4 = some v0' → ∀ (H : Heap) (locs : List Loc) (ls : Array Slot), va_P D vwCl [(a0, .inl (ca 1, n0, .inr (.inl v0)))] H → va_D A [(a0, .inl (ca 1, n0, .inr (.inl v0)))] → va_S A s.heap H locs → lv_has ls 5 [(0, .ref a0), (1, .long x1), (3, .int x3), (4, .int x4)] → W p l e ({ frames := 0, cells := 0, slots := 0, locals := 0 } : Room) s m args below meth c H locs 0 0 Q (F0 m 6 ls [])) (v0 : (Nat → Int64)) (x1 : Int64) (x3 : Int32) (x4 : Int32), fl_J7_fill_d0a16_6 n0 k6 v0 x1 x3 x4 = some v0' → ∀ (H : Heap) (locs : List Loc) (ls : Array Slot), va_P D vwCl [(a0, .inl (ca 1, n0, .inr (.inl v0)))] H → va_D A [(a0, .inl (ca 1, n0, .inr (.inl v0)))] → va_S A s.heap H locs → lv_has ls 5 [(0, .ref a0), (1, .long x1), (3, .int x3), (4, .int x4)] → W p l e ({ frames := 0, cells := 0, slots := 0, locals := 0 } : Room) s m args below meth c H locs 0 0 Q (F0 m 6 ls []) := by
    intro k6 q6 v0 x1 x3 x4 hf H locs ls hP hD hS hl
    unfold fl_J7_fill_d0a16_6 at hf
    refine lv_iload_n hx hb dJ7_fill_d0a16_6 rfl (lv_at hl 2 rfl) ?_
    refine lv_iload hx hb dJ7_fill_d0a16_7 (lv_at hl 3 rfl) ?_
    refine xc_ge (tgt := 22) hx hb dJ7_fill_d0a16_9 (by decide) hf (fun hf => ?_) (fun hf => ?_)
    · cases hf
      exact rt_V hx hb hr hlocks hK hP hD hS hQ rfl dJ7_fill_d0a16_22
    · refine lv_aload_n hx hb dJ7_fill_d0a16_12 rfl (lv_at hl 0 rfl) ?_
      refine lv_iload_n hx hb dJ7_fill_d0a16_13 rfl (lv_at hl 2 rfl) ?_
      refine lv_lload_n hx hb dJ7_fill_d0a16_14 rfl (lv_at hl 1 rfl) ?_
      refine xlast (wx := [(a0, .inl (ca 1, n0, .inr (.inl ((vp_updL v0 (x3).toNatClampNeg x1)))))]) hx hb hK hP hD hS 0 rfl hf dJ7_fill_d0a16_15 rfl (fun H locs hf hP hD hS => ?_)
      obtain ⟨y_2, ey_2, hf⟩ := bnd_el hf
      rw [← ey_2] at hP hD
      obtain ⟨x_3, ex_3, hf⟩ := bnd_el hf
      refine lv_iinc (v := x_3) (lv' := [(3, .int x_3), (0, .ref a0), (1, .long x1), (4, .int x4)]) hx hb dJ7_fill_d0a16_16 hl (k := 2) rfl (by rw [ex_3]; rfl) (Nat.le_of_ble_eq_true rfl) rfl (fun ls hl => ?_)
      refine lv_goto (tgt := 6) hx hb dJ7_fill_d0a16_19 (by decide) ?_
      exact q6 y_2 x1 x_3 x4 hf _ _ _ hP hD hS (lv_sub hl [1, 2, 0, 3] rfl)
  have b6 : ∀ (n : Nat) (v0 : (Nat → Int64)) (x1 : Int64) (x3 : Int32) (x4 : Int32), fb_J7_fill_d0a16_6 n0 n v0 x1 x3 x4 = some v0' → ∀ (H : Heap) (locs : List Loc) (ls : Array Slot), va_P D vwCl [(a0, .inl (ca 1, n0, .inr (.inl v0)))] H → va_D A [(a0, .inl (ca 1, n0, .inr (.inl v0)))] → va_S A s.heap H locs → lv_has ls 5 [(0, .ref a0), (1, .long x1), (3, .int x3), (4, .int x4)] → W p l e ({ frames := 0, cells := 0, slots := 0, locals := 0 } : Room) s m args below meth c H locs 0 0 Q (F0 m 6 ls []) := by
    intro n
    induction n with
    | zero => intro v0 x1 x3 x4 hf; exact no_el hf
    | succ n ih => exact bl6 (fb_J7_fill_d0a16_6 n0 n) ih
  unfold f_J7_fill_d0a16 at hf
  refine lv_iconst (v := 0) hx hb dJ7_fill_d0a16_0 rfl ?_
  refine lv_istore_n (lv' := [(3, .int (0 : Int32)), (0, .ref a0), (1, .long p1)]) hx hb dJ7_fill_d0a16_1 rfl hl (Nat.le_of_ble_eq_true rfl) rfl (fun ls hl => ?_)
  refine lv_aload_n hx hb dJ7_fill_d0a16_2 rfl (lv_at hl 1 rfl) ?_
  refine va_alen hx hb hK hP 0 1 rfl rfl (v := Int32.ofNat n0) rfl dJ7_fill_d0a16_3 ?_
  refine xnm hf (fun x_1 hf => ?_)
  refine lv_istore (lv' := [(4, .int x_1), (3, .int (0 : Int32)), (0, .ref a0), (1, .long p1)]) hx hb dJ7_fill_d0a16_4 hl (Nat.le_of_ble_eq_true rfl) rfl (fun ls hl => ?_)
  exact b6 FU v0 p1 (0 : Int32) x_1 hf _ _ _ hP hD hS (lv_sub hl [2, 3, 1, 0] rfl)
abbrev wq_X2_fill : List Cond := Cond.code yX2_fill cX2_fill 5 none :: GL
set_option maxHeartbeats 4000000 in
set_option maxRecDepth 100000 in
theorem c_X2_fill (l : Launch) (D : va_G) (ca : Nat → ClassId) (zz : Nat → Nat) (a0 a1 : Nat) (sz : Nat) (v0 : V2) (p1 : Int32) (p2 : Int32) (v0' : V2) (hf : f_X2_fill v0 p1 p2 = some v0') : Met l yX2_fill wq_X2_fill ({ frames := 1, cells := 0, slots := 0, locals := 24 } : Room) (PR D ca zz [.ref a0, .int p1, .int p2] sz [(a0, .inr (2, [.ref a1, .int v0.2.1, .int v0.2.2.1, .int v0.2.2.2.1, .int v0.2.2.2.2])), (a1, .inl (ca 1, 17, .inr (.inl v0.1)))]) (QV D ca [(a0, .inr (2, [.ref a1, .int v0'.2.1, .int v0'.2.2.1, .int v0'.2.2.2.1, .int v0'.2.2.2.2])), (a1, .inl (ca 1, 17, .inr (.inl v0'.1)))] (va_A [(a0, .inr (2, [.ref a1, .int v0.2.1, .int v0.2.2.1, .int v0.2.2.2.1, .int v0.2.2.2.2])), (a1, .inl (ca 1, 17, .inr (.inl v0.1)))] sz)) 0 0 (va_A [(a0, .inr (2, [.ref a1, .int v0.2.1, .int v0.2.2.1, .int v0.2.2.2.1, .int v0.2.2.2.2])), (a1, .inl (ca 1, 17, .inr (.inl v0.1)))] sz) := by
  refine en (y := yX2_fill) (wsm := wq_X2_fill) (av := [.ref a0, .int p1, .int p2]) (cc := cX2_fill) (maxL := 5) (ret := none) (Qf := fun A => QV D ca [(a0, .inr (2, [.ref a1, .int v0'.2.1, .int v0'.2.2.1, .int v0'.2.2.2.1, .int v0'.2.2.2.2])), (a1, .inl (ca 1, 17, .inr (.inl v0'.1)))] A) (by decide) rfl (Nat.le_of_ble_eq_true rfl) ?_
  intro p e s m args below meth c A Q ls hx hb hr hml hown hts hlocks hnm hA hN hZ hK hQ hP hD hS hl
  have w0 := hts _ (List.mem_cons_of_mem _ gw_2_29)
  have w1 := hts _ (List.mem_cons_of_mem _ gw_2_30)
  have w2 := hts _ (List.mem_cons_of_mem _ gw_1_11)
  have w3 := hts _ (List.mem_cons_of_mem _ gw_2_31)
  have w4 := hts _ (List.mem_cons_of_mem _ gw_2_32)
  have w5 := hts _ (List.mem_cons_of_mem _ gw_2_33)
  have w6 := hts _ (List.mem_cons_of_mem _ gw_2_34)
  have w7 := hts _ (List.mem_cons_of_mem _ gw_1_82)
  have w8 := hts _ (List.mem_cons_of_mem _ gw_1_81)
  have i2 : ∀ w ∈ u_ws RX2 TX2 5, w ∈ wq_X2_fill := fun w h => List.mem_cons_of_mem _ (inX2 w h)
  have bl114 : ∀ (k114 : V2 → Int32 → Option (V2)) (q114 : ∀ (v0 : V2) (x3 : Int32), k114 v0 x3 = some v0' → ∀ (H : Heap) (locs : List Loc) (ls : Array Slot), va_P D vwCl [(a0, .inr (2, [.ref a1, .int v0.2.1, .int v0.2.2.1, .int v0.2.2.2.1, .int v0.2.2.2.2])), (a1, .inl (ca 1, 17, .inr (.inl v0.1)))] H → va_D A [(a0, .inr (2, [.ref a1, .int v0.2.1, .int v0.2.2.1, .int v0.2.2.2.1, .int v0.2.2.2.2])), (a1, .inl (ca 1, 17, .inr (.inl v0.1)))] → va_S A s.heap H locs → lv_has ls 5 [(0, .ref a0), (3, .int x3)] → W p l e ({ frames := 1, cells := 0, slots := 0, locals := 24 } : Room) s m args below meth c H locs 0 0 Q (F0 m 114 ls [])) (v0 : V2) (x3 : Int32), fl_X2_fill_114 k114 v0 x3 = some v0' → ∀ (H : Heap) (locs : List Loc) (ls : Array Slot), va_P D vwCl [(a0, .inr (2, [.ref a1, .int v0.2.1, .int v0.2.2.1, .int v0.2.2.2.1, .int v0.2.2.2.2])), (a1, .inl (ca 1, 17, .inr (.inl v0.1)))] H → va_D A [(a0, .inr (2, [.ref a1, .int v0.2.1, .int v0.2.2.1, .int v0.2.2.2.1, .int v0.2.2.2.2])), (a1, .inl (ca 1, 17, .inr (.inl v0.1)))] → va_S A s.heap H locs → lv_has ls 5 [(0, .ref a0), (3, .int x3)] → W p l e ({ frames := 1, cells := 0, slots := 0, locals := 24 } : Room) s m args below meth c H locs 0 0 Q (F0 m 114 ls []) := by
    intro k114 q114 v0 x3 hf H locs ls hP hD hS hl
    unfold fl_X2_fill_114 at hf
    refine lv_iload_n hx hb dX2_fill_114 rfl (lv_at hl 1 rfl) ?_
    refine xi_lt (tgt := 141) hx hb dX2_fill_115 (by decide) hf (fun hf => ?_) (fun hf => ?_)
    · cases hf
      exact rt_V hx hb hr hlocks hK hP hD hS hQ rfl dX2_fill_141
    · refine lv_aload_n hx hb dX2_fill_118 rfl (lv_at hl 0 rfl) ?_
      refine va_get (C := RX2) (T := TX2) (N := 5) hx hb hts i2 hown hK hP 0 rfl rfl 0 (Nat.le_of_ble_eq_true rfl) w8 (fun _ h9 => h9) rfl dX2_fill_119 ?_
      refine lv_iload_n hx hb dX2_fill_122 rfl (lv_at hl 1 rfl) ?_
      refine lv_dup2_11 hx hb dX2_fill_123 rfl rfl ?_
      refine xlald hx hb hK hP 1 rfl hf dX2_fill_124 (fun hf => ?_)
      refine lv_aload_n hx hb dX2_fill_125 rfl (lv_at hl 0 rfl) ?_
      refine va_get (C := RX2) (T := TX2) (N := 5) hx hb hts i2 hown hK hP 0 rfl rfl 0 (Nat.le_of_ble_eq_true rfl) w8 (fun _ h9 => h9) rfl dX2_fill_126 ?_
      refine lv_iload_n hx hb dX2_fill_129 rfl (lv_at hl 1 rfl) ?_
      refine lv_iconst (v := 1) hx hb dX2_fill_130 rfl ?_
      refine lv_iadd hx hb dX2_fill_131 ?_
      refine xlald hx hb hK hP 1 rfl hf dX2_fill_132 (fun hf => ?_)
      refine lv_ladd hx hb dX2_fill_133 ?_
      refine xlast (wx := [(a0, .inr (2, [.ref a1, .int v0.2.1, .int v0.2.2.1, .int v0.2.2.2.1, .int v0.2.2.2.2])), (a1, .inl (ca 1, 17, .inr (.inl ((vp_updL v0.1 (x3).toNatClampNeg ((v0.1 (x3).toNatClampNeg) + (v0.1 (x3 + (1 : Int32)).toNatClampNeg)))))))]) hx hb hK hP hD hS 1 rfl hf dX2_fill_134 rfl (fun H locs hf hP hD hS => ?_)
      obtain ⟨y_7, ey_7, hf⟩ := bnd_el hf
      rw [← ey_7] at hP hD
      obtain ⟨x_8, ex_8, hf⟩ := bnd_el hf
      refine lv_iinc (v := x_8) (lv' := [(3, .int x_8), (0, .ref a0)]) hx hb dX2_fill_135 hl (k := 1) rfl (by rw [ex_8]; rfl) (Nat.le_of_ble_eq_true rfl) rfl (fun ls hl => ?_)
      refine lv_goto (tgt := 114) hx hb dX2_fill_138 (by decide) ?_
      exact q114 ((y_7, v0.2)) x_8 hf _ _ _ hP hD hS (lv_sub hl [1, 0] rfl)
  have b114 : ∀ (n : Nat) (v0 : V2) (x3 : Int32), fb_X2_fill_114 n v0 x3 = some v0' → ∀ (H : Heap) (locs : List Loc) (ls : Array Slot), va_P D vwCl [(a0, .inr (2, [.ref a1, .int v0.2.1, .int v0.2.2.1, .int v0.2.2.2.1, .int v0.2.2.2.2])), (a1, .inl (ca 1, 17, .inr (.inl v0.1)))] H → va_D A [(a0, .inr (2, [.ref a1, .int v0.2.1, .int v0.2.2.1, .int v0.2.2.2.1, .int v0.2.2.2.2])), (a1, .inl (ca 1, 17, .inr (.inl v0.1)))] → va_S A s.heap H locs → lv_has ls 5 [(0, .ref a0), (3, .int x3)] → W p l e ({ frames := 1, cells := 0, slots := 0, locals := 24 } : Room) s m args below meth c H locs 0 0 Q (F0 m 114 ls []) := by
    intro n
    induction n with
    | zero => intro v0 x3 hf; exact no_el hf
    | succ n ih => exact bl114 (fb_X2_fill_114 n) ih
  have b102 : ∀ (v0 : V2), fc_X2_fill_102 v0 = some v0' → ∀ (H : Heap) (locs : List Loc) (ls : Array Slot), va_P D vwCl [(a0, .inr (2, [.ref a1, .int v0.2.1, .int v0.2.2.1, .int v0.2.2.2.1, .int v0.2.2.2.2])), (a1, .inl (ca 1, 17, .inr (.inl v0.1)))] H → va_D A [(a0, .inr (2, [.ref a1, .int v0.2.1, .int v0.2.2.1, .int v0.2.2.2.1, .int v0.2.2.2.2])), (a1, .inl (ca 1, 17, .inr (.inl v0.1)))] → va_S A s.heap H locs → lv_has ls 5 [(0, .ref a0)] → W p l e ({ frames := 1, cells := 0, slots := 0, locals := 24 } : Room) s m args below meth c H locs 0 0 Q (F0 m 102 ls []) := by
    intro v0 hf H locs ls hP hD hS hl
    unfold fc_X2_fill_102 at hf
    refine lv_aload_n hx hb dX2_fill_102 rfl (lv_at hl 0 rfl) ?_
    refine va_get (C := RX2) (T := TX2) (N := 5) hx hb hts i2 hown hK hP 0 rfl rfl 1 (Nat.le_of_ble_eq_true rfl) w7 (fun _ h9 => h9) rfl dX2_fill_103 ?_
    refine lv_bipush (v := 15) hx hb dX2_fill_106 rfl ?_
    refine va_mmin hx hb (hml.trans hl.1.symm) hown w0 w1 w2 w3 (Nat.le_of_ble_eq_true rfl) (Nat.le_of_ble_eq_true rfl) (Nat.zero_le _) (Nat.zero_le _) dX2_fill_108 ?_
    refine xnm hf (fun x_5 hf => ?_)
    refine lv_iconst (v := 1) hx hb dX2_fill_111 rfl ?_
    refine lv_isub hx hb dX2_fill_112 ?_
    refine xnm hf (fun x_6 hf => ?_)
    refine lv_istore_n (lv' := [(3, .int x_6), (0, .ref a0)]) hx hb dX2_fill_113 rfl hl (Nat.le_of_ble_eq_true rfl) rfl (fun ls hl => ?_)
    exact b114 FU v0 x_6 hf _ _ _ hP hD hS (lv_sub hl [1, 0] rfl)
  have bl48 : ∀ (k31 : V2 → Int32 → Int32 → Option (V2)) (q31 : ∀ (v0 : V2) (x2 : Int32) (x3 : Int32), k31 v0 x2 x3 = some v0' → ∀ (H : Heap) (locs : List Loc) (ls : Array Slot), va_P D vwCl [(a0, .inr (2, [.ref a1, .int v0.2.1, .int v0.2.2.1, .int v0.2.2.2.1, .int v0.2.2.2.2])), (a1, .inl (ca 1, 17, .inr (.inl v0.1)))] H → va_D A [(a0, .inr (2, [.ref a1, .int v0.2.1, .int v0.2.2.1, .int v0.2.2.2.1, .int v0.2.2.2.2])), (a1, .inl (ca 1, 17, .inr (.inl v0.1)))] → va_S A s.heap H locs → lv_has ls 5 [(0, .ref a0), (2, .int x2), (3, .int x3)] → W p l e ({ frames := 1, cells := 0, slots := 0, locals := 24 } : Room) s m args below meth c H locs 0 0 Q (F0 m 31 ls [])) (k48 : V2 → Int32 → Int32 → Int32 → Option (V2)) (q48 : ∀ (v0 : V2) (x2 : Int32) (x3 : Int32) (x4 : Int32), k48 v0 x2 x3 x4 = some v0' → ∀ (H : Heap) (locs : List Loc) (ls : Array Slot), va_P D vwCl [(a0, .inr (2, [.ref a1, .int v0.2.1, .int v0.2.2.1, .int v0.2.2.2.1, .int v0.2.2.2.2])), (a1, .inl (ca 1, 17, .inr (.inl v0.1)))] H → va_D A [(a0, .inr (2, [.ref a1, .int v0.2.1, .int v0.2.2.1, .int v0.2.2.2.1, .int v0.2.2.2.2])), (a1, .inl (ca 1, 17, .inr (.inl v0.1)))] → va_S A s.heap H locs → lv_has ls 5 [(0, .ref a0), (2, .int x2), (3, .int x3), (4, .int x4)] → W p l e ({ frames := 1, cells := 0, slots := 0, locals := 24 } : Room) s m args below meth c H locs 0 0 Q (F0 m 48 ls [])) (v0 : V2) (x2 : Int32) (x3 : Int32) (x4 : Int32), fl_X2_fill_48 k31 k48 v0 x2 x3 x4 = some v0' → ∀ (H : Heap) (locs : List Loc) (ls : Array Slot), va_P D vwCl [(a0, .inr (2, [.ref a1, .int v0.2.1, .int v0.2.2.1, .int v0.2.2.2.1, .int v0.2.2.2.2])), (a1, .inl (ca 1, 17, .inr (.inl v0.1)))] H → va_D A [(a0, .inr (2, [.ref a1, .int v0.2.1, .int v0.2.2.1, .int v0.2.2.2.1, .int v0.2.2.2.2])), (a1, .inl (ca 1, 17, .inr (.inl v0.1)))] → va_S A s.heap H locs → lv_has ls 5 [(0, .ref a0), (2, .int x2), (3, .int x3), (4, .int x4)] → W p l e ({ frames := 1, cells := 0, slots := 0, locals := 24 } : Room) s m args below meth c H locs 0 0 Q (F0 m 48 ls []) := by
    intro k31 q31 k48 q48 v0 x2 x3 x4 hf H locs ls hP hD hS hl
    unfold fl_X2_fill_48 at hf
    refine lv_iload hx hb dX2_fill_48 (lv_at hl 3 rfl) ?_
    refine xi_lt (tgt := 96) hx hb dX2_fill_50 (by decide) hf (fun hf => ?_) (fun hf => ?_)
    · obtain ⟨x_9, ex_9, hf⟩ := bnd_el hf
      refine lv_iinc (v := x_9) (lv' := [(3, .int x_9), (0, .ref a0), (2, .int x2), (4, .int x4)]) hx hb dX2_fill_96 hl (k := 2) rfl (by rw [ex_9]; rfl) (Nat.le_of_ble_eq_true rfl) rfl (fun ls hl => ?_)
      refine lv_goto (tgt := 31) hx hb dX2_fill_99 (by decide) ?_
      exact q31 v0 x2 x_9 hf _ _ _ hP hD hS (lv_sub hl [1, 2, 0] rfl)
    · refine lv_aload_n hx hb dX2_fill_53 rfl (lv_at hl 0 rfl) ?_
      refine va_get (C := RX2) (T := TX2) (N := 5) hx hb hts i2 hown hK hP 0 rfl rfl 0 (Nat.le_of_ble_eq_true rfl) w8 (fun _ h9 => h9) rfl dX2_fill_54 ?_
      refine lv_iload hx hb dX2_fill_57 (lv_at hl 3 rfl) ?_
      refine lv_iconst (v := 1) hx hb dX2_fill_59 rfl ?_
      refine lv_iadd hx hb dX2_fill_60 ?_
      refine xnm hf (fun x_10 hf => ?_)
      refine lv_dup2_11 hx hb dX2_fill_61 rfl rfl ?_
      refine xlald hx hb hK hP 1 rfl hf dX2_fill_62 (fun hf => ?_)
      refine lv_aload_n hx hb dX2_fill_63 rfl (lv_at hl 0 rfl) ?_
      refine va_get (C := RX2) (T := TX2) (N := 5) hx hb hts i2 hown hK hP 0 rfl rfl 0 (Nat.le_of_ble_eq_true rfl) w8 (fun _ h9 => h9) rfl dX2_fill_64 ?_
      refine lv_iload hx hb dX2_fill_67 (lv_at hl 3 rfl) ?_
      refine xlald hx hb hK hP 1 rfl hf dX2_fill_69 (fun hf => ?_)
      refine lv_iload_n hx hb dX2_fill_70 rfl (lv_at hl 1 rfl) ?_
      refine lv_i2l hx hb dX2_fill_71 rfl ?_
      refine lv_lmul hx hb dX2_fill_72 ?_
      refine lv_ladd hx hb dX2_fill_73 ?_
      refine xlast (wx := [(a0, .inr (2, [.ref a1, .int v0.2.1, .int v0.2.2.1, .int v0.2.2.2.1, .int v0.2.2.2.2])), (a1, .inl (ca 1, 17, .inr (.inl ((vp_updL v0.1 (x_10).toNatClampNeg ((v0.1 (x_10).toNatClampNeg) + ((v0.1 (x4).toNatClampNeg) * (Int32.toInt64 x2))))))))]) hx hb hK hP hD hS 1 rfl hf dX2_fill_74 rfl (fun H locs hf hP hD hS => ?_)
      obtain ⟨y_11, ey_11, hf⟩ := bnd_el hf
      rw [← ey_11] at hP hD
      refine lv_aload_n hx hb dX2_fill_75 rfl (lv_at hl 0 rfl) ?_
      refine va_get (C := RX2) (T := TX2) (N := 5) hx hb hts i2 hown hK hP 0 rfl rfl 0 (Nat.le_of_ble_eq_true rfl) w8 (fun _ h9 => h9) rfl dX2_fill_76 ?_
      refine lv_iload hx hb dX2_fill_79 (lv_at hl 3 rfl) ?_
      refine lv_dup2_11 hx hb dX2_fill_81 rfl rfl ?_
      refine xlald hx hb hK hP 1 rfl hf dX2_fill_82 (fun hf => ?_)
      refine lv_bipush (v := 16) hx hb dX2_fill_83 rfl ?_
      refine lv_iload_n hx hb dX2_fill_85 rfl (lv_at hl 1 rfl) ?_
      refine lv_isub hx hb dX2_fill_86 ?_
      refine lv_i2l hx hb dX2_fill_87 rfl ?_
      refine lv_lmul hx hb dX2_fill_88 ?_
      refine xlast (wx := [(a0, .inr (2, [.ref a1, .int v0.2.1, .int v0.2.2.1, .int v0.2.2.2.1, .int v0.2.2.2.2])), (a1, .inl (ca 1, 17, .inr (.inl ((vp_updL y_11 (x4).toNatClampNeg ((y_11 (x4).toNatClampNeg) * (Int32.toInt64 ((16 : Int32) - x2))))))))]) hx hb hK hP hD hS 1 rfl hf dX2_fill_89 rfl (fun H locs hf hP hD hS => ?_)
      obtain ⟨y_12, ey_12, hf⟩ := bnd_el hf
      rw [← ey_12] at hP hD
      obtain ⟨x_13, ex_13, hf⟩ := bnd_el hf
      refine lv_iinc (v := x_13) (lv' := [(4, .int x_13), (0, .ref a0), (2, .int x2), (3, .int x3)]) hx hb dX2_fill_90 hl (k := 3) rfl (by rw [ex_13]; rfl) (Nat.le_of_ble_eq_true rfl) rfl (fun ls hl => ?_)
      refine lv_goto (tgt := 48) hx hb dX2_fill_93 (by decide) ?_
      exact q48 ((y_12, v0.2)) x2 x3 x_13 hf _ _ _ hP hD hS (lv_sub hl [1, 2, 3, 0] rfl)
  have b48 : ∀ (k31 : V2 → Int32 → Int32 → Option (V2)) (q31 : ∀ (v0 : V2) (x2 : Int32) (x3 : Int32), k31 v0 x2 x3 = some v0' → ∀ (H : Heap) (locs : List Loc) (ls : Array Slot), va_P D vwCl [(a0, .inr (2, [.ref a1, .int v0.2.1, .int v0.2.2.1, .int v0.2.2.2.1, .int v0.2.2.2.2])), (a1, .inl (ca 1, 17, .inr (.inl v0.1)))] H → va_D A [(a0, .inr (2, [.ref a1, .int v0.2.1, .int v0.2.2.1, .int v0.2.2.2.1, .int v0.2.2.2.2])), (a1, .inl (ca 1, 17, .inr (.inl v0.1)))] → va_S A s.heap H locs → lv_has ls 5 [(0, .ref a0), (2, .int x2), (3, .int x3)] → W p l e ({ frames := 1, cells := 0, slots := 0, locals := 24 } : Room) s m args below meth c H locs 0 0 Q (F0 m 31 ls [])) (n : Nat) (v0 : V2) (x2 : Int32) (x3 : Int32) (x4 : Int32), fb_X2_fill_48 k31 n v0 x2 x3 x4 = some v0' → ∀ (H : Heap) (locs : List Loc) (ls : Array Slot), va_P D vwCl [(a0, .inr (2, [.ref a1, .int v0.2.1, .int v0.2.2.1, .int v0.2.2.2.1, .int v0.2.2.2.2])), (a1, .inl (ca 1, 17, .inr (.inl v0.1)))] H → va_D A [(a0, .inr (2, [.ref a1, .int v0.2.1, .int v0.2.2.1, .int v0.2.2.2.1, .int v0.2.2.2.2])), (a1, .inl (ca 1, 17, .inr (.inl v0.1)))] → va_S A s.heap H locs → lv_has ls 5 [(0, .ref a0), (2, .int x2), (3, .int x3), (4, .int x4)] → W p l e ({ frames := 1, cells := 0, slots := 0, locals := 24 } : Room) s m args below meth c H locs 0 0 Q (F0 m 48 ls []) := by
    intro k31 q31 n
    induction n with
    | zero => intro v0 x2 x3 x4 hf; exact no_el hf
    | succ n ih => exact bl48 k31 q31 (fb_X2_fill_48 k31 n) ih
  have bl31 : ∀ (k31 : V2 → Int32 → Int32 → Option (V2)) (q31 : ∀ (v0 : V2) (x2 : Int32) (x3 : Int32), k31 v0 x2 x3 = some v0' → ∀ (H : Heap) (locs : List Loc) (ls : Array Slot), va_P D vwCl [(a0, .inr (2, [.ref a1, .int v0.2.1, .int v0.2.2.1, .int v0.2.2.2.1, .int v0.2.2.2.2])), (a1, .inl (ca 1, 17, .inr (.inl v0.1)))] H → va_D A [(a0, .inr (2, [.ref a1, .int v0.2.1, .int v0.2.2.1, .int v0.2.2.2.1, .int v0.2.2.2.2])), (a1, .inl (ca 1, 17, .inr (.inl v0.1)))] → va_S A s.heap H locs → lv_has ls 5 [(0, .ref a0), (2, .int x2), (3, .int x3)] → W p l e ({ frames := 1, cells := 0, slots := 0, locals := 24 } : Room) s m args below meth c H locs 0 0 Q (F0 m 31 ls [])) (v0 : V2) (x2 : Int32) (x3 : Int32), fl_X2_fill_31 k31 v0 x2 x3 = some v0' → ∀ (H : Heap) (locs : List Loc) (ls : Array Slot), va_P D vwCl [(a0, .inr (2, [.ref a1, .int v0.2.1, .int v0.2.2.1, .int v0.2.2.2.1, .int v0.2.2.2.2])), (a1, .inl (ca 1, 17, .inr (.inl v0.1)))] H → va_D A [(a0, .inr (2, [.ref a1, .int v0.2.1, .int v0.2.2.1, .int v0.2.2.2.1, .int v0.2.2.2.2])), (a1, .inl (ca 1, 17, .inr (.inl v0.1)))] → va_S A s.heap H locs → lv_has ls 5 [(0, .ref a0), (2, .int x2), (3, .int x3)] → W p l e ({ frames := 1, cells := 0, slots := 0, locals := 24 } : Room) s m args below meth c H locs 0 0 Q (F0 m 31 ls []) := by
    intro k31 q31 v0 x2 x3 hf H locs ls hP hD hS hl
    unfold fl_X2_fill_31 at hf
    refine lv_iload_n hx hb dX2_fill_31 rfl (lv_at hl 2 rfl) ?_
    refine lv_aload_n hx hb dX2_fill_32 rfl (lv_at hl 0 rfl) ?_
    refine va_get (C := RX2) (T := TX2) (N := 5) hx hb hts i2 hown hK hP 0 rfl rfl 1 (Nat.le_of_ble_eq_true rfl) w7 (fun _ h9 => h9) rfl dX2_fill_33 ?_
    refine xc_ge (tgt := 102) hx hb dX2_fill_36 (by decide) hf (fun hf => ?_) (fun hf => ?_)
    · exact b102 v0 hf _ _ _ hP hD hS (lv_sub hl [0] rfl)
    · refine lv_iload_n hx hb dX2_fill_39 rfl (lv_at hl 2 rfl) ?_
      refine lv_bipush (v := 15) hx hb dX2_fill_40 rfl ?_
      refine xc_ge (tgt := 102) hx hb dX2_fill_42 (by decide) hf (fun hf => ?_) (fun hf => ?_)
      · exact b102 v0 hf _ _ _ hP hD hS (lv_sub hl [0] rfl)
      · refine lv_iload_n hx hb dX2_fill_45 rfl (lv_at hl 2 rfl) ?_
        refine lv_istore (lv' := [(4, .int x3), (0, .ref a0), (2, .int x2), (3, .int x3)]) hx hb dX2_fill_46 hl (Nat.le_of_ble_eq_true rfl) rfl (fun ls hl => ?_)
        exact b48 k31 q31 FU v0 x2 x3 x3 hf _ _ _ hP hD hS (lv_sub hl [1, 2, 3, 0] rfl)
  have b31 : ∀ (n : Nat) (v0 : V2) (x2 : Int32) (x3 : Int32), fb_X2_fill_31 n v0 x2 x3 = some v0' → ∀ (H : Heap) (locs : List Loc) (ls : Array Slot), va_P D vwCl [(a0, .inr (2, [.ref a1, .int v0.2.1, .int v0.2.2.1, .int v0.2.2.2.1, .int v0.2.2.2.2])), (a1, .inl (ca 1, 17, .inr (.inl v0.1)))] H → va_D A [(a0, .inr (2, [.ref a1, .int v0.2.1, .int v0.2.2.1, .int v0.2.2.2.1, .int v0.2.2.2.2])), (a1, .inl (ca 1, 17, .inr (.inl v0.1)))] → va_S A s.heap H locs → lv_has ls 5 [(0, .ref a0), (2, .int x2), (3, .int x3)] → W p l e ({ frames := 1, cells := 0, slots := 0, locals := 24 } : Room) s m args below meth c H locs 0 0 Q (F0 m 31 ls []) := by
    intro n
    induction n with
    | zero => intro v0 x2 x3 hf; exact no_el hf
    | succ n ih => exact bl31 (fb_X2_fill_31 n) ih
  unfold f_X2_fill at hf
  refine lv_aload_n hx hb dX2_fill_0 rfl (lv_at hl 0 rfl) ?_
  refine lv_iconst (v := 0) hx hb dX2_fill_1 rfl ?_
  refine lv_iload_n hx hb dX2_fill_2 rfl (lv_at hl 1 rfl) ?_
  refine lv_bipush (v := 15) hx hb dX2_fill_3 rfl ?_
  refine va_mmin hx hb (hml.trans hl.1.symm) hown w0 w1 w2 w3 (Nat.le_of_ble_eq_true rfl) (Nat.le_of_ble_eq_true rfl) (Nat.zero_le _) (Nat.zero_le _) dX2_fill_5 ?_
  refine xnm hf (fun x_1 hf => ?_)
  refine va_mmax hx hb (hml.trans hl.1.symm) hown w4 w5 w2 w6 (Nat.le_of_ble_eq_true rfl) (Nat.le_of_ble_eq_true rfl) (Nat.zero_le _) (Nat.zero_le _) dX2_fill_8 ?_
  refine xnm hf (fun x_2 hf => ?_)
  refine xput (C := RX2) (T := TX2) (N := 5) (wx := [(a0, .inr (2, [.ref a1, .int x_2, .int v0.2.2.1, .int v0.2.2.2.1, .int v0.2.2.2.2])), (a1, .inl (ca 1, 17, .inr (.inl v0.1)))]) hx hb hts i2 tyX2 tyX2_ok nmX2 hown hK hP hD hS 0 rfl rfl 1 (Nat.le_of_ble_eq_true rfl) w7 (fun _ h9 => h9) rfl rfl rfl rfl (Nat.le_of_ble_eq_true rfl) dX2_fill_11 rfl (fun H locs hP hD hS => ?_)
  refine lv_aload_n hx hb dX2_fill_14 rfl (lv_at hl 0 rfl) ?_
  refine va_get (C := RX2) (T := TX2) (N := 5) hx hb hts i2 hown hK hP 0 rfl rfl 0 (Nat.le_of_ble_eq_true rfl) w8 (fun _ h9 => h9) rfl dX2_fill_15 ?_
  refine lv_lconst (v := 0) hx hb dX2_fill_18 rfl ?_
  obtain ⟨u_3, hc3, hf⟩ := bnd1_el hf
  refine xS_V (As := [.ref a1, .long (0 : Int64)]) (wx := [(a0, .inr (2, [.ref a1, .int x_2, .int v0.2.2.1, .int v0.2.2.2.1, .int v0.2.2.2.2])), (a1, .inl (ca 1, 17, .inr (.inl u_3)))]) ⟨hx, hb, hml, hown, hts⟩ (c_J7_fill_d0a16 l D ca zz a1 _ 17 v0.1 (0 : Int64) u_3 hc3) (va_cwS 2 hts (gS gw_2_35 gw_2_36 gw_1_12 gw_2_37) rfl rfl rfl (by decide +kernel) ⟨(Nat.le_of_ble_eq_true rfl), (Nat.le_of_ble_eq_true rfl)⟩) hK hN hZ hA hP hD hS [1] rfl rfl rfl rfl hl.1 rfl (Nat.le_of_ble_eq_true rfl) dX2_fill_19 ⟨Nat.zero_le _, Nat.zero_le _⟩ rfl (fun H locs hP hD hS => ?_)
  refine lv_aload_n hx hb dX2_fill_22 rfl (lv_at hl 0 rfl) ?_
  refine va_get (C := RX2) (T := TX2) (N := 5) hx hb hts i2 hown hK hP 0 rfl rfl 0 (Nat.le_of_ble_eq_true rfl) w8 (fun _ h9 => h9) rfl dX2_fill_23 ?_
  refine lv_iconst (v := 0) hx hb dX2_fill_26 rfl ?_
  refine lv_lconst (v := 1) hx hb dX2_fill_27 rfl ?_
  refine xlast (wx := [(a0, .inr (2, [.ref a1, .int x_2, .int v0.2.2.1, .int v0.2.2.2.1, .int v0.2.2.2.2])), (a1, .inl (ca 1, 17, .inr (.inl ((vp_updL u_3 ((0 : Int32)).toNatClampNeg (1 : Int64))))))]) hx hb hK hP hD hS 1 rfl hf dX2_fill_28 rfl (fun H locs hf hP hD hS => ?_)
  obtain ⟨y_4, ey_4, hf⟩ := bnd_el hf
  rw [← ey_4] at hP hD
  refine lv_iconst (v := 0) hx hb dX2_fill_29 rfl ?_
  refine lv_istore_n (lv' := [(3, .int (0 : Int32)), (0, .ref a0), (1, .int p1), (2, .int p2)]) hx hb dX2_fill_30 rfl hl (Nat.le_of_ble_eq_true rfl) rfl (fun ls hl => ?_)
  exact b31 FU ((y_4, x_2, v0.2.2)) p2 (0 : Int32) hf _ _ _ hP hD hS (lv_sub hl [1, 3, 0] rfl)
abbrev wq_X2_leastBy : List Cond := Cond.code yX2_leastBy cX2_leastBy 7 (some .int) :: GL
set_option maxHeartbeats 4000000 in
set_option maxRecDepth 100000 in
theorem c_X2_leastBy (l : Launch) (D : va_G) (ca : Nat → ClassId) (zz : Nat → Nat) (a0 a1 : Nat) (sz : Nat) (v0 : V2) (p1 : Int32) (r : Int32) (hf : f_X2_leastBy v0 p1 = some r) : Met l yX2_leastBy wq_X2_leastBy ({ frames := 1, cells := 0, slots := 0, locals := 21 } : Room) (PR D ca zz [.ref a0, .int p1] sz [(a0, .inr (2, [.ref a1, .int v0.2.1, .int v0.2.2.1, .int v0.2.2.2.1, .int v0.2.2.2.2])), (a1, .inl (ca 1, 17, .inr (.inl v0.1)))]) (QI D ca r [(a0, .inr (2, [.ref a1, .int v0.2.1, .int v0.2.2.1, .int v0.2.2.2.1, .int v0.2.2.2.2])), (a1, .inl (ca 1, 17, .inr (.inl v0.1)))] (va_A [(a0, .inr (2, [.ref a1, .int v0.2.1, .int v0.2.2.1, .int v0.2.2.2.1, .int v0.2.2.2.2])), (a1, .inl (ca 1, 17, .inr (.inl v0.1)))] sz)) 0 0 (va_A [(a0, .inr (2, [.ref a1, .int v0.2.1, .int v0.2.2.1, .int v0.2.2.2.1, .int v0.2.2.2.2])), (a1, .inl (ca 1, 17, .inr (.inl v0.1)))] sz) := by
  refine en (y := yX2_leastBy) (wsm := wq_X2_leastBy) (av := [.ref a0, .int p1]) (cc := cX2_leastBy) (maxL := 7) (ret := (some .int)) (Qf := fun A => QI D ca r [(a0, .inr (2, [.ref a1, .int v0.2.1, .int v0.2.2.1, .int v0.2.2.2.1, .int v0.2.2.2.2])), (a1, .inl (ca 1, 17, .inr (.inl v0.1)))] A) (by decide) rfl (Nat.le_of_ble_eq_true rfl) ?_
  intro p e s m args below meth c A Q ls hx hb hr hml hown hts hlocks hnm hA hN hZ hK hQ hP hD hS hl
  have w0 := hts _ (List.mem_cons_of_mem _ gw_1_82)
  have w1 := hts _ (List.mem_cons_of_mem _ gw_2_29)
  have w2 := hts _ (List.mem_cons_of_mem _ gw_2_30)
  have w3 := hts _ (List.mem_cons_of_mem _ gw_1_11)
  have w4 := hts _ (List.mem_cons_of_mem _ gw_2_31)
  have w5 := hts _ (List.mem_cons_of_mem _ gw_1_81)
  have i2 : ∀ w ∈ u_ws RX2 TX2 5, w ∈ wq_X2_leastBy := fun w h => List.mem_cons_of_mem _ (inX2 w h)
  have bl38 : ∀ (k38 : Int32 → Int64 → Int32 → Option (Int32)) (q38 : ∀ (x3 : Int32) (x4 : Int64) (x6 : Int32), k38 x3 x4 x6 = some r → ∀ (H : Heap) (locs : List Loc) (ls : Array Slot), va_P D vwCl [(a0, .inr (2, [.ref a1, .int v0.2.1, .int v0.2.2.1, .int v0.2.2.2.1, .int v0.2.2.2.2])), (a1, .inl (ca 1, 17, .inr (.inl v0.1)))] H → va_D A [(a0, .inr (2, [.ref a1, .int v0.2.1, .int v0.2.2.1, .int v0.2.2.2.1, .int v0.2.2.2.2])), (a1, .inl (ca 1, 17, .inr (.inl v0.1)))] → va_S A s.heap H locs → lv_has ls 7 [(0, .ref a0), (3, .int x3), (4, .long x4), (6, .int x6)] → W p l e ({ frames := 1, cells := 0, slots := 0, locals := 21 } : Room) s m args below meth c H locs 0 0 Q (F0 m 38 ls [])) (x3 : Int32) (x4 : Int64) (x6 : Int32), fl_X2_leastBy_38 v0 k38 x3 x4 x6 = some r → ∀ (H : Heap) (locs : List Loc) (ls : Array Slot), va_P D vwCl [(a0, .inr (2, [.ref a1, .int v0.2.1, .int v0.2.2.1, .int v0.2.2.2.1, .int v0.2.2.2.2])), (a1, .inl (ca 1, 17, .inr (.inl v0.1)))] H → va_D A [(a0, .inr (2, [.ref a1, .int v0.2.1, .int v0.2.2.1, .int v0.2.2.2.1, .int v0.2.2.2.2])), (a1, .inl (ca 1, 17, .inr (.inl v0.1)))] → va_S A s.heap H locs → lv_has ls 7 [(0, .ref a0), (3, .int x3), (4, .long x4), (6, .int x6)] → W p l e ({ frames := 1, cells := 0, slots := 0, locals := 21 } : Room) s m args below meth c H locs 0 0 Q (F0 m 38 ls []) := by
    intro k38 q38 x3 x4 x6 hf H locs ls hP hD hS hl
    unfold fl_X2_leastBy_38 at hf
    refine lv_iload hx hb dX2_leastBy_38 (lv_at hl 3 rfl) ?_
    refine lv_iconst (v := 1) hx hb dX2_leastBy_40 rfl ?_
    refine xc_lt (tgt := 66) hx hb dX2_leastBy_41 (by decide) hf (fun hf => ?_) (fun hf => ?_)
    · refine lv_iload_n hx hb dX2_leastBy_66 rfl (lv_at hl 1 rfl) ?_
      cases hf
      exact rt_I hx hb hr hlocks hK hP hD hS hQ rfl rfl dX2_leastBy_67
    · refine lv_aload_n hx hb dX2_leastBy_44 rfl (lv_at hl 0 rfl) ?_
      refine va_get (C := RX2) (T := TX2) (N := 5) hx hb hts i2 hown hK hP 0 rfl rfl 0 (Nat.le_of_ble_eq_true rfl) w5 (fun _ h9 => h9) rfl dX2_leastBy_45 ?_
      refine lv_iload hx hb dX2_leastBy_48 (lv_at hl 3 rfl) ?_
      refine xlald hx hb hK hP 1 rfl hf dX2_leastBy_50 (fun hf => ?_)
      refine lv_lload hx hb dX2_leastBy_51 (lv_at hl 2 rfl) ?_
      refine xl_gt (tgt := 66) hx hb dX2_leastBy_53 dX2_leastBy_54 (by decide) hf (fun hf => ?_) (fun hf => ?_)
      · refine lv_iload_n hx hb dX2_leastBy_66 rfl (lv_at hl 1 rfl) ?_
        cases hf
        exact rt_I hx hb hr hlocks hK hP hD hS hQ rfl rfl dX2_leastBy_67
      · refine lv_iload hx hb dX2_leastBy_57 (lv_at hl 3 rfl) ?_
        refine lv_istore_n (lv' := [(3, .int x6), (0, .ref a0), (4, .long x4), (6, .int x6)]) hx hb dX2_leastBy_59 rfl hl (Nat.le_of_ble_eq_true rfl) rfl (fun ls hl => ?_)
        obtain ⟨x_5, ex_5, hf⟩ := bnd_el hf
        refine lv_iinc (v := x_5) (lv' := [(6, .int x_5), (3, .int x6), (0, .ref a0), (4, .long x4)]) hx hb dX2_leastBy_60 hl (k := 3) rfl (by rw [ex_5]; rfl) (Nat.le_of_ble_eq_true rfl) rfl (fun ls hl => ?_)
        refine lv_goto (tgt := 38) hx hb dX2_leastBy_63 (by decide) ?_
        exact q38 x6 x4 x_5 hf _ _ _ hP hD hS (lv_sub hl [2, 1, 3, 0] rfl)
  have b38 : ∀ (n : Nat) (x3 : Int32) (x4 : Int64) (x6 : Int32), fb_X2_leastBy_38 v0 n x3 x4 x6 = some r → ∀ (H : Heap) (locs : List Loc) (ls : Array Slot), va_P D vwCl [(a0, .inr (2, [.ref a1, .int v0.2.1, .int v0.2.2.1, .int v0.2.2.2.1, .int v0.2.2.2.2])), (a1, .inl (ca 1, 17, .inr (.inl v0.1)))] H → va_D A [(a0, .inr (2, [.ref a1, .int v0.2.1, .int v0.2.2.1, .int v0.2.2.2.1, .int v0.2.2.2.2])), (a1, .inl (ca 1, 17, .inr (.inl v0.1)))] → va_S A s.heap H locs → lv_has ls 7 [(0, .ref a0), (3, .int x3), (4, .long x4), (6, .int x6)] → W p l e ({ frames := 1, cells := 0, slots := 0, locals := 21 } : Room) s m args below meth c H locs 0 0 Q (F0 m 38 ls []) := by
    intro n
    induction n with
    | zero => intro x3 x4 x6 hf; exact no_el hf
    | succ n ih => exact bl38 (fb_X2_leastBy_38 v0 n) ih
  unfold f_X2_leastBy at hf
  refine lv_iconst (v := 4) hx hb dX2_leastBy_0 rfl ?_
  refine lv_aload_n hx hb dX2_leastBy_1 rfl (lv_at hl 0 rfl) ?_
  refine va_get (C := RX2) (T := TX2) (N := 5) hx hb hts i2 hown hK hP 0 rfl rfl 1 (Nat.le_of_ble_eq_true rfl) w0 (fun _ h9 => h9) rfl dX2_leastBy_2 ?_
  refine lv_imul hx hb dX2_leastBy_5 ?_
  refine lv_iload_n hx hb dX2_leastBy_6 rfl (lv_at hl 1 rfl) ?_
  refine lv_isub hx hb dX2_leastBy_7 ?_
  refine xnm hf (fun x_1 hf => ?_)
  refine lv_istore_n (lv' := [(2, .int x_1), (0, .ref a0), (1, .int p1)]) hx hb dX2_leastBy_8 rfl hl (Nat.le_of_ble_eq_true rfl) rfl (fun ls hl => ?_)
  refine lv_aload_n hx hb dX2_leastBy_9 rfl (lv_at hl 1 rfl) ?_
  refine va_get (C := RX2) (T := TX2) (N := 5) hx hb hts i2 hown hK hP 0 rfl rfl 1 (Nat.le_of_ble_eq_true rfl) w0 (fun _ h9 => h9) rfl dX2_leastBy_10 ?_
  refine lv_iconst (v := 1) hx hb dX2_leastBy_13 rfl ?_
  refine lv_iadd hx hb dX2_leastBy_14 ?_
  refine xnm hf (fun x_2 hf => ?_)
  refine lv_istore_n (lv' := [(3, .int x_2), (2, .int x_1), (0, .ref a0), (1, .int p1)]) hx hb dX2_leastBy_15 rfl hl (Nat.le_of_ble_eq_true rfl) rfl (fun ls hl => ?_)
  refine lv_iload_n hx hb dX2_leastBy_16 rfl (lv_at hl 1 rfl) ?_
  refine xi_ge (tgt := 22) hx hb dX2_leastBy_17 (by decide) hf (fun hf => ?_) (fun hf => ?_)
  · refine lv_lconst (v := 1) hx hb dX2_leastBy_22 rfl ?_
    refine lv_iload_n hx hb dX2_leastBy_23 rfl (lv_at hl 1 rfl) ?_
    refine lv_lshl (v := jlshl (1 : Int64) x_1) hx hb dX2_leastBy_24 rfl ?_
    refine xnml hf (fun x_3 hf => ?_)
    refine lv_lstore (lv' := [(4, .long x_3), (3, .int x_2), (2, .int x_1), (0, .ref a0), (1, .int p1)]) hx hb dX2_leastBy_25 hl (Nat.le_of_ble_eq_true rfl) rfl (fun ls hl => ?_)
    refine lv_aload_n hx hb dX2_leastBy_27 rfl (lv_at hl 3 rfl) ?_
    refine va_get (C := RX2) (T := TX2) (N := 5) hx hb hts i2 hown hK hP 0 rfl rfl 1 (Nat.le_of_ble_eq_true rfl) w0 (fun _ h9 => h9) rfl dX2_leastBy_28 ?_
    refine lv_bipush (v := 15) hx hb dX2_leastBy_31 rfl ?_
    refine va_mmin hx hb (hml.trans hl.1.symm) hown w1 w2 w3 w4 (Nat.le_of_ble_eq_true rfl) (Nat.le_of_ble_eq_true rfl) (Nat.zero_le _) (Nat.zero_le _) dX2_leastBy_33 ?_
    refine xnm hf (fun x_4 hf => ?_)
    refine lv_istore (lv' := [(6, .int x_4), (4, .long x_3), (3, .int x_2), (2, .int x_1), (0, .ref a0), (1, .int p1)]) hx hb dX2_leastBy_36 hl (Nat.le_of_ble_eq_true rfl) rfl (fun ls hl => ?_)
    exact b38 FU x_2 x_3 x_4 hf _ _ _ hP hD hS (lv_sub hl [4, 2, 1, 0] rfl)
  · refine lv_iload_n hx hb dX2_leastBy_20 rfl (lv_at hl 0 rfl) ?_
    cases hf
    exact rt_I hx hb hr hlocks hK hP hD hS hQ rfl rfl dX2_leastBy_21
abbrev wq_X2_setLimits : List Cond := Cond.code yX2_setLimits cX2_setLimits 4 none :: GL
set_option maxHeartbeats 4000000 in
set_option maxRecDepth 100000 in
theorem c_X2_setLimits (l : Launch) (D : va_G) (ca : Nat → ClassId) (zz : Nat → Nat) (a0 a1 : Nat) (sz : Nat) (v0 : V2) (p1 : Int32) (p2 : Int32) (p3 : Int32) (v0' : V2) (hf : f_X2_setLimits v0 p1 p2 p3 = some v0') : Met l yX2_setLimits wq_X2_setLimits ({ frames := 2, cells := 0, slots := 0, locals := 48 } : Room) (PR D ca zz [.ref a0, .int p1, .int p2, .int p3] sz [(a0, .inr (2, [.ref a1, .int v0.2.1, .int v0.2.2.1, .int v0.2.2.2.1, .int v0.2.2.2.2])), (a1, .inl (ca 1, 17, .inr (.inl v0.1)))]) (QV D ca [(a0, .inr (2, [.ref a1, .int v0'.2.1, .int v0'.2.2.1, .int v0'.2.2.2.1, .int v0'.2.2.2.2])), (a1, .inl (ca 1, 17, .inr (.inl v0'.1)))] (va_A [(a0, .inr (2, [.ref a1, .int v0.2.1, .int v0.2.2.1, .int v0.2.2.2.1, .int v0.2.2.2.2])), (a1, .inl (ca 1, 17, .inr (.inl v0.1)))] sz)) 0 0 (va_A [(a0, .inr (2, [.ref a1, .int v0.2.1, .int v0.2.2.1, .int v0.2.2.2.1, .int v0.2.2.2.2])), (a1, .inl (ca 1, 17, .inr (.inl v0.1)))] sz) := by
  refine en (y := yX2_setLimits) (wsm := wq_X2_setLimits) (av := [.ref a0, .int p1, .int p2, .int p3]) (cc := cX2_setLimits) (maxL := 4) (ret := none) (Qf := fun A => QV D ca [(a0, .inr (2, [.ref a1, .int v0'.2.1, .int v0'.2.2.1, .int v0'.2.2.2.1, .int v0'.2.2.2.2])), (a1, .inl (ca 1, 17, .inr (.inl v0'.1)))] A) (by decide) rfl (Nat.le_of_ble_eq_true rfl) ?_
  intro p e s m args below meth c A Q ls hx hb hr hml hown hts hlocks hnm hA hN hZ hK hQ hP hD hS hl
  have w0 := hts _ (List.mem_cons_of_mem _ gw_1_83)
  have w1 := hts _ (List.mem_cons_of_mem _ gw_1_86)
  have w2 := hts _ (List.mem_cons_of_mem _ gw_1_89)
  have i2 : ∀ w ∈ u_ws RX2 TX2 5, w ∈ wq_X2_setLimits := fun w h => List.mem_cons_of_mem _ (inX2 w h)
  unfold f_X2_setLimits at hf
  refine lv_aload_n hx hb dX2_setLimits_0 rfl (lv_at hl 0 rfl) ?_
  refine lv_iload_n hx hb dX2_setLimits_1 rfl (lv_at hl 1 rfl) ?_
  refine lv_iload_n hx hb dX2_setLimits_2 rfl (lv_at hl 2 rfl) ?_
  obtain ⟨r_1, hc1, hf⟩ := bnd1_el hf
  refine xS_I (As := [.int p1, .int p2]) (wx := [(a0, .inr (2, [.ref a1, .int v0.2.1, .int v0.2.2.1, .int v0.2.2.2.1, .int v0.2.2.2.2])), (a1, .inl (ca 1, 17, .inr (.inl v0.1)))]) ⟨hx, hb, hml, hown, hts⟩ (c_X2_leastRepeats l D ca zz  _ p1 p2 r_1 hc1) (va_cwS 2 hts (gS gw_2_22 gw_2_23 gw_1_4 gw_2_24) rfl rfl rfl (by decide +kernel) ⟨(Nat.le_of_ble_eq_true rfl), (Nat.le_of_ble_eq_true rfl)⟩) hK hN hZ hA hP hD hS [] rfl rfl rfl rfl hl.1 rfl (Nat.le_of_ble_eq_true rfl) dX2_setLimits_3 ⟨Nat.zero_le _, Nat.zero_le _⟩ rfl (fun H locs hP hD hS => ?_)
  refine xput (C := RX2) (T := TX2) (N := 5) (wx := [(a0, .inr (2, [.ref a1, .int v0.2.1, .int r_1, .int v0.2.2.2.1, .int v0.2.2.2.2])), (a1, .inl (ca 1, 17, .inr (.inl v0.1)))]) hx hb hts i2 tyX2 tyX2_ok nmX2 hown hK hP hD hS 0 rfl rfl 2 (Nat.le_of_ble_eq_true rfl) w0 (fun _ h9 => h9) rfl rfl rfl rfl (Nat.le_of_ble_eq_true rfl) dX2_setLimits_6 rfl (fun H locs hP hD hS => ?_)
  refine lv_aload_n hx hb dX2_setLimits_9 rfl (lv_at hl 0 rfl) ?_
  refine lv_iload_n hx hb dX2_setLimits_10 rfl (lv_at hl 3 rfl) ?_
  refine lv_iconst (v := 1) hx hb dX2_setLimits_11 rfl ?_
  refine lv_isub hx hb dX2_setLimits_12 ?_
  refine lv_iload_n hx hb dX2_setLimits_13 rfl (lv_at hl 1 rfl) ?_
  obtain ⟨u_2, hc2, hf⟩ := bnd1_el hf
  refine xV_V (As := [.int (p3 - (1 : Int32)), .int p1]) (wx := [(a0, .inr (2, [.ref a1, .int u_2.2.1, .int u_2.2.2.1, .int u_2.2.2.2.1, .int u_2.2.2.2.2])), (a1, .inl (ca 1, 17, .inr (.inl u_2.1)))]) ⟨hx, hb, hml, hown, hts⟩ (c_X2_fill l D ca zz a0 a1 _ ((v0.1, v0.2.1, r_1, v0.2.2.2)) (p3 - (1 : Int32)) p1 u_2 hc2) (cwV 2 hts (gV gw_2_25 gw_2_26 gw_2_27 gw_1_4 gw_2_28) rfl rfl rfl (by decide +kernel) ⟨(Nat.le_of_ble_eq_true rfl), (Nat.le_of_ble_eq_true rfl)⟩) hK hN hZ hA hP hD hS [0, 1] rfl rfl rfl rfl 0 rfl rfl hl.1 rfl (Nat.le_of_ble_eq_true rfl) dX2_setLimits_14 ⟨Nat.zero_le _, Nat.zero_le _⟩ rfl (fun H locs hP hD hS => ?_)
  refine lv_aload_n hx hb dX2_setLimits_17 rfl (lv_at hl 0 rfl) ?_
  refine lv_aload_n hx hb dX2_setLimits_18 rfl (lv_at hl 0 rfl) ?_
  refine lv_iload_n hx hb dX2_setLimits_19 rfl (lv_at hl 2 rfl) ?_
  obtain ⟨r_3, hc3, hf⟩ := bnd1_el hf
  refine xV_I (As := [.int p2]) (wx := [(a0, .inr (2, [.ref a1, .int u_2.2.1, .int u_2.2.2.1, .int u_2.2.2.2.1, .int u_2.2.2.2.2])), (a1, .inl (ca 1, 17, .inr (.inl u_2.1)))]) ⟨hx, hb, hml, hown, hts⟩ (c_X2_leastBy l D ca zz a0 a1 _ u_2 p2 r_3 hc3) (cwV 1 hts (gV gw_2_38 gw_2_39 gw_2_40 gw_1_4 gw_2_41) rfl rfl rfl (by decide +kernel) ⟨(Nat.le_of_ble_eq_true rfl), (Nat.le_of_ble_eq_true rfl)⟩) hK hN hZ hA hP hD hS [0, 1] rfl rfl rfl rfl 0 rfl rfl hl.1 rfl (Nat.le_of_ble_eq_true rfl) dX2_setLimits_20 ⟨Nat.zero_le _, Nat.zero_le _⟩ rfl (fun H locs hP hD hS => ?_)
  refine lv_iconst (v := 1) hx hb dX2_setLimits_23 rfl ?_
  refine lv_iadd hx hb dX2_setLimits_24 ?_
  refine xnm hf (fun x_4 hf => ?_)
  refine xput (C := RX2) (T := TX2) (N := 5) (wx := [(a0, .inr (2, [.ref a1, .int u_2.2.1, .int u_2.2.2.1, .int x_4, .int u_2.2.2.2.2])), (a1, .inl (ca 1, 17, .inr (.inl u_2.1)))]) hx hb hts i2 tyX2 tyX2_ok nmX2 hown hK hP hD hS 0 rfl rfl 3 (Nat.le_of_ble_eq_true rfl) w1 (fun _ h9 => h9) rfl rfl rfl rfl (Nat.le_of_ble_eq_true rfl) dX2_setLimits_25 rfl (fun H locs hP hD hS => ?_)
  refine lv_aload_n hx hb dX2_setLimits_28 rfl (lv_at hl 0 rfl) ?_
  refine lv_iload_n hx hb dX2_setLimits_29 rfl (lv_at hl 3 rfl) ?_
  refine lv_iconst (v := 1) hx hb dX2_setLimits_30 rfl ?_
  refine lv_isub hx hb dX2_setLimits_31 ?_
  refine lv_bipush (v := 8) hx hb dX2_setLimits_32 rfl ?_
  obtain ⟨u_5, hc5, hf⟩ := bnd1_el hf
  refine xV_V (As := [.int (p3 - (1 : Int32)), .int (8 : Int32)]) (wx := [(a0, .inr (2, [.ref a1, .int u_5.2.1, .int u_5.2.2.1, .int u_5.2.2.2.1, .int u_5.2.2.2.2])), (a1, .inl (ca 1, 17, .inr (.inl u_5.1)))]) ⟨hx, hb, hml, hown, hts⟩ (c_X2_fill l D ca zz a0 a1 _ ((u_2.1, u_2.2.1, u_2.2.2.1, x_4, u_2.2.2.2.2)) (p3 - (1 : Int32)) (8 : Int32) u_5 hc5) (cwV 2 hts (gV gw_2_25 gw_2_26 gw_2_27 gw_1_4 gw_2_28) rfl rfl rfl (by decide +kernel) ⟨(Nat.le_of_ble_eq_true rfl), (Nat.le_of_ble_eq_true rfl)⟩) hK hN hZ hA hP hD hS [0, 1] rfl rfl rfl rfl 0 rfl rfl hl.1 rfl (Nat.le_of_ble_eq_true rfl) dX2_setLimits_34 ⟨Nat.zero_le _, Nat.zero_le _⟩ rfl (fun H locs hP hD hS => ?_)
  refine lv_aload_n hx hb dX2_setLimits_37 rfl (lv_at hl 0 rfl) ?_
  refine lv_aload_n hx hb dX2_setLimits_38 rfl (lv_at hl 0 rfl) ?_
  refine lv_iload_n hx hb dX2_setLimits_39 rfl (lv_at hl 2 rfl) ?_
  obtain ⟨r_6, hc6, hf⟩ := bnd1_el hf
  refine xV_I (As := [.int p2]) (wx := [(a0, .inr (2, [.ref a1, .int u_5.2.1, .int u_5.2.2.1, .int u_5.2.2.2.1, .int u_5.2.2.2.2])), (a1, .inl (ca 1, 17, .inr (.inl u_5.1)))]) ⟨hx, hb, hml, hown, hts⟩ (c_X2_leastBy l D ca zz a0 a1 _ u_5 p2 r_6 hc6) (cwV 1 hts (gV gw_2_38 gw_2_39 gw_2_40 gw_1_4 gw_2_41) rfl rfl rfl (by decide +kernel) ⟨(Nat.le_of_ble_eq_true rfl), (Nat.le_of_ble_eq_true rfl)⟩) hK hN hZ hA hP hD hS [0, 1] rfl rfl rfl rfl 0 rfl rfl hl.1 rfl (Nat.le_of_ble_eq_true rfl) dX2_setLimits_40 ⟨Nat.zero_le _, Nat.zero_le _⟩ rfl (fun H locs hP hD hS => ?_)
  refine xput (C := RX2) (T := TX2) (N := 5) (wx := [(a0, .inr (2, [.ref a1, .int u_5.2.1, .int u_5.2.2.1, .int u_5.2.2.2.1, .int r_6])), (a1, .inl (ca 1, 17, .inr (.inl u_5.1)))]) hx hb hts i2 tyX2 tyX2_ok nmX2 hown hK hP hD hS 0 rfl rfl 4 (Nat.le_of_ble_eq_true rfl) w2 (fun _ h9 => h9) rfl rfl rfl rfl (Nat.le_of_ble_eq_true rfl) dX2_setLimits_43 rfl (fun H locs hP hD hS => ?_)
  cases hf
  exact rt_V hx hb hr hlocks hK hP hD hS hQ rfl dX2_setLimits_46
abbrev wq_X8_begin : List Cond := Cond.code yX8_begin cX8_begin 2 none :: GL
set_option maxHeartbeats 4000000 in
set_option maxRecDepth 100000 in
theorem c_X8_begin (l : Launch) (D : va_G) (ca : Nat → ClassId) (zz : Nat → Nat) (a0 : Nat) (sz : Nat) (v0 : V8) (p1 : Int32) (v0' : V8) (hf : f_X8_begin v0 p1 = some v0') : Met l yX8_begin wq_X8_begin ({ frames := 0, cells := 0, slots := 0, locals := 0 } : Room) (PR D ca zz [.ref a0, .int p1] sz [(a0, .inr (8, [.int v0.1, .int v0.2.1, .int v0.2.2]))]) (QV D ca [(a0, .inr (8, [.int v0'.1, .int v0'.2.1, .int v0'.2.2]))] (va_A [(a0, .inr (8, [.int v0.1, .int v0.2.1, .int v0.2.2]))] sz)) 0 0 (va_A [(a0, .inr (8, [.int v0.1, .int v0.2.1, .int v0.2.2]))] sz) := by
  refine en (y := yX8_begin) (wsm := wq_X8_begin) (av := [.ref a0, .int p1]) (cc := cX8_begin) (maxL := 2) (ret := none) (Qf := fun A => QV D ca [(a0, .inr (8, [.int v0'.1, .int v0'.2.1, .int v0'.2.2]))] A) (by decide) rfl (Nat.le_of_ble_eq_true rfl) ?_
  intro p e s m args below meth c A Q ls hx hb hr hml hown hts hlocks hnm hA hN hZ hK hQ hP hD hS hl
  have w0 := hts _ (List.mem_cons_of_mem _ gw_1_110)
  have w1 := hts _ (List.mem_cons_of_mem _ gw_1_111)
  have w2 := hts _ (List.mem_cons_of_mem _ gw_1_113)
  have i8 : ∀ w ∈ u_ws RX8 TX8 3, w ∈ wq_X8_begin := fun w h => List.mem_cons_of_mem _ (inX8 w h)
  unfold f_X8_begin at hf
  refine lv_aload_n hx hb dX8_begin_0 rfl (lv_at hl 0 rfl) ?_
  refine lv_iload_n hx hb dX8_begin_1 rfl (lv_at hl 1 rfl) ?_
  refine xput (C := RX8) (T := TX8) (N := 3) (wx := [(a0, .inr (8, [.int p1, .int v0.2.1, .int v0.2.2]))]) hx hb hts i8 tyX8 tyX8_ok nmX8 hown hK hP hD hS 0 rfl rfl 0 (Nat.le_of_ble_eq_true rfl) w0 (fun _ h9 => h9) rfl rfl rfl rfl (Nat.le_of_ble_eq_true rfl) dX8_begin_2 rfl (fun H locs hP hD hS => ?_)
  refine lv_aload_n hx hb dX8_begin_5 rfl (lv_at hl 0 rfl) ?_
  refine lv_iconst (v := 0) hx hb dX8_begin_6 rfl ?_
  refine xput (C := RX8) (T := TX8) (N := 3) (wx := [(a0, .inr (8, [.int p1, .int (0 : Int32), .int v0.2.2]))]) hx hb hts i8 tyX8 tyX8_ok nmX8 hown hK hP hD hS 0 rfl rfl 1 (Nat.le_of_ble_eq_true rfl) w1 (fun _ h9 => h9) rfl rfl rfl rfl (Nat.le_of_ble_eq_true rfl) dX8_begin_7 rfl (fun H locs hP hD hS => ?_)
  refine lv_aload_n hx hb dX8_begin_10 rfl (lv_at hl 0 rfl) ?_
  refine lv_iconst (v := 0) hx hb dX8_begin_11 rfl ?_
  refine xput (C := RX8) (T := TX8) (N := 3) (wx := [(a0, .inr (8, [.int p1, .int (0 : Int32), .int (0 : Int32)]))]) hx hb hts i8 tyX8 tyX8_ok nmX8 hown hK hP hD hS 0 rfl rfl 2 (Nat.le_of_ble_eq_true rfl) w2 (fun _ h9 => h9) rfl rfl rfl rfl (Nat.le_of_ble_eq_true rfl) dX8_begin_12 rfl (fun H locs hP hD hS => ?_)
  cases hf
  exact rt_V hx hb hr hlocks hK hP hD hS hQ rfl dX8_begin_15
abbrev wq_X1_clear : List Cond := Cond.code yX1_clear cX1_clear 1 none :: GL
set_option maxHeartbeats 4000000 in
set_option maxRecDepth 100000 in
theorem c_X1_clear (l : Launch) (D : va_G) (ca : Nat → ClassId) (zz : Nat → Nat) (a0 : Nat) (sz : Nat) (v0 : V1) (v0' : V1) (hf : f_X1_clear v0 = some v0') : Met l yX1_clear wq_X1_clear ({ frames := 0, cells := 0, slots := 0, locals := 0 } : Room) (PR D ca zz [.ref a0] sz [(a0, .inr (1, [.int v0.1, .int v0.2.1, .int v0.2.2.1, .int v0.2.2.2.1, .int v0.2.2.2.2.1, .int v0.2.2.2.2.2]))]) (QV D ca [(a0, .inr (1, [.int v0'.1, .int v0'.2.1, .int v0'.2.2.1, .int v0'.2.2.2.1, .int v0'.2.2.2.2.1, .int v0'.2.2.2.2.2]))] (va_A [(a0, .inr (1, [.int v0.1, .int v0.2.1, .int v0.2.2.1, .int v0.2.2.2.1, .int v0.2.2.2.2.1, .int v0.2.2.2.2.2]))] sz)) 0 0 (va_A [(a0, .inr (1, [.int v0.1, .int v0.2.1, .int v0.2.2.1, .int v0.2.2.2.1, .int v0.2.2.2.2.1, .int v0.2.2.2.2.2]))] sz) := by
  refine en (y := yX1_clear) (wsm := wq_X1_clear) (av := [.ref a0]) (cc := cX1_clear) (maxL := 1) (ret := none) (Qf := fun A => QV D ca [(a0, .inr (1, [.int v0'.1, .int v0'.2.1, .int v0'.2.2.1, .int v0'.2.2.2.1, .int v0'.2.2.2.2.1, .int v0'.2.2.2.2.2]))] A) (by decide) rfl (Nat.le_of_ble_eq_true rfl) ?_
  intro p e s m args below meth c A Q ls hx hb hr hml hown hts hlocks hnm hA hN hZ hK hQ hP hD hS hl
  have w0 := hts _ (List.mem_cons_of_mem _ gw_1_127)
  have w1 := hts _ (List.mem_cons_of_mem _ gw_1_130)
  have w2 := hts _ (List.mem_cons_of_mem _ gw_1_131)
  have w3 := hts _ (List.mem_cons_of_mem _ gw_1_133)
  have w4 := hts _ (List.mem_cons_of_mem _ gw_1_134)
  have w5 := hts _ (List.mem_cons_of_mem _ gw_1_137)
  have i1 : ∀ w ∈ u_ws RX1 TX1 6, w ∈ wq_X1_clear := fun w h => List.mem_cons_of_mem _ (inX1 w h)
  unfold f_X1_clear at hf
  refine lv_aload_n hx hb dX1_clear_0 rfl (lv_at hl 0 rfl) ?_
  refine lv_iconst (v := 0) hx hb dX1_clear_1 rfl ?_
  refine xput (C := RX1) (T := TX1) (N := 6) (wx := [(a0, .inr (1, [.int (0 : Int32), .int v0.2.1, .int v0.2.2.1, .int v0.2.2.2.1, .int v0.2.2.2.2.1, .int v0.2.2.2.2.2]))]) hx hb hts i1 tyX1 tyX1_ok nmX1 hown hK hP hD hS 0 rfl rfl 0 (Nat.le_of_ble_eq_true rfl) w0 (fun _ h9 => h9) rfl rfl rfl rfl (Nat.le_of_ble_eq_true rfl) dX1_clear_2 rfl (fun H locs hP hD hS => ?_)
  refine lv_aload_n hx hb dX1_clear_5 rfl (lv_at hl 0 rfl) ?_
  refine lv_iconst (v := 0) hx hb dX1_clear_6 rfl ?_
  refine xput (C := RX1) (T := TX1) (N := 6) (wx := [(a0, .inr (1, [.int (0 : Int32), .int (0 : Int32), .int v0.2.2.1, .int v0.2.2.2.1, .int v0.2.2.2.2.1, .int v0.2.2.2.2.2]))]) hx hb hts i1 tyX1 tyX1_ok nmX1 hown hK hP hD hS 0 rfl rfl 1 (Nat.le_of_ble_eq_true rfl) w1 (fun _ h9 => h9) rfl rfl rfl rfl (Nat.le_of_ble_eq_true rfl) dX1_clear_7 rfl (fun H locs hP hD hS => ?_)
  refine lv_aload_n hx hb dX1_clear_10 rfl (lv_at hl 0 rfl) ?_
  refine lv_iconst (v := 0) hx hb dX1_clear_11 rfl ?_
  refine xput (C := RX1) (T := TX1) (N := 6) (wx := [(a0, .inr (1, [.int (0 : Int32), .int (0 : Int32), .int (0 : Int32), .int v0.2.2.2.1, .int v0.2.2.2.2.1, .int v0.2.2.2.2.2]))]) hx hb hts i1 tyX1 tyX1_ok nmX1 hown hK hP hD hS 0 rfl rfl 2 (Nat.le_of_ble_eq_true rfl) w2 (fun _ h9 => h9) rfl rfl rfl rfl (Nat.le_of_ble_eq_true rfl) dX1_clear_12 rfl (fun H locs hP hD hS => ?_)
  refine lv_aload_n hx hb dX1_clear_15 rfl (lv_at hl 0 rfl) ?_
  refine lv_iconst (v := 0) hx hb dX1_clear_16 rfl ?_
  refine xput (C := RX1) (T := TX1) (N := 6) (wx := [(a0, .inr (1, [.int (0 : Int32), .int (0 : Int32), .int (0 : Int32), .int (0 : Int32), .int v0.2.2.2.2.1, .int v0.2.2.2.2.2]))]) hx hb hts i1 tyX1 tyX1_ok nmX1 hown hK hP hD hS 0 rfl rfl 3 (Nat.le_of_ble_eq_true rfl) w3 (fun _ h9 => h9) rfl rfl rfl rfl (Nat.le_of_ble_eq_true rfl) dX1_clear_17 rfl (fun H locs hP hD hS => ?_)
  refine lv_aload_n hx hb dX1_clear_20 rfl (lv_at hl 0 rfl) ?_
  refine lv_iconst (v := 0) hx hb dX1_clear_21 rfl ?_
  refine xput (C := RX1) (T := TX1) (N := 6) (wx := [(a0, .inr (1, [.int (0 : Int32), .int (0 : Int32), .int (0 : Int32), .int (0 : Int32), .int (0 : Int32), .int v0.2.2.2.2.2]))]) hx hb hts i1 tyX1 tyX1_ok nmX1 hown hK hP hD hS 0 rfl rfl 4 (Nat.le_of_ble_eq_true rfl) w4 (fun _ h9 => h9) rfl rfl rfl rfl (Nat.le_of_ble_eq_true rfl) dX1_clear_22 rfl (fun H locs hP hD hS => ?_)
  refine lv_aload_n hx hb dX1_clear_25 rfl (lv_at hl 0 rfl) ?_
  refine lv_iconst (v := 0) hx hb dX1_clear_26 rfl ?_
  refine xput (C := RX1) (T := TX1) (N := 6) (wx := [(a0, .inr (1, [.int (0 : Int32), .int (0 : Int32), .int (0 : Int32), .int (0 : Int32), .int (0 : Int32), .int (0 : Int32)]))]) hx hb hts i1 tyX1 tyX1_ok nmX1 hown hK hP hD hS 0 rfl rfl 5 (Nat.le_of_ble_eq_true rfl) w5 (fun _ h9 => h9) rfl rfl rfl rfl (Nat.le_of_ble_eq_true rfl) dX1_clear_27 rfl (fun H locs hP hD hS => ?_)
  cases hf
  exact rt_V hx hb hr hlocks hK hP hD hS hQ rfl dX1_clear_30
abbrev wq_X4_clear : List Cond := Cond.code yX4_clear cX4_clear 1 none :: GL
set_option maxHeartbeats 4000000 in
set_option maxRecDepth 100000 in
theorem c_X4_clear (l : Launch) (D : va_G) (ca : Nat → ClassId) (zz : Nat → Nat) (a0 a1 : Nat) (sz : Nat) (v0 : V4) (v0' : V4) (hf : f_X4_clear v0 = some v0') : Met l yX4_clear wq_X4_clear ({ frames := 0, cells := 0, slots := 0, locals := 0 } : Room) (PR D ca zz [.ref a0] sz [(a0, .inr (4, [.ref a1, .int v0.2.1, .int v0.2.2]))]) (QV D ca [(a0, .inr (4, [.ref a1, .int v0'.2.1, .int v0'.2.2]))] (va_A [(a0, .inr (4, [.ref a1, .int v0.2.1, .int v0.2.2]))] sz)) 0 0 (va_A [(a0, .inr (4, [.ref a1, .int v0.2.1, .int v0.2.2]))] sz) := by
  refine en (y := yX4_clear) (wsm := wq_X4_clear) (av := [.ref a0]) (cc := cX4_clear) (maxL := 1) (ret := none) (Qf := fun A => QV D ca [(a0, .inr (4, [.ref a1, .int v0'.2.1, .int v0'.2.2]))] A) (by decide) rfl (Nat.le_of_ble_eq_true rfl) ?_
  intro p e s m args below meth c A Q ls hx hb hr hml hown hts hlocks hnm hA hN hZ hK hQ hP hD hS hl
  have w0 := hts _ (List.mem_cons_of_mem _ gw_1_166)
  have w1 := hts _ (List.mem_cons_of_mem _ gw_1_167)
  have i4 : ∀ w ∈ u_ws RX4 TX4 3, w ∈ wq_X4_clear := fun w h => List.mem_cons_of_mem _ (inX4 w h)
  unfold f_X4_clear at hf
  refine lv_aload_n hx hb dX4_clear_0 rfl (lv_at hl 0 rfl) ?_
  refine lv_iconst (v := 0) hx hb dX4_clear_1 rfl ?_
  refine xput (C := RX4) (T := TX4) (N := 3) (wx := [(a0, .inr (4, [.ref a1, .int (0 : Int32), .int v0.2.2]))]) hx hb hts i4 tyX4 tyX4_ok nmX4 hown hK hP hD hS 0 rfl rfl 1 (Nat.le_of_ble_eq_true rfl) w0 (fun _ h9 => h9) rfl rfl rfl rfl (Nat.le_of_ble_eq_true rfl) dX4_clear_2 rfl (fun H locs hP hD hS => ?_)
  refine lv_aload_n hx hb dX4_clear_5 rfl (lv_at hl 0 rfl) ?_
  refine lv_iconst (v := 0) hx hb dX4_clear_6 rfl ?_
  refine xput (C := RX4) (T := TX4) (N := 3) (wx := [(a0, .inr (4, [.ref a1, .int (0 : Int32), .int (0 : Int32)]))]) hx hb hts i4 tyX4 tyX4_ok nmX4 hown hK hP hD hS 0 rfl rfl 2 (Nat.le_of_ble_eq_true rfl) w1 (fun _ h9 => h9) rfl rfl rfl rfl (Nat.le_of_ble_eq_true rfl) dX4_clear_7 rfl (fun H locs hP hD hS => ?_)
  cases hf
  exact rt_V hx hb hr hlocks hK hP hD hS hQ rfl dX4_clear_10
abbrev wq_X3_begin : List Cond := Cond.code yX3_begin cX3_begin 1 none :: GL
set_option maxHeartbeats 4000000 in
set_option maxRecDepth 100000 in
theorem c_X3_begin (l : Launch) (D : va_G) (ca : Nat → ClassId) (zz : Nat → Nat) (a0 a1 a2 : Nat) (sz : Nat) (v0 : V3) (v0' : V3) (hf : f_X3_begin v0 = some v0') : Met l yX3_begin wq_X3_begin ({ frames := 1, cells := 0, slots := 0, locals := 20 } : Room) (PR D ca zz [.ref a0] sz [(a0, .inr (3, [.ref a1, .int v0.2.1, .int v0.2.2.1, .int v0.2.2.2.1, .int v0.2.2.2.2.1, .int v0.2.2.2.2.2.1, .int v0.2.2.2.2.2.2])), (a1, .inr (4, [.ref a2, .int v0.1.2.1, .int v0.1.2.2]))]) (QV D ca [(a0, .inr (3, [.ref a1, .int v0'.2.1, .int v0'.2.2.1, .int v0'.2.2.2.1, .int v0'.2.2.2.2.1, .int v0'.2.2.2.2.2.1, .int v0'.2.2.2.2.2.2])), (a1, .inr (4, [.ref a2, .int v0'.1.2.1, .int v0'.1.2.2]))] (va_A [(a0, .inr (3, [.ref a1, .int v0.2.1, .int v0.2.2.1, .int v0.2.2.2.1, .int v0.2.2.2.2.1, .int v0.2.2.2.2.2.1, .int v0.2.2.2.2.2.2])), (a1, .inr (4, [.ref a2, .int v0.1.2.1, .int v0.1.2.2]))] sz)) 0 0 (va_A [(a0, .inr (3, [.ref a1, .int v0.2.1, .int v0.2.2.1, .int v0.2.2.2.1, .int v0.2.2.2.2.1, .int v0.2.2.2.2.2.1, .int v0.2.2.2.2.2.2])), (a1, .inr (4, [.ref a2, .int v0.1.2.1, .int v0.1.2.2]))] sz) := by
  refine en (y := yX3_begin) (wsm := wq_X3_begin) (av := [.ref a0]) (cc := cX3_begin) (maxL := 1) (ret := none) (Qf := fun A => QV D ca [(a0, .inr (3, [.ref a1, .int v0'.2.1, .int v0'.2.2.1, .int v0'.2.2.2.1, .int v0'.2.2.2.2.1, .int v0'.2.2.2.2.2.1, .int v0'.2.2.2.2.2.2])), (a1, .inr (4, [.ref a2, .int v0'.1.2.1, .int v0'.1.2.2]))] A) (by decide) rfl (Nat.le_of_ble_eq_true rfl) ?_
  intro p e s m args below meth c A Q ls hx hb hr hml hown hts hlocks hnm hA hN hZ hK hQ hP hD hS hl
  have w0 := hts _ (List.mem_cons_of_mem _ gw_1_179)
  have w1 := hts _ (List.mem_cons_of_mem _ gw_1_182)
  have w2 := hts _ (List.mem_cons_of_mem _ gw_1_183)
  have w3 := hts _ (List.mem_cons_of_mem _ gw_1_185)
  have w4 := hts _ (List.mem_cons_of_mem _ gw_1_187)
  have w5 := hts _ (List.mem_cons_of_mem _ gw_1_189)
  have w6 := hts _ (List.mem_cons_of_mem _ gw_1_191)
  have i3 : ∀ w ∈ u_ws RX3 TX3 7, w ∈ wq_X3_begin := fun w h => List.mem_cons_of_mem _ (inX3 w h)
  unfold f_X3_begin at hf
  refine lv_aload_n hx hb dX3_begin_0 rfl (lv_at hl 0 rfl) ?_
  refine va_get (C := RX3) (T := TX3) (N := 7) hx hb hts i3 hown hK hP 0 rfl rfl 0 (Nat.le_of_ble_eq_true rfl) w0 (fun _ h9 => h9) rfl dX3_begin_1 ?_
  obtain ⟨u_1, hc1, hf⟩ := bnd1_el hf
  refine xV_V (As := []) (wx := [(a0, .inr (3, [.ref a1, .int v0.2.1, .int v0.2.2.1, .int v0.2.2.2.1, .int v0.2.2.2.2.1, .int v0.2.2.2.2.2.1, .int v0.2.2.2.2.2.2])), (a1, .inr (4, [.ref a2, .int u_1.2.1, .int u_1.2.2]))]) ⟨hx, hb, hml, hown, hts⟩ (c_X4_clear l D ca zz a1 a2 _ v0.1 u_1 hc1) (cwV 0 hts (gV gw_2_54 gw_2_55 gw_2_56 gw_1_8 gw_2_57) rfl rfl rfl (by decide +kernel) ⟨(Nat.le_of_ble_eq_true rfl), (Nat.le_of_ble_eq_true rfl)⟩) hK hN hZ hA hP hD hS [1] rfl rfl rfl rfl 1 rfl rfl hl.1 rfl (Nat.le_of_ble_eq_true rfl) dX3_begin_4 ⟨Nat.zero_le _, Nat.zero_le _⟩ rfl (fun H locs hP hD hS => ?_)
  refine lv_aload_n hx hb dX3_begin_7 rfl (lv_at hl 0 rfl) ?_
  refine lv_iconst (v := 0) hx hb dX3_begin_8 rfl ?_
  refine xput (C := RX3) (T := TX3) (N := 7) (wx := [(a0, .inr (3, [.ref a1, .int (0 : Int32), .int v0.2.2.1, .int v0.2.2.2.1, .int v0.2.2.2.2.1, .int v0.2.2.2.2.2.1, .int v0.2.2.2.2.2.2])), (a1, .inr (4, [.ref a2, .int u_1.2.1, .int u_1.2.2]))]) hx hb hts i3 tyX3 tyX3_ok nmX3 hown hK hP hD hS 0 rfl rfl 1 (Nat.le_of_ble_eq_true rfl) w1 (fun _ h9 => h9) rfl rfl rfl rfl (Nat.le_of_ble_eq_true rfl) dX3_begin_9 rfl (fun H locs hP hD hS => ?_)
  refine lv_aload_n hx hb dX3_begin_12 rfl (lv_at hl 0 rfl) ?_
  refine lv_iconst (v := 0) hx hb dX3_begin_13 rfl ?_
  refine xput (C := RX3) (T := TX3) (N := 7) (wx := [(a0, .inr (3, [.ref a1, .int (0 : Int32), .int (0 : Int32), .int v0.2.2.2.1, .int v0.2.2.2.2.1, .int v0.2.2.2.2.2.1, .int v0.2.2.2.2.2.2])), (a1, .inr (4, [.ref a2, .int u_1.2.1, .int u_1.2.2]))]) hx hb hts i3 tyX3 tyX3_ok nmX3 hown hK hP hD hS 0 rfl rfl 2 (Nat.le_of_ble_eq_true rfl) w2 (fun _ h9 => h9) rfl rfl rfl rfl (Nat.le_of_ble_eq_true rfl) dX3_begin_14 rfl (fun H locs hP hD hS => ?_)
  refine lv_aload_n hx hb dX3_begin_17 rfl (lv_at hl 0 rfl) ?_
  refine lv_iconst (v := 0) hx hb dX3_begin_18 rfl ?_
  refine xput (C := RX3) (T := TX3) (N := 7) (wx := [(a0, .inr (3, [.ref a1, .int (0 : Int32), .int (0 : Int32), .int (0 : Int32), .int v0.2.2.2.2.1, .int v0.2.2.2.2.2.1, .int v0.2.2.2.2.2.2])), (a1, .inr (4, [.ref a2, .int u_1.2.1, .int u_1.2.2]))]) hx hb hts i3 tyX3 tyX3_ok nmX3 hown hK hP hD hS 0 rfl rfl 3 (Nat.le_of_ble_eq_true rfl) w3 (fun _ h9 => h9) rfl rfl rfl rfl (Nat.le_of_ble_eq_true rfl) dX3_begin_19 rfl (fun H locs hP hD hS => ?_)
  refine lv_aload_n hx hb dX3_begin_22 rfl (lv_at hl 0 rfl) ?_
  refine lv_iconst (v := 0) hx hb dX3_begin_23 rfl ?_
  refine xput (C := RX3) (T := TX3) (N := 7) (wx := [(a0, .inr (3, [.ref a1, .int (0 : Int32), .int (0 : Int32), .int (0 : Int32), .int (0 : Int32), .int v0.2.2.2.2.2.1, .int v0.2.2.2.2.2.2])), (a1, .inr (4, [.ref a2, .int u_1.2.1, .int u_1.2.2]))]) hx hb hts i3 tyX3 tyX3_ok nmX3 hown hK hP hD hS 0 rfl rfl 4 (Nat.le_of_ble_eq_true rfl) w4 (fun _ h9 => h9) rfl rfl rfl rfl (Nat.le_of_ble_eq_true rfl) dX3_begin_24 rfl (fun H locs hP hD hS => ?_)
  refine lv_aload_n hx hb dX3_begin_27 rfl (lv_at hl 0 rfl) ?_
  refine lv_iconst (v := 0) hx hb dX3_begin_28 rfl ?_
  refine xput (C := RX3) (T := TX3) (N := 7) (wx := [(a0, .inr (3, [.ref a1, .int (0 : Int32), .int (0 : Int32), .int (0 : Int32), .int (0 : Int32), .int (0 : Int32), .int v0.2.2.2.2.2.2])), (a1, .inr (4, [.ref a2, .int u_1.2.1, .int u_1.2.2]))]) hx hb hts i3 tyX3 tyX3_ok nmX3 hown hK hP hD hS 0 rfl rfl 5 (Nat.le_of_ble_eq_true rfl) w5 (fun _ h9 => h9) rfl rfl rfl rfl (Nat.le_of_ble_eq_true rfl) dX3_begin_29 rfl (fun H locs hP hD hS => ?_)
  refine lv_aload_n hx hb dX3_begin_32 rfl (lv_at hl 0 rfl) ?_
  refine lv_iconst (v := 0) hx hb dX3_begin_33 rfl ?_
  refine xput (C := RX3) (T := TX3) (N := 7) (wx := [(a0, .inr (3, [.ref a1, .int (0 : Int32), .int (0 : Int32), .int (0 : Int32), .int (0 : Int32), .int (0 : Int32), .int (0 : Int32)])), (a1, .inr (4, [.ref a2, .int u_1.2.1, .int u_1.2.2]))]) hx hb hts i3 tyX3 tyX3_ok nmX3 hown hK hP hD hS 0 rfl rfl 6 (Nat.le_of_ble_eq_true rfl) w6 (fun _ h9 => h9) rfl rfl rfl rfl (Nat.le_of_ble_eq_true rfl) dX3_begin_34 rfl (fun H locs hP hD hS => ?_)
  cases hf
  exact rt_V hx hb hr hlocks hK hP hD hS hQ rfl dX3_begin_37
abbrev wq_X6_clear : List Cond := Cond.code yX6_clear cX6_clear 1 none :: GL
set_option maxHeartbeats 4000000 in
set_option maxRecDepth 100000 in
theorem c_X6_clear (l : Launch) (D : va_G) (ca : Nat → ClassId) (zz : Nat → Nat) (a0 a1 a2 : Nat) (sz : Nat) (v0 : V6) (v0' : V6) (hf : f_X6_clear v0 = some v0') : Met l yX6_clear wq_X6_clear ({ frames := 0, cells := 0, slots := 0, locals := 0 } : Room) (PR D ca zz [.ref a0] sz [(a0, .inr (6, [.ref a1, .ref a2, .int v0.2.2]))]) (QV D ca [(a0, .inr (6, [.ref a1, .ref a2, .int v0'.2.2]))] (va_A [(a0, .inr (6, [.ref a1, .ref a2, .int v0.2.2]))] sz)) 0 0 (va_A [(a0, .inr (6, [.ref a1, .ref a2, .int v0.2.2]))] sz) := by
  refine en (y := yX6_clear) (wsm := wq_X6_clear) (av := [.ref a0]) (cc := cX6_clear) (maxL := 1) (ret := none) (Qf := fun A => QV D ca [(a0, .inr (6, [.ref a1, .ref a2, .int v0'.2.2]))] A) (by decide) rfl (Nat.le_of_ble_eq_true rfl) ?_
  intro p e s m args below meth c A Q ls hx hb hr hml hown hts hlocks hnm hA hN hZ hK hQ hP hD hS hl
  have w0 := hts _ (List.mem_cons_of_mem _ gw_1_218)
  have i6 : ∀ w ∈ u_ws RX6 TX6 3, w ∈ wq_X6_clear := fun w h => List.mem_cons_of_mem _ (inX6 w h)
  unfold f_X6_clear at hf
  refine lv_aload_n hx hb dX6_clear_0 rfl (lv_at hl 0 rfl) ?_
  refine lv_iconst (v := 0) hx hb dX6_clear_1 rfl ?_
  refine xput (C := RX6) (T := TX6) (N := 3) (wx := [(a0, .inr (6, [.ref a1, .ref a2, .int (0 : Int32)]))]) hx hb hts i6 tyX6 tyX6_ok nmX6 hown hK hP hD hS 0 rfl rfl 2 (Nat.le_of_ble_eq_true rfl) w0 (fun _ h9 => h9) rfl rfl rfl rfl (Nat.le_of_ble_eq_true rfl) dX6_clear_2 rfl (fun H locs hP hD hS => ?_)
  cases hf
  exact rt_V hx hb hr hlocks hK hP hD hS hQ rfl dX6_clear_5
abbrev wq_X9_refuse : List Cond := Cond.code yX9_refuse cX9_refuse 3 none :: GL
set_option maxHeartbeats 4000000 in
set_option maxRecDepth 100000 in
theorem c_X9_refuse (l : Launch) (D : va_G) (ca : Nat → ClassId) (zz : Nat → Nat) (a0 a1 : Nat) (sz : Nat) (v0 : V9) (p1 : Int32) (p2 : Int32) (v0' : V9) (hf : f_X9_refuse v0 p1 p2 = some v0') : Met l yX9_refuse wq_X9_refuse ({ frames := 0, cells := 0, slots := 0, locals := 0 } : Room) (PR D ca zz [.ref a0, .int p1, .int p2] sz [(a0, .inr (9, [.ref a1, .int v0.2.1, .int v0.2.2.1, .int v0.2.2.2]))]) (QV D ca [(a0, .inr (9, [.ref a1, .int v0'.2.1, .int v0'.2.2.1, .int v0'.2.2.2]))] (va_A [(a0, .inr (9, [.ref a1, .int v0.2.1, .int v0.2.2.1, .int v0.2.2.2]))] sz)) 0 0 (va_A [(a0, .inr (9, [.ref a1, .int v0.2.1, .int v0.2.2.1, .int v0.2.2.2]))] sz) := by
  refine en (y := yX9_refuse) (wsm := wq_X9_refuse) (av := [.ref a0, .int p1, .int p2]) (cc := cX9_refuse) (maxL := 3) (ret := none) (Qf := fun A => QV D ca [(a0, .inr (9, [.ref a1, .int v0'.2.1, .int v0'.2.2.1, .int v0'.2.2.2]))] A) (by decide) rfl (Nat.le_of_ble_eq_true rfl) ?_
  intro p e s m args below meth c A Q ls hx hb hr hml hown hts hlocks hnm hA hN hZ hK hQ hP hD hS hl
  have w0 := hts _ (List.mem_cons_of_mem _ gw_1_234)
  have w1 := hts _ (List.mem_cons_of_mem _ gw_1_237)
  have w2 := hts _ (List.mem_cons_of_mem _ gw_1_239)
  have i9 : ∀ w ∈ u_ws RX9 TX9 4, w ∈ wq_X9_refuse := fun w h => List.mem_cons_of_mem _ (inX9 w h)
  unfold f_X9_refuse at hf
  refine lv_aload_n hx hb dX9_refuse_0 rfl (lv_at hl 0 rfl) ?_
  refine lv_iconst (v := 0) hx hb dX9_refuse_1 rfl ?_
  refine xput (C := RX9) (T := TX9) (N := 4) (wx := [(a0, .inr (9, [.ref a1, .int (0 : Int32), .int v0.2.2.1, .int v0.2.2.2]))]) hx hb hts i9 tyX9 tyX9_ok nmX9 hown hK hP hD hS 0 rfl rfl 1 (Nat.le_of_ble_eq_true rfl) w0 (fun _ h9 => h9) rfl rfl rfl rfl (Nat.le_of_ble_eq_true rfl) dX9_refuse_2 rfl (fun H locs hP hD hS => ?_)
  refine lv_aload_n hx hb dX9_refuse_5 rfl (lv_at hl 0 rfl) ?_
  refine lv_iload_n hx hb dX9_refuse_6 rfl (lv_at hl 1 rfl) ?_
  refine xput (C := RX9) (T := TX9) (N := 4) (wx := [(a0, .inr (9, [.ref a1, .int (0 : Int32), .int p1, .int v0.2.2.2]))]) hx hb hts i9 tyX9 tyX9_ok nmX9 hown hK hP hD hS 0 rfl rfl 2 (Nat.le_of_ble_eq_true rfl) w1 (fun _ h9 => h9) rfl rfl rfl rfl (Nat.le_of_ble_eq_true rfl) dX9_refuse_7 rfl (fun H locs hP hD hS => ?_)
  refine lv_aload_n hx hb dX9_refuse_10 rfl (lv_at hl 0 rfl) ?_
  refine lv_iload_n hx hb dX9_refuse_11 rfl (lv_at hl 2 rfl) ?_
  refine xput (C := RX9) (T := TX9) (N := 4) (wx := [(a0, .inr (9, [.ref a1, .int (0 : Int32), .int p1, .int p2]))]) hx hb hts i9 tyX9 tyX9_ok nmX9 hown hK hP hD hS 0 rfl rfl 3 (Nat.le_of_ble_eq_true rfl) w2 (fun _ h9 => h9) rfl rfl rfl rfl (Nat.le_of_ble_eq_true rfl) dX9_refuse_12 rfl (fun H locs hP hD hS => ?_)
  cases hf
  exact rt_V hx hb hr hlocks hK hP hD hS hQ rfl dX9_refuse_15
abbrev wq_X9_begin : List Cond := Cond.code yX9_begin cX9_begin 1 none :: GL
set_option maxHeartbeats 4000000 in
set_option maxRecDepth 100000 in
theorem c_X9_begin (l : Launch) (D : va_G) (ca : Nat → ClassId) (zz : Nat → Nat) (a0 a1 : Nat) (sz : Nat) (v0 : V9) (v0' : V9) (hf : f_X9_begin v0 = some v0') : Met l yX9_begin wq_X9_begin ({ frames := 1, cells := 0, slots := 0, locals := 22 } : Room) (PR D ca zz [.ref a0] sz [(a0, .inr (9, [.ref a1, .int v0.2.1, .int v0.2.2.1, .int v0.2.2.2]))]) (QV D ca [(a0, .inr (9, [.ref a1, .int v0'.2.1, .int v0'.2.2.1, .int v0'.2.2.2]))] (va_A [(a0, .inr (9, [.ref a1, .int v0.2.1, .int v0.2.2.1, .int v0.2.2.2]))] sz)) 0 0 (va_A [(a0, .inr (9, [.ref a1, .int v0.2.1, .int v0.2.2.1, .int v0.2.2.2]))] sz) := by
  refine en (y := yX9_begin) (wsm := wq_X9_begin) (av := [.ref a0]) (cc := cX9_begin) (maxL := 1) (ret := none) (Qf := fun A => QV D ca [(a0, .inr (9, [.ref a1, .int v0'.2.1, .int v0'.2.2.1, .int v0'.2.2.2]))] A) (by decide) rfl (Nat.le_of_ble_eq_true rfl) ?_
  intro p e s m args below meth c A Q ls hx hb hr hml hown hts hlocks hnm hA hN hZ hK hQ hP hD hS hl
  unfold f_X9_begin at hf
  refine lv_aload_n hx hb dX9_begin_0 rfl (lv_at hl 0 rfl) ?_
  refine lv_iconst (v := 0) hx hb dX9_begin_1 rfl ?_
  refine lv_iconst (v := -1) hx hb dX9_begin_2 rfl ?_
  obtain ⟨u_1, hc1, hf⟩ := bnd1_el hf
  refine xV_V (As := [.int (0 : Int32), .int (-1 : Int32)]) (wx := [(a0, .inr (9, [.ref a1, .int u_1.2.1, .int u_1.2.2.1, .int u_1.2.2.2]))]) ⟨hx, hb, hml, hown, hts⟩ (c_X9_refuse l D ca zz a0 a1 _ v0 (0 : Int32) (-1 : Int32) u_1 hc1) (cwV 2 hts (gV gw_2_67 gw_2_68 gw_2_69 gw_1_10 gw_2_70) rfl rfl rfl (by decide +kernel) ⟨(Nat.le_of_ble_eq_true rfl), (Nat.le_of_ble_eq_true rfl)⟩) hK hN hZ hA hP hD hS [0] rfl rfl rfl rfl 0 rfl rfl hl.1 rfl (Nat.le_of_ble_eq_true rfl) dX9_begin_3 ⟨Nat.zero_le _, Nat.zero_le _⟩ rfl (fun H locs hP hD hS => ?_)
  cases hf
  exact rt_V hx hb hr hlocks hK hP hD hS hQ rfl dX9_begin_6
abbrev wq_X10_begin : List Cond := Cond.code yX10_begin cX10_begin 1 none :: GL
set_option maxHeartbeats 4000000 in
set_option maxRecDepth 100000 in
theorem c_X10_begin (l : Launch) (D : va_G) (ca : Nat → ClassId) (zz : Nat → Nat) (a0 a1 a2 a3 a4 a5 a6 a7 a8 a9 a10 a11 a12 a13 a14 a15 a16 a17 a18 a19 : Nat) (sz : Nat) (v0 : V10) (v0' : V10) (hf : f_X10_begin v0 = some v0') : Met l yX10_begin wq_X10_begin ({ frames := 3, cells := 0, slots := 0, locals := 71 } : Room) (PR D ca zz [.ref a0] sz [(a0, .inr (10, [.ref a1, .ref a6, .ref a8, .ref a9, .ref a10, .ref a13, .ref a15, .ref a18, .int v0.2.2.2.2.2.2.2.2.1, .int v0.2.2.2.2.2.2.2.2.2.1, .int v0.2.2.2.2.2.2.2.2.2.2.1, .int v0.2.2.2.2.2.2.2.2.2.2.2.1, .int v0.2.2.2.2.2.2.2.2.2.2.2.2.1, .int v0.2.2.2.2.2.2.2.2.2.2.2.2.2])), (a1, .inr (7, [.ref a2, .ref a3, .ref a4, .ref a5, .int v0.1.2.2.2.2])), (a2, .inl (ca 0, 9, .inl v0.1.1)), (a6, .inr (2, [.ref a7, .int v0.2.1.2.1, .int v0.2.1.2.2.1, .int v0.2.1.2.2.2.1, .int v0.2.1.2.2.2.2])), (a7, .inl (ca 1, 17, .inr (.inl v0.2.1.1))), (a8, .inr (8, [.int v0.2.2.1.1, .int v0.2.2.1.2.1, .int v0.2.2.1.2.2])), (a9, .inr (1, [.int v0.2.2.2.1.1, .int v0.2.2.2.1.2.1, .int v0.2.2.2.1.2.2.1, .int v0.2.2.2.1.2.2.2.1, .int v0.2.2.2.1.2.2.2.2.1, .int v0.2.2.2.1.2.2.2.2.2])), (a10, .inr (3, [.ref a11, .int v0.2.2.2.2.1.2.1, .int v0.2.2.2.2.1.2.2.1, .int v0.2.2.2.2.1.2.2.2.1, .int v0.2.2.2.2.1.2.2.2.2.1, .int v0.2.2.2.2.1.2.2.2.2.2.1, .int v0.2.2.2.2.1.2.2.2.2.2.2])), (a11, .inr (4, [.ref a12, .int v0.2.2.2.2.1.1.2.1, .int v0.2.2.2.2.1.1.2.2])), (a13, .inr (4, [.ref a14, .int v0.2.2.2.2.2.1.2.1, .int v0.2.2.2.2.2.1.2.2])), (a15, .inr (6, [.ref a16, .ref a17, .int v0.2.2.2.2.2.2.1.2.2])), (a18, .inr (9, [.ref a19, .int v0.2.2.2.2.2.2.2.1.2.1, .int v0.2.2.2.2.2.2.2.1.2.2.1, .int v0.2.2.2.2.2.2.2.1.2.2.2]))]) (QV D ca [(a0, .inr (10, [.ref a1, .ref a6, .ref a8, .ref a9, .ref a10, .ref a13, .ref a15, .ref a18, .int v0'.2.2.2.2.2.2.2.2.1, .int v0'.2.2.2.2.2.2.2.2.2.1, .int v0'.2.2.2.2.2.2.2.2.2.2.1, .int v0'.2.2.2.2.2.2.2.2.2.2.2.1, .int v0'.2.2.2.2.2.2.2.2.2.2.2.2.1, .int v0'.2.2.2.2.2.2.2.2.2.2.2.2.2])), (a1, .inr (7, [.ref a2, .ref a3, .ref a4, .ref a5, .int v0'.1.2.2.2.2])), (a2, .inl (ca 0, 9, .inl v0'.1.1)), (a6, .inr (2, [.ref a7, .int v0'.2.1.2.1, .int v0'.2.1.2.2.1, .int v0'.2.1.2.2.2.1, .int v0'.2.1.2.2.2.2])), (a7, .inl (ca 1, 17, .inr (.inl v0'.2.1.1))), (a8, .inr (8, [.int v0'.2.2.1.1, .int v0'.2.2.1.2.1, .int v0'.2.2.1.2.2])), (a9, .inr (1, [.int v0'.2.2.2.1.1, .int v0'.2.2.2.1.2.1, .int v0'.2.2.2.1.2.2.1, .int v0'.2.2.2.1.2.2.2.1, .int v0'.2.2.2.1.2.2.2.2.1, .int v0'.2.2.2.1.2.2.2.2.2])), (a10, .inr (3, [.ref a11, .int v0'.2.2.2.2.1.2.1, .int v0'.2.2.2.2.1.2.2.1, .int v0'.2.2.2.2.1.2.2.2.1, .int v0'.2.2.2.2.1.2.2.2.2.1, .int v0'.2.2.2.2.1.2.2.2.2.2.1, .int v0'.2.2.2.2.1.2.2.2.2.2.2])), (a11, .inr (4, [.ref a12, .int v0'.2.2.2.2.1.1.2.1, .int v0'.2.2.2.2.1.1.2.2])), (a13, .inr (4, [.ref a14, .int v0'.2.2.2.2.2.1.2.1, .int v0'.2.2.2.2.2.1.2.2])), (a15, .inr (6, [.ref a16, .ref a17, .int v0'.2.2.2.2.2.2.1.2.2])), (a18, .inr (9, [.ref a19, .int v0'.2.2.2.2.2.2.2.1.2.1, .int v0'.2.2.2.2.2.2.2.1.2.2.1, .int v0'.2.2.2.2.2.2.2.1.2.2.2]))] (va_A [(a0, .inr (10, [.ref a1, .ref a6, .ref a8, .ref a9, .ref a10, .ref a13, .ref a15, .ref a18, .int v0.2.2.2.2.2.2.2.2.1, .int v0.2.2.2.2.2.2.2.2.2.1, .int v0.2.2.2.2.2.2.2.2.2.2.1, .int v0.2.2.2.2.2.2.2.2.2.2.2.1, .int v0.2.2.2.2.2.2.2.2.2.2.2.2.1, .int v0.2.2.2.2.2.2.2.2.2.2.2.2.2])), (a1, .inr (7, [.ref a2, .ref a3, .ref a4, .ref a5, .int v0.1.2.2.2.2])), (a2, .inl (ca 0, 9, .inl v0.1.1)), (a6, .inr (2, [.ref a7, .int v0.2.1.2.1, .int v0.2.1.2.2.1, .int v0.2.1.2.2.2.1, .int v0.2.1.2.2.2.2])), (a7, .inl (ca 1, 17, .inr (.inl v0.2.1.1))), (a8, .inr (8, [.int v0.2.2.1.1, .int v0.2.2.1.2.1, .int v0.2.2.1.2.2])), (a9, .inr (1, [.int v0.2.2.2.1.1, .int v0.2.2.2.1.2.1, .int v0.2.2.2.1.2.2.1, .int v0.2.2.2.1.2.2.2.1, .int v0.2.2.2.1.2.2.2.2.1, .int v0.2.2.2.1.2.2.2.2.2])), (a10, .inr (3, [.ref a11, .int v0.2.2.2.2.1.2.1, .int v0.2.2.2.2.1.2.2.1, .int v0.2.2.2.2.1.2.2.2.1, .int v0.2.2.2.2.1.2.2.2.2.1, .int v0.2.2.2.2.1.2.2.2.2.2.1, .int v0.2.2.2.2.1.2.2.2.2.2.2])), (a11, .inr (4, [.ref a12, .int v0.2.2.2.2.1.1.2.1, .int v0.2.2.2.2.1.1.2.2])), (a13, .inr (4, [.ref a14, .int v0.2.2.2.2.2.1.2.1, .int v0.2.2.2.2.2.1.2.2])), (a15, .inr (6, [.ref a16, .ref a17, .int v0.2.2.2.2.2.2.1.2.2])), (a18, .inr (9, [.ref a19, .int v0.2.2.2.2.2.2.2.1.2.1, .int v0.2.2.2.2.2.2.2.1.2.2.1, .int v0.2.2.2.2.2.2.2.1.2.2.2]))] sz)) 0 0 (va_A [(a0, .inr (10, [.ref a1, .ref a6, .ref a8, .ref a9, .ref a10, .ref a13, .ref a15, .ref a18, .int v0.2.2.2.2.2.2.2.2.1, .int v0.2.2.2.2.2.2.2.2.2.1, .int v0.2.2.2.2.2.2.2.2.2.2.1, .int v0.2.2.2.2.2.2.2.2.2.2.2.1, .int v0.2.2.2.2.2.2.2.2.2.2.2.2.1, .int v0.2.2.2.2.2.2.2.2.2.2.2.2.2])), (a1, .inr (7, [.ref a2, .ref a3, .ref a4, .ref a5, .int v0.1.2.2.2.2])), (a2, .inl (ca 0, 9, .inl v0.1.1)), (a6, .inr (2, [.ref a7, .int v0.2.1.2.1, .int v0.2.1.2.2.1, .int v0.2.1.2.2.2.1, .int v0.2.1.2.2.2.2])), (a7, .inl (ca 1, 17, .inr (.inl v0.2.1.1))), (a8, .inr (8, [.int v0.2.2.1.1, .int v0.2.2.1.2.1, .int v0.2.2.1.2.2])), (a9, .inr (1, [.int v0.2.2.2.1.1, .int v0.2.2.2.1.2.1, .int v0.2.2.2.1.2.2.1, .int v0.2.2.2.1.2.2.2.1, .int v0.2.2.2.1.2.2.2.2.1, .int v0.2.2.2.1.2.2.2.2.2])), (a10, .inr (3, [.ref a11, .int v0.2.2.2.2.1.2.1, .int v0.2.2.2.2.1.2.2.1, .int v0.2.2.2.2.1.2.2.2.1, .int v0.2.2.2.2.1.2.2.2.2.1, .int v0.2.2.2.2.1.2.2.2.2.2.1, .int v0.2.2.2.2.1.2.2.2.2.2.2])), (a11, .inr (4, [.ref a12, .int v0.2.2.2.2.1.1.2.1, .int v0.2.2.2.2.1.1.2.2])), (a13, .inr (4, [.ref a14, .int v0.2.2.2.2.2.1.2.1, .int v0.2.2.2.2.2.1.2.2])), (a15, .inr (6, [.ref a16, .ref a17, .int v0.2.2.2.2.2.2.1.2.2])), (a18, .inr (9, [.ref a19, .int v0.2.2.2.2.2.2.2.1.2.1, .int v0.2.2.2.2.2.2.2.1.2.2.1, .int v0.2.2.2.2.2.2.2.1.2.2.2]))] sz) := by
  refine en (y := yX10_begin) (wsm := wq_X10_begin) (av := [.ref a0]) (cc := cX10_begin) (maxL := 1) (ret := none) (Qf := fun A => QV D ca [(a0, .inr (10, [.ref a1, .ref a6, .ref a8, .ref a9, .ref a10, .ref a13, .ref a15, .ref a18, .int v0'.2.2.2.2.2.2.2.2.1, .int v0'.2.2.2.2.2.2.2.2.2.1, .int v0'.2.2.2.2.2.2.2.2.2.2.1, .int v0'.2.2.2.2.2.2.2.2.2.2.2.1, .int v0'.2.2.2.2.2.2.2.2.2.2.2.2.1, .int v0'.2.2.2.2.2.2.2.2.2.2.2.2.2])), (a1, .inr (7, [.ref a2, .ref a3, .ref a4, .ref a5, .int v0'.1.2.2.2.2])), (a2, .inl (ca 0, 9, .inl v0'.1.1)), (a6, .inr (2, [.ref a7, .int v0'.2.1.2.1, .int v0'.2.1.2.2.1, .int v0'.2.1.2.2.2.1, .int v0'.2.1.2.2.2.2])), (a7, .inl (ca 1, 17, .inr (.inl v0'.2.1.1))), (a8, .inr (8, [.int v0'.2.2.1.1, .int v0'.2.2.1.2.1, .int v0'.2.2.1.2.2])), (a9, .inr (1, [.int v0'.2.2.2.1.1, .int v0'.2.2.2.1.2.1, .int v0'.2.2.2.1.2.2.1, .int v0'.2.2.2.1.2.2.2.1, .int v0'.2.2.2.1.2.2.2.2.1, .int v0'.2.2.2.1.2.2.2.2.2])), (a10, .inr (3, [.ref a11, .int v0'.2.2.2.2.1.2.1, .int v0'.2.2.2.2.1.2.2.1, .int v0'.2.2.2.2.1.2.2.2.1, .int v0'.2.2.2.2.1.2.2.2.2.1, .int v0'.2.2.2.2.1.2.2.2.2.2.1, .int v0'.2.2.2.2.1.2.2.2.2.2.2])), (a11, .inr (4, [.ref a12, .int v0'.2.2.2.2.1.1.2.1, .int v0'.2.2.2.2.1.1.2.2])), (a13, .inr (4, [.ref a14, .int v0'.2.2.2.2.2.1.2.1, .int v0'.2.2.2.2.2.1.2.2])), (a15, .inr (6, [.ref a16, .ref a17, .int v0'.2.2.2.2.2.2.1.2.2])), (a18, .inr (9, [.ref a19, .int v0'.2.2.2.2.2.2.2.1.2.1, .int v0'.2.2.2.2.2.2.2.1.2.2.1, .int v0'.2.2.2.2.2.2.2.1.2.2.2]))] A) (by decide) rfl (Nat.le_of_ble_eq_true rfl) ?_
  intro p e s m args below meth c A Q ls hx hb hr hml hown hts hlocks hnm hA hN hZ hK hQ hP hD hS hl
  have w0 := hts _ (List.mem_cons_of_mem _ gw_2_73)
  have w1 := hts _ (List.mem_cons_of_mem _ gw_2_71)
  have w2 := hts _ (List.mem_cons_of_mem _ gw_2_75)
  have w3 := hts _ (List.mem_cons_of_mem _ gw_2_76)
  have w4 := hts _ (List.mem_cons_of_mem _ gw_2_77)
  have w5 := hts _ (List.mem_cons_of_mem _ gw_2_79)
  have w6 := hts _ (List.mem_cons_of_mem _ gw_2_81)
  have w7 := hts _ (List.mem_cons_of_mem _ gw_2_83)
  have w8 := hts _ (List.mem_cons_of_mem _ gw_2_85)
  have w9 := hts _ (List.mem_cons_of_mem _ gw_2_87)
  have w10 := hts _ (List.mem_cons_of_mem _ gw_2_88)
  have w11 := hts _ (List.mem_cons_of_mem _ gw_2_89)
  have w12 := hts _ (List.mem_cons_of_mem _ gw_2_91)
  have w13 := hts _ (List.mem_cons_of_mem _ gw_2_92)
  have i10 : ∀ w ∈ u_ws RX10 TX10 14, w ∈ wq_X10_begin := fun w h => List.mem_cons_of_mem _ (inX10 w h)
  unfold f_X10_begin at hf
  refine lv_aload_n hx hb dX10_begin_0 rfl (lv_at hl 0 rfl) ?_
  refine va_get (C := RX10) (T := TX10) (N := 14) hx hb hts i10 hown hK hP 0 rfl rfl 1 (Nat.le_of_ble_eq_true rfl) w0 (fun _ h9 => h9) rfl dX10_begin_1 ?_
  refine lv_aload_n hx hb dX10_begin_4 rfl (lv_at hl 0 rfl) ?_
  refine va_get (C := RX10) (T := TX10) (N := 14) hx hb hts i10 hown hK hP 0 rfl rfl 0 (Nat.le_of_ble_eq_true rfl) w1 (fun _ h9 => h9) rfl dX10_begin_5 ?_
  refine lv_iconst (v := 0) hx hb dX10_begin_8 rfl ?_
  obtain ⟨r_1, hc1, hf⟩ := bnd1_el hf
  refine xV_I (As := [.int (0 : Int32)]) (wx := [(a0, .inr (10, [.ref a1, .ref a6, .ref a8, .ref a9, .ref a10, .ref a13, .ref a15, .ref a18, .int v0.2.2.2.2.2.2.2.2.1, .int v0.2.2.2.2.2.2.2.2.2.1, .int v0.2.2.2.2.2.2.2.2.2.2.1, .int v0.2.2.2.2.2.2.2.2.2.2.2.1, .int v0.2.2.2.2.2.2.2.2.2.2.2.2.1, .int v0.2.2.2.2.2.2.2.2.2.2.2.2.2])), (a1, .inr (7, [.ref a2, .ref a3, .ref a4, .ref a5, .int v0.1.2.2.2.2])), (a2, .inl (ca 0, 9, .inl v0.1.1)), (a6, .inr (2, [.ref a7, .int v0.2.1.2.1, .int v0.2.1.2.2.1, .int v0.2.1.2.2.2.1, .int v0.2.1.2.2.2.2])), (a7, .inl (ca 1, 17, .inr (.inl v0.2.1.1))), (a8, .inr (8, [.int v0.2.2.1.1, .int v0.2.2.1.2.1, .int v0.2.2.1.2.2])), (a9, .inr (1, [.int v0.2.2.2.1.1, .int v0.2.2.2.1.2.1, .int v0.2.2.2.1.2.2.1, .int v0.2.2.2.1.2.2.2.1, .int v0.2.2.2.1.2.2.2.2.1, .int v0.2.2.2.1.2.2.2.2.2])), (a10, .inr (3, [.ref a11, .int v0.2.2.2.2.1.2.1, .int v0.2.2.2.2.1.2.2.1, .int v0.2.2.2.2.1.2.2.2.1, .int v0.2.2.2.2.1.2.2.2.2.1, .int v0.2.2.2.2.1.2.2.2.2.2.1, .int v0.2.2.2.2.1.2.2.2.2.2.2])), (a11, .inr (4, [.ref a12, .int v0.2.2.2.2.1.1.2.1, .int v0.2.2.2.2.1.1.2.2])), (a13, .inr (4, [.ref a14, .int v0.2.2.2.2.2.1.2.1, .int v0.2.2.2.2.2.1.2.2])), (a15, .inr (6, [.ref a16, .ref a17, .int v0.2.2.2.2.2.2.1.2.2])), (a18, .inr (9, [.ref a19, .int v0.2.2.2.2.2.2.2.1.2.1, .int v0.2.2.2.2.2.2.2.1.2.2.1, .int v0.2.2.2.2.2.2.2.1.2.2.2]))]) ⟨hx, hb, hml, hown, hts⟩ (c_X7_valueOf l D ca zz a1 a2 a3 a4 a5 _ v0.1 (0 : Int32) r_1 hc1) (cwV 1 hts (gV gw_2_14 gw_2_15 gw_2_16 gw_1_3 gw_2_17) rfl rfl rfl (by decide +kernel) ⟨(Nat.le_of_ble_eq_true rfl), (Nat.le_of_ble_eq_true rfl)⟩) hK hN hZ hA hP hD hS [1, 2] rfl rfl rfl rfl 1 rfl rfl hl.1 rfl (Nat.le_of_ble_eq_true rfl) dX10_begin_9 ⟨Nat.zero_le _, Nat.zero_le _⟩ rfl (fun H locs hP hD hS => ?_)
  refine lv_aload_n hx hb dX10_begin_12 rfl (lv_at hl 0 rfl) ?_
  refine va_get (C := RX10) (T := TX10) (N := 14) hx hb hts i10 hown hK hP 0 rfl rfl 0 (Nat.le_of_ble_eq_true rfl) w1 (fun _ h9 => h9) rfl dX10_begin_13 ?_
  refine lv_iconst (v := 1) hx hb dX10_begin_16 rfl ?_
  obtain ⟨r_2, hc2, hf⟩ := bnd1_el hf
  refine xV_I (As := [.int (1 : Int32)]) (wx := [(a0, .inr (10, [.ref a1, .ref a6, .ref a8, .ref a9, .ref a10, .ref a13, .ref a15, .ref a18, .int v0.2.2.2.2.2.2.2.2.1, .int v0.2.2.2.2.2.2.2.2.2.1, .int v0.2.2.2.2.2.2.2.2.2.2.1, .int v0.2.2.2.2.2.2.2.2.2.2.2.1, .int v0.2.2.2.2.2.2.2.2.2.2.2.2.1, .int v0.2.2.2.2.2.2.2.2.2.2.2.2.2])), (a1, .inr (7, [.ref a2, .ref a3, .ref a4, .ref a5, .int v0.1.2.2.2.2])), (a2, .inl (ca 0, 9, .inl v0.1.1)), (a6, .inr (2, [.ref a7, .int v0.2.1.2.1, .int v0.2.1.2.2.1, .int v0.2.1.2.2.2.1, .int v0.2.1.2.2.2.2])), (a7, .inl (ca 1, 17, .inr (.inl v0.2.1.1))), (a8, .inr (8, [.int v0.2.2.1.1, .int v0.2.2.1.2.1, .int v0.2.2.1.2.2])), (a9, .inr (1, [.int v0.2.2.2.1.1, .int v0.2.2.2.1.2.1, .int v0.2.2.2.1.2.2.1, .int v0.2.2.2.1.2.2.2.1, .int v0.2.2.2.1.2.2.2.2.1, .int v0.2.2.2.1.2.2.2.2.2])), (a10, .inr (3, [.ref a11, .int v0.2.2.2.2.1.2.1, .int v0.2.2.2.2.1.2.2.1, .int v0.2.2.2.2.1.2.2.2.1, .int v0.2.2.2.2.1.2.2.2.2.1, .int v0.2.2.2.2.1.2.2.2.2.2.1, .int v0.2.2.2.2.1.2.2.2.2.2.2])), (a11, .inr (4, [.ref a12, .int v0.2.2.2.2.1.1.2.1, .int v0.2.2.2.2.1.1.2.2])), (a13, .inr (4, [.ref a14, .int v0.2.2.2.2.2.1.2.1, .int v0.2.2.2.2.2.1.2.2])), (a15, .inr (6, [.ref a16, .ref a17, .int v0.2.2.2.2.2.2.1.2.2])), (a18, .inr (9, [.ref a19, .int v0.2.2.2.2.2.2.2.1.2.1, .int v0.2.2.2.2.2.2.2.1.2.2.1, .int v0.2.2.2.2.2.2.2.1.2.2.2]))]) ⟨hx, hb, hml, hown, hts⟩ (c_X7_valueOf l D ca zz a1 a2 a3 a4 a5 _ v0.1 (1 : Int32) r_2 hc2) (cwV 1 hts (gV gw_2_14 gw_2_15 gw_2_16 gw_1_3 gw_2_17) rfl rfl rfl (by decide +kernel) ⟨(Nat.le_of_ble_eq_true rfl), (Nat.le_of_ble_eq_true rfl)⟩) hK hN hZ hA hP hD hS [1, 2] rfl rfl rfl rfl 1 rfl rfl hl.1 rfl (Nat.le_of_ble_eq_true rfl) dX10_begin_17 ⟨Nat.zero_le _, Nat.zero_le _⟩ rfl (fun H locs hP hD hS => ?_)
  refine lv_aload_n hx hb dX10_begin_20 rfl (lv_at hl 0 rfl) ?_
  refine va_get (C := RX10) (T := TX10) (N := 14) hx hb hts i10 hown hK hP 0 rfl rfl 0 (Nat.le_of_ble_eq_true rfl) w1 (fun _ h9 => h9) rfl dX10_begin_21 ?_
  refine lv_iconst (v := 2) hx hb dX10_begin_24 rfl ?_
  obtain ⟨r_3, hc3, hf⟩ := bnd1_el hf
  refine xV_I (As := [.int (2 : Int32)]) (wx := [(a0, .inr (10, [.ref a1, .ref a6, .ref a8, .ref a9, .ref a10, .ref a13, .ref a15, .ref a18, .int v0.2.2.2.2.2.2.2.2.1, .int v0.2.2.2.2.2.2.2.2.2.1, .int v0.2.2.2.2.2.2.2.2.2.2.1, .int v0.2.2.2.2.2.2.2.2.2.2.2.1, .int v0.2.2.2.2.2.2.2.2.2.2.2.2.1, .int v0.2.2.2.2.2.2.2.2.2.2.2.2.2])), (a1, .inr (7, [.ref a2, .ref a3, .ref a4, .ref a5, .int v0.1.2.2.2.2])), (a2, .inl (ca 0, 9, .inl v0.1.1)), (a6, .inr (2, [.ref a7, .int v0.2.1.2.1, .int v0.2.1.2.2.1, .int v0.2.1.2.2.2.1, .int v0.2.1.2.2.2.2])), (a7, .inl (ca 1, 17, .inr (.inl v0.2.1.1))), (a8, .inr (8, [.int v0.2.2.1.1, .int v0.2.2.1.2.1, .int v0.2.2.1.2.2])), (a9, .inr (1, [.int v0.2.2.2.1.1, .int v0.2.2.2.1.2.1, .int v0.2.2.2.1.2.2.1, .int v0.2.2.2.1.2.2.2.1, .int v0.2.2.2.1.2.2.2.2.1, .int v0.2.2.2.1.2.2.2.2.2])), (a10, .inr (3, [.ref a11, .int v0.2.2.2.2.1.2.1, .int v0.2.2.2.2.1.2.2.1, .int v0.2.2.2.2.1.2.2.2.1, .int v0.2.2.2.2.1.2.2.2.2.1, .int v0.2.2.2.2.1.2.2.2.2.2.1, .int v0.2.2.2.2.1.2.2.2.2.2.2])), (a11, .inr (4, [.ref a12, .int v0.2.2.2.2.1.1.2.1, .int v0.2.2.2.2.1.1.2.2])), (a13, .inr (4, [.ref a14, .int v0.2.2.2.2.2.1.2.1, .int v0.2.2.2.2.2.1.2.2])), (a15, .inr (6, [.ref a16, .ref a17, .int v0.2.2.2.2.2.2.1.2.2])), (a18, .inr (9, [.ref a19, .int v0.2.2.2.2.2.2.2.1.2.1, .int v0.2.2.2.2.2.2.2.1.2.2.1, .int v0.2.2.2.2.2.2.2.1.2.2.2]))]) ⟨hx, hb, hml, hown, hts⟩ (c_X7_valueOf l D ca zz a1 a2 a3 a4 a5 _ v0.1 (2 : Int32) r_3 hc3) (cwV 1 hts (gV gw_2_14 gw_2_15 gw_2_16 gw_1_3 gw_2_17) rfl rfl rfl (by decide +kernel) ⟨(Nat.le_of_ble_eq_true rfl), (Nat.le_of_ble_eq_true rfl)⟩) hK hN hZ hA hP hD hS [1, 2] rfl rfl rfl rfl 1 rfl rfl hl.1 rfl (Nat.le_of_ble_eq_true rfl) dX10_begin_25 ⟨Nat.zero_le _, Nat.zero_le _⟩ rfl (fun H locs hP hD hS => ?_)
  obtain ⟨u_4, hc4, hf⟩ := bnd1_el hf
  refine xV_V (As := [.int r_1, .int r_2, .int r_3]) (wx := [(a0, .inr (10, [.ref a1, .ref a6, .ref a8, .ref a9, .ref a10, .ref a13, .ref a15, .ref a18, .int v0.2.2.2.2.2.2.2.2.1, .int v0.2.2.2.2.2.2.2.2.2.1, .int v0.2.2.2.2.2.2.2.2.2.2.1, .int v0.2.2.2.2.2.2.2.2.2.2.2.1, .int v0.2.2.2.2.2.2.2.2.2.2.2.2.1, .int v0.2.2.2.2.2.2.2.2.2.2.2.2.2])), (a1, .inr (7, [.ref a2, .ref a3, .ref a4, .ref a5, .int v0.1.2.2.2.2])), (a2, .inl (ca 0, 9, .inl v0.1.1)), (a6, .inr (2, [.ref a7, .int u_4.2.1, .int u_4.2.2.1, .int u_4.2.2.2.1, .int u_4.2.2.2.2])), (a7, .inl (ca 1, 17, .inr (.inl u_4.1))), (a8, .inr (8, [.int v0.2.2.1.1, .int v0.2.2.1.2.1, .int v0.2.2.1.2.2])), (a9, .inr (1, [.int v0.2.2.2.1.1, .int v0.2.2.2.1.2.1, .int v0.2.2.2.1.2.2.1, .int v0.2.2.2.1.2.2.2.1, .int v0.2.2.2.1.2.2.2.2.1, .int v0.2.2.2.1.2.2.2.2.2])), (a10, .inr (3, [.ref a11, .int v0.2.2.2.2.1.2.1, .int v0.2.2.2.2.1.2.2.1, .int v0.2.2.2.2.1.2.2.2.1, .int v0.2.2.2.2.1.2.2.2.2.1, .int v0.2.2.2.2.1.2.2.2.2.2.1, .int v0.2.2.2.2.1.2.2.2.2.2.2])), (a11, .inr (4, [.ref a12, .int v0.2.2.2.2.1.1.2.1, .int v0.2.2.2.2.1.1.2.2])), (a13, .inr (4, [.ref a14, .int v0.2.2.2.2.2.1.2.1, .int v0.2.2.2.2.2.1.2.2])), (a15, .inr (6, [.ref a16, .ref a17, .int v0.2.2.2.2.2.2.1.2.2])), (a18, .inr (9, [.ref a19, .int v0.2.2.2.2.2.2.2.1.2.1, .int v0.2.2.2.2.2.2.2.1.2.2.1, .int v0.2.2.2.2.2.2.2.1.2.2.2]))]) ⟨hx, hb, hml, hown, hts⟩ (c_X2_setLimits l D ca zz a6 a7 _ v0.2.1 r_1 r_2 r_3 u_4 hc4) (cwV 3 hts (gV gw_2_18 gw_2_19 gw_2_20 gw_1_4 gw_2_21) rfl rfl rfl (by decide +kernel) ⟨(Nat.le_of_ble_eq_true rfl), (Nat.le_of_ble_eq_true rfl)⟩) hK hN hZ hA hP hD hS [3, 4] rfl rfl rfl rfl 3 rfl rfl hl.1 rfl (Nat.le_of_ble_eq_true rfl) dX10_begin_28 ⟨Nat.zero_le _, Nat.zero_le _⟩ rfl (fun H locs hP hD hS => ?_)
  refine lv_aload_n hx hb dX10_begin_31 rfl (lv_at hl 0 rfl) ?_
  refine va_get (C := RX10) (T := TX10) (N := 14) hx hb hts i10 hown hK hP 0 rfl rfl 2 (Nat.le_of_ble_eq_true rfl) w2 (fun _ h9 => h9) rfl dX10_begin_32 ?_
  refine lv_aload_n hx hb dX10_begin_35 rfl (lv_at hl 0 rfl) ?_
  refine va_get (C := RX10) (T := TX10) (N := 14) hx hb hts i10 hown hK hP 0 rfl rfl 0 (Nat.le_of_ble_eq_true rfl) w1 (fun _ h9 => h9) rfl dX10_begin_36 ?_
  refine lv_bipush (v := 8) hx hb dX10_begin_39 rfl ?_
  obtain ⟨r_5, hc5, hf⟩ := bnd1_el hf
  refine xV_I (As := [.int (8 : Int32)]) (wx := [(a0, .inr (10, [.ref a1, .ref a6, .ref a8, .ref a9, .ref a10, .ref a13, .ref a15, .ref a18, .int v0.2.2.2.2.2.2.2.2.1, .int v0.2.2.2.2.2.2.2.2.2.1, .int v0.2.2.2.2.2.2.2.2.2.2.1, .int v0.2.2.2.2.2.2.2.2.2.2.2.1, .int v0.2.2.2.2.2.2.2.2.2.2.2.2.1, .int v0.2.2.2.2.2.2.2.2.2.2.2.2.2])), (a1, .inr (7, [.ref a2, .ref a3, .ref a4, .ref a5, .int v0.1.2.2.2.2])), (a2, .inl (ca 0, 9, .inl v0.1.1)), (a6, .inr (2, [.ref a7, .int u_4.2.1, .int u_4.2.2.1, .int u_4.2.2.2.1, .int u_4.2.2.2.2])), (a7, .inl (ca 1, 17, .inr (.inl u_4.1))), (a8, .inr (8, [.int v0.2.2.1.1, .int v0.2.2.1.2.1, .int v0.2.2.1.2.2])), (a9, .inr (1, [.int v0.2.2.2.1.1, .int v0.2.2.2.1.2.1, .int v0.2.2.2.1.2.2.1, .int v0.2.2.2.1.2.2.2.1, .int v0.2.2.2.1.2.2.2.2.1, .int v0.2.2.2.1.2.2.2.2.2])), (a10, .inr (3, [.ref a11, .int v0.2.2.2.2.1.2.1, .int v0.2.2.2.2.1.2.2.1, .int v0.2.2.2.2.1.2.2.2.1, .int v0.2.2.2.2.1.2.2.2.2.1, .int v0.2.2.2.2.1.2.2.2.2.2.1, .int v0.2.2.2.2.1.2.2.2.2.2.2])), (a11, .inr (4, [.ref a12, .int v0.2.2.2.2.1.1.2.1, .int v0.2.2.2.2.1.1.2.2])), (a13, .inr (4, [.ref a14, .int v0.2.2.2.2.2.1.2.1, .int v0.2.2.2.2.2.1.2.2])), (a15, .inr (6, [.ref a16, .ref a17, .int v0.2.2.2.2.2.2.1.2.2])), (a18, .inr (9, [.ref a19, .int v0.2.2.2.2.2.2.2.1.2.1, .int v0.2.2.2.2.2.2.2.1.2.2.1, .int v0.2.2.2.2.2.2.2.1.2.2.2]))]) ⟨hx, hb, hml, hown, hts⟩ (c_X7_valueOf l D ca zz a1 a2 a3 a4 a5 _ v0.1 (8 : Int32) r_5 hc5) (cwV 1 hts (gV gw_2_14 gw_2_15 gw_2_16 gw_1_3 gw_2_17) rfl rfl rfl (by decide +kernel) ⟨(Nat.le_of_ble_eq_true rfl), (Nat.le_of_ble_eq_true rfl)⟩) hK hN hZ hA hP hD hS [1, 2] rfl rfl rfl rfl 1 rfl rfl hl.1 rfl (Nat.le_of_ble_eq_true rfl) dX10_begin_41 ⟨Nat.zero_le _, Nat.zero_le _⟩ rfl (fun H locs hP hD hS => ?_)
  obtain ⟨u_6, hc6, hf⟩ := bnd1_el hf
  refine xV_V (As := [.int r_5]) (wx := [(a0, .inr (10, [.ref a1, .ref a6, .ref a8, .ref a9, .ref a10, .ref a13, .ref a15, .ref a18, .int v0.2.2.2.2.2.2.2.2.1, .int v0.2.2.2.2.2.2.2.2.2.1, .int v0.2.2.2.2.2.2.2.2.2.2.1, .int v0.2.2.2.2.2.2.2.2.2.2.2.1, .int v0.2.2.2.2.2.2.2.2.2.2.2.2.1, .int v0.2.2.2.2.2.2.2.2.2.2.2.2.2])), (a1, .inr (7, [.ref a2, .ref a3, .ref a4, .ref a5, .int v0.1.2.2.2.2])), (a2, .inl (ca 0, 9, .inl v0.1.1)), (a6, .inr (2, [.ref a7, .int u_4.2.1, .int u_4.2.2.1, .int u_4.2.2.2.1, .int u_4.2.2.2.2])), (a7, .inl (ca 1, 17, .inr (.inl u_4.1))), (a8, .inr (8, [.int u_6.1, .int u_6.2.1, .int u_6.2.2])), (a9, .inr (1, [.int v0.2.2.2.1.1, .int v0.2.2.2.1.2.1, .int v0.2.2.2.1.2.2.1, .int v0.2.2.2.1.2.2.2.1, .int v0.2.2.2.1.2.2.2.2.1, .int v0.2.2.2.1.2.2.2.2.2])), (a10, .inr (3, [.ref a11, .int v0.2.2.2.2.1.2.1, .int v0.2.2.2.2.1.2.2.1, .int v0.2.2.2.2.1.2.2.2.1, .int v0.2.2.2.2.1.2.2.2.2.1, .int v0.2.2.2.2.1.2.2.2.2.2.1, .int v0.2.2.2.2.1.2.2.2.2.2.2])), (a11, .inr (4, [.ref a12, .int v0.2.2.2.2.1.1.2.1, .int v0.2.2.2.2.1.1.2.2])), (a13, .inr (4, [.ref a14, .int v0.2.2.2.2.2.1.2.1, .int v0.2.2.2.2.2.1.2.2])), (a15, .inr (6, [.ref a16, .ref a17, .int v0.2.2.2.2.2.2.1.2.2])), (a18, .inr (9, [.ref a19, .int v0.2.2.2.2.2.2.2.1.2.1, .int v0.2.2.2.2.2.2.2.1.2.2.1, .int v0.2.2.2.2.2.2.2.1.2.2.2]))]) ⟨hx, hb, hml, hown, hts⟩ (c_X8_begin l D ca zz a8 _ v0.2.2.1 r_5 u_6 hc6) (cwV 1 hts (gV gw_2_42 gw_2_43 gw_2_44 gw_1_5 gw_2_45) rfl rfl rfl (by decide +kernel) ⟨(Nat.le_of_ble_eq_true rfl), (Nat.le_of_ble_eq_true rfl)⟩) hK hN hZ hA hP hD hS [5] rfl rfl rfl rfl 5 rfl rfl hl.1 rfl (Nat.le_of_ble_eq_true rfl) dX10_begin_44 ⟨Nat.zero_le _, Nat.zero_le _⟩ rfl (fun H locs hP hD hS => ?_)
  refine lv_aload_n hx hb dX10_begin_47 rfl (lv_at hl 0 rfl) ?_
  refine va_get (C := RX10) (T := TX10) (N := 14) hx hb hts i10 hown hK hP 0 rfl rfl 3 (Nat.le_of_ble_eq_true rfl) w3 (fun _ h9 => h9) rfl dX10_begin_48 ?_
  obtain ⟨u_7, hc7, hf⟩ := bnd1_el hf
  refine xV_V (As := []) (wx := [(a0, .inr (10, [.ref a1, .ref a6, .ref a8, .ref a9, .ref a10, .ref a13, .ref a15, .ref a18, .int v0.2.2.2.2.2.2.2.2.1, .int v0.2.2.2.2.2.2.2.2.2.1, .int v0.2.2.2.2.2.2.2.2.2.2.1, .int v0.2.2.2.2.2.2.2.2.2.2.2.1, .int v0.2.2.2.2.2.2.2.2.2.2.2.2.1, .int v0.2.2.2.2.2.2.2.2.2.2.2.2.2])), (a1, .inr (7, [.ref a2, .ref a3, .ref a4, .ref a5, .int v0.1.2.2.2.2])), (a2, .inl (ca 0, 9, .inl v0.1.1)), (a6, .inr (2, [.ref a7, .int u_4.2.1, .int u_4.2.2.1, .int u_4.2.2.2.1, .int u_4.2.2.2.2])), (a7, .inl (ca 1, 17, .inr (.inl u_4.1))), (a8, .inr (8, [.int u_6.1, .int u_6.2.1, .int u_6.2.2])), (a9, .inr (1, [.int u_7.1, .int u_7.2.1, .int u_7.2.2.1, .int u_7.2.2.2.1, .int u_7.2.2.2.2.1, .int u_7.2.2.2.2.2])), (a10, .inr (3, [.ref a11, .int v0.2.2.2.2.1.2.1, .int v0.2.2.2.2.1.2.2.1, .int v0.2.2.2.2.1.2.2.2.1, .int v0.2.2.2.2.1.2.2.2.2.1, .int v0.2.2.2.2.1.2.2.2.2.2.1, .int v0.2.2.2.2.1.2.2.2.2.2.2])), (a11, .inr (4, [.ref a12, .int v0.2.2.2.2.1.1.2.1, .int v0.2.2.2.2.1.1.2.2])), (a13, .inr (4, [.ref a14, .int v0.2.2.2.2.2.1.2.1, .int v0.2.2.2.2.2.1.2.2])), (a15, .inr (6, [.ref a16, .ref a17, .int v0.2.2.2.2.2.2.1.2.2])), (a18, .inr (9, [.ref a19, .int v0.2.2.2.2.2.2.2.1.2.1, .int v0.2.2.2.2.2.2.2.1.2.2.1, .int v0.2.2.2.2.2.2.2.1.2.2.2]))]) ⟨hx, hb, hml, hown, hts⟩ (c_X1_clear l D ca zz a9 _ v0.2.2.2.1 u_7 hc7) (cwV 0 hts (gV gw_2_46 gw_2_47 gw_2_48 gw_1_6 gw_2_49) rfl rfl rfl (by decide +kernel) ⟨(Nat.le_of_ble_eq_true rfl), (Nat.le_of_ble_eq_true rfl)⟩) hK hN hZ hA hP hD hS [6] rfl rfl rfl rfl 6 rfl rfl hl.1 rfl (Nat.le_of_ble_eq_true rfl) dX10_begin_51 ⟨Nat.zero_le _, Nat.zero_le _⟩ rfl (fun H locs hP hD hS => ?_)
  refine lv_aload_n hx hb dX10_begin_54 rfl (lv_at hl 0 rfl) ?_
  refine va_get (C := RX10) (T := TX10) (N := 14) hx hb hts i10 hown hK hP 0 rfl rfl 4 (Nat.le_of_ble_eq_true rfl) w4 (fun _ h9 => h9) rfl dX10_begin_55 ?_
  obtain ⟨u_8, hc8, hf⟩ := bnd1_el hf
  refine xV_V (As := []) (wx := [(a0, .inr (10, [.ref a1, .ref a6, .ref a8, .ref a9, .ref a10, .ref a13, .ref a15, .ref a18, .int v0.2.2.2.2.2.2.2.2.1, .int v0.2.2.2.2.2.2.2.2.2.1, .int v0.2.2.2.2.2.2.2.2.2.2.1, .int v0.2.2.2.2.2.2.2.2.2.2.2.1, .int v0.2.2.2.2.2.2.2.2.2.2.2.2.1, .int v0.2.2.2.2.2.2.2.2.2.2.2.2.2])), (a1, .inr (7, [.ref a2, .ref a3, .ref a4, .ref a5, .int v0.1.2.2.2.2])), (a2, .inl (ca 0, 9, .inl v0.1.1)), (a6, .inr (2, [.ref a7, .int u_4.2.1, .int u_4.2.2.1, .int u_4.2.2.2.1, .int u_4.2.2.2.2])), (a7, .inl (ca 1, 17, .inr (.inl u_4.1))), (a8, .inr (8, [.int u_6.1, .int u_6.2.1, .int u_6.2.2])), (a9, .inr (1, [.int u_7.1, .int u_7.2.1, .int u_7.2.2.1, .int u_7.2.2.2.1, .int u_7.2.2.2.2.1, .int u_7.2.2.2.2.2])), (a10, .inr (3, [.ref a11, .int u_8.2.1, .int u_8.2.2.1, .int u_8.2.2.2.1, .int u_8.2.2.2.2.1, .int u_8.2.2.2.2.2.1, .int u_8.2.2.2.2.2.2])), (a11, .inr (4, [.ref a12, .int u_8.1.2.1, .int u_8.1.2.2])), (a13, .inr (4, [.ref a14, .int v0.2.2.2.2.2.1.2.1, .int v0.2.2.2.2.2.1.2.2])), (a15, .inr (6, [.ref a16, .ref a17, .int v0.2.2.2.2.2.2.1.2.2])), (a18, .inr (9, [.ref a19, .int v0.2.2.2.2.2.2.2.1.2.1, .int v0.2.2.2.2.2.2.2.1.2.2.1, .int v0.2.2.2.2.2.2.2.1.2.2.2]))]) ⟨hx, hb, hml, hown, hts⟩ (c_X3_begin l D ca zz a10 a11 a12 _ v0.2.2.2.2.1 u_8 hc8) (cwV 0 hts (gV gw_2_50 gw_2_51 gw_2_52 gw_1_7 gw_2_53) rfl rfl rfl (by decide +kernel) ⟨(Nat.le_of_ble_eq_true rfl), (Nat.le_of_ble_eq_true rfl)⟩) hK hN hZ hA hP hD hS [7, 8] rfl rfl rfl rfl 7 rfl rfl hl.1 rfl (Nat.le_of_ble_eq_true rfl) dX10_begin_58 ⟨Nat.zero_le _, Nat.zero_le _⟩ rfl (fun H locs hP hD hS => ?_)
  refine lv_aload_n hx hb dX10_begin_61 rfl (lv_at hl 0 rfl) ?_
  refine va_get (C := RX10) (T := TX10) (N := 14) hx hb hts i10 hown hK hP 0 rfl rfl 5 (Nat.le_of_ble_eq_true rfl) w5 (fun _ h9 => h9) rfl dX10_begin_62 ?_
  obtain ⟨u_9, hc9, hf⟩ := bnd1_el hf
  refine xV_V (As := []) (wx := [(a0, .inr (10, [.ref a1, .ref a6, .ref a8, .ref a9, .ref a10, .ref a13, .ref a15, .ref a18, .int v0.2.2.2.2.2.2.2.2.1, .int v0.2.2.2.2.2.2.2.2.2.1, .int v0.2.2.2.2.2.2.2.2.2.2.1, .int v0.2.2.2.2.2.2.2.2.2.2.2.1, .int v0.2.2.2.2.2.2.2.2.2.2.2.2.1, .int v0.2.2.2.2.2.2.2.2.2.2.2.2.2])), (a1, .inr (7, [.ref a2, .ref a3, .ref a4, .ref a5, .int v0.1.2.2.2.2])), (a2, .inl (ca 0, 9, .inl v0.1.1)), (a6, .inr (2, [.ref a7, .int u_4.2.1, .int u_4.2.2.1, .int u_4.2.2.2.1, .int u_4.2.2.2.2])), (a7, .inl (ca 1, 17, .inr (.inl u_4.1))), (a8, .inr (8, [.int u_6.1, .int u_6.2.1, .int u_6.2.2])), (a9, .inr (1, [.int u_7.1, .int u_7.2.1, .int u_7.2.2.1, .int u_7.2.2.2.1, .int u_7.2.2.2.2.1, .int u_7.2.2.2.2.2])), (a10, .inr (3, [.ref a11, .int u_8.2.1, .int u_8.2.2.1, .int u_8.2.2.2.1, .int u_8.2.2.2.2.1, .int u_8.2.2.2.2.2.1, .int u_8.2.2.2.2.2.2])), (a11, .inr (4, [.ref a12, .int u_8.1.2.1, .int u_8.1.2.2])), (a13, .inr (4, [.ref a14, .int u_9.2.1, .int u_9.2.2])), (a15, .inr (6, [.ref a16, .ref a17, .int v0.2.2.2.2.2.2.1.2.2])), (a18, .inr (9, [.ref a19, .int v0.2.2.2.2.2.2.2.1.2.1, .int v0.2.2.2.2.2.2.2.1.2.2.1, .int v0.2.2.2.2.2.2.2.1.2.2.2]))]) ⟨hx, hb, hml, hown, hts⟩ (c_X4_clear l D ca zz a13 a14 _ v0.2.2.2.2.2.1 u_9 hc9) (cwV 0 hts (gV gw_2_58 gw_2_55 gw_2_56 gw_1_8 gw_2_57) rfl rfl rfl (by decide +kernel) ⟨(Nat.le_of_ble_eq_true rfl), (Nat.le_of_ble_eq_true rfl)⟩) hK hN hZ hA hP hD hS [9] rfl rfl rfl rfl 9 rfl rfl hl.1 rfl (Nat.le_of_ble_eq_true rfl) dX10_begin_65 ⟨Nat.zero_le _, Nat.zero_le _⟩ rfl (fun H locs hP hD hS => ?_)
  refine lv_aload_n hx hb dX10_begin_68 rfl (lv_at hl 0 rfl) ?_
  refine va_get (C := RX10) (T := TX10) (N := 14) hx hb hts i10 hown hK hP 0 rfl rfl 6 (Nat.le_of_ble_eq_true rfl) w6 (fun _ h9 => h9) rfl dX10_begin_69 ?_
  obtain ⟨u_10, hc10, hf⟩ := bnd1_el hf
  refine xV_V (As := []) (wx := [(a0, .inr (10, [.ref a1, .ref a6, .ref a8, .ref a9, .ref a10, .ref a13, .ref a15, .ref a18, .int v0.2.2.2.2.2.2.2.2.1, .int v0.2.2.2.2.2.2.2.2.2.1, .int v0.2.2.2.2.2.2.2.2.2.2.1, .int v0.2.2.2.2.2.2.2.2.2.2.2.1, .int v0.2.2.2.2.2.2.2.2.2.2.2.2.1, .int v0.2.2.2.2.2.2.2.2.2.2.2.2.2])), (a1, .inr (7, [.ref a2, .ref a3, .ref a4, .ref a5, .int v0.1.2.2.2.2])), (a2, .inl (ca 0, 9, .inl v0.1.1)), (a6, .inr (2, [.ref a7, .int u_4.2.1, .int u_4.2.2.1, .int u_4.2.2.2.1, .int u_4.2.2.2.2])), (a7, .inl (ca 1, 17, .inr (.inl u_4.1))), (a8, .inr (8, [.int u_6.1, .int u_6.2.1, .int u_6.2.2])), (a9, .inr (1, [.int u_7.1, .int u_7.2.1, .int u_7.2.2.1, .int u_7.2.2.2.1, .int u_7.2.2.2.2.1, .int u_7.2.2.2.2.2])), (a10, .inr (3, [.ref a11, .int u_8.2.1, .int u_8.2.2.1, .int u_8.2.2.2.1, .int u_8.2.2.2.2.1, .int u_8.2.2.2.2.2.1, .int u_8.2.2.2.2.2.2])), (a11, .inr (4, [.ref a12, .int u_8.1.2.1, .int u_8.1.2.2])), (a13, .inr (4, [.ref a14, .int u_9.2.1, .int u_9.2.2])), (a15, .inr (6, [.ref a16, .ref a17, .int u_10.2.2])), (a18, .inr (9, [.ref a19, .int v0.2.2.2.2.2.2.2.1.2.1, .int v0.2.2.2.2.2.2.2.1.2.2.1, .int v0.2.2.2.2.2.2.2.1.2.2.2]))]) ⟨hx, hb, hml, hown, hts⟩ (c_X6_clear l D ca zz a15 a16 a17 _ v0.2.2.2.2.2.2.1 u_10 hc10) (cwV 0 hts (gV gw_2_59 gw_2_60 gw_2_61 gw_1_9 gw_2_62) rfl rfl rfl (by decide +kernel) ⟨(Nat.le_of_ble_eq_true rfl), (Nat.le_of_ble_eq_true rfl)⟩) hK hN hZ hA hP hD hS [10] rfl rfl rfl rfl 10 rfl rfl hl.1 rfl (Nat.le_of_ble_eq_true rfl) dX10_begin_72 ⟨Nat.zero_le _, Nat.zero_le _⟩ rfl (fun H locs hP hD hS => ?_)
  refine lv_aload_n hx hb dX10_begin_75 rfl (lv_at hl 0 rfl) ?_
  refine va_get (C := RX10) (T := TX10) (N := 14) hx hb hts i10 hown hK hP 0 rfl rfl 7 (Nat.le_of_ble_eq_true rfl) w7 (fun _ h9 => h9) rfl dX10_begin_76 ?_
  obtain ⟨u_11, hc11, hf⟩ := bnd1_el hf
  refine xV_V (As := []) (wx := [(a0, .inr (10, [.ref a1, .ref a6, .ref a8, .ref a9, .ref a10, .ref a13, .ref a15, .ref a18, .int v0.2.2.2.2.2.2.2.2.1, .int v0.2.2.2.2.2.2.2.2.2.1, .int v0.2.2.2.2.2.2.2.2.2.2.1, .int v0.2.2.2.2.2.2.2.2.2.2.2.1, .int v0.2.2.2.2.2.2.2.2.2.2.2.2.1, .int v0.2.2.2.2.2.2.2.2.2.2.2.2.2])), (a1, .inr (7, [.ref a2, .ref a3, .ref a4, .ref a5, .int v0.1.2.2.2.2])), (a2, .inl (ca 0, 9, .inl v0.1.1)), (a6, .inr (2, [.ref a7, .int u_4.2.1, .int u_4.2.2.1, .int u_4.2.2.2.1, .int u_4.2.2.2.2])), (a7, .inl (ca 1, 17, .inr (.inl u_4.1))), (a8, .inr (8, [.int u_6.1, .int u_6.2.1, .int u_6.2.2])), (a9, .inr (1, [.int u_7.1, .int u_7.2.1, .int u_7.2.2.1, .int u_7.2.2.2.1, .int u_7.2.2.2.2.1, .int u_7.2.2.2.2.2])), (a10, .inr (3, [.ref a11, .int u_8.2.1, .int u_8.2.2.1, .int u_8.2.2.2.1, .int u_8.2.2.2.2.1, .int u_8.2.2.2.2.2.1, .int u_8.2.2.2.2.2.2])), (a11, .inr (4, [.ref a12, .int u_8.1.2.1, .int u_8.1.2.2])), (a13, .inr (4, [.ref a14, .int u_9.2.1, .int u_9.2.2])), (a15, .inr (6, [.ref a16, .ref a17, .int u_10.2.2])), (a18, .inr (9, [.ref a19, .int u_11.2.1, .int u_11.2.2.1, .int u_11.2.2.2]))]) ⟨hx, hb, hml, hown, hts⟩ (c_X9_begin l D ca zz a18 a19 _ v0.2.2.2.2.2.2.2.1 u_11 hc11) (cwV 0 hts (gV gw_2_63 gw_2_64 gw_2_65 gw_1_10 gw_2_66) rfl rfl rfl (by decide +kernel) ⟨(Nat.le_of_ble_eq_true rfl), (Nat.le_of_ble_eq_true rfl)⟩) hK hN hZ hA hP hD hS [11] rfl rfl rfl rfl 11 rfl rfl hl.1 rfl (Nat.le_of_ble_eq_true rfl) dX10_begin_79 ⟨Nat.zero_le _, Nat.zero_le _⟩ rfl (fun H locs hP hD hS => ?_)
  refine lv_aload_n hx hb dX10_begin_82 rfl (lv_at hl 0 rfl) ?_
  refine lv_iconst (v := 0) hx hb dX10_begin_83 rfl ?_
  refine xput (C := RX10) (T := TX10) (N := 14) (wx := [(a0, .inr (10, [.ref a1, .ref a6, .ref a8, .ref a9, .ref a10, .ref a13, .ref a15, .ref a18, .int (0 : Int32), .int v0.2.2.2.2.2.2.2.2.2.1, .int v0.2.2.2.2.2.2.2.2.2.2.1, .int v0.2.2.2.2.2.2.2.2.2.2.2.1, .int v0.2.2.2.2.2.2.2.2.2.2.2.2.1, .int v0.2.2.2.2.2.2.2.2.2.2.2.2.2])), (a1, .inr (7, [.ref a2, .ref a3, .ref a4, .ref a5, .int v0.1.2.2.2.2])), (a2, .inl (ca 0, 9, .inl v0.1.1)), (a6, .inr (2, [.ref a7, .int u_4.2.1, .int u_4.2.2.1, .int u_4.2.2.2.1, .int u_4.2.2.2.2])), (a7, .inl (ca 1, 17, .inr (.inl u_4.1))), (a8, .inr (8, [.int u_6.1, .int u_6.2.1, .int u_6.2.2])), (a9, .inr (1, [.int u_7.1, .int u_7.2.1, .int u_7.2.2.1, .int u_7.2.2.2.1, .int u_7.2.2.2.2.1, .int u_7.2.2.2.2.2])), (a10, .inr (3, [.ref a11, .int u_8.2.1, .int u_8.2.2.1, .int u_8.2.2.2.1, .int u_8.2.2.2.2.1, .int u_8.2.2.2.2.2.1, .int u_8.2.2.2.2.2.2])), (a11, .inr (4, [.ref a12, .int u_8.1.2.1, .int u_8.1.2.2])), (a13, .inr (4, [.ref a14, .int u_9.2.1, .int u_9.2.2])), (a15, .inr (6, [.ref a16, .ref a17, .int u_10.2.2])), (a18, .inr (9, [.ref a19, .int u_11.2.1, .int u_11.2.2.1, .int u_11.2.2.2]))]) hx hb hts i10 tyX10 tyX10_ok nmX10 hown hK hP hD hS 0 rfl rfl 8 (Nat.le_of_ble_eq_true rfl) w8 (fun _ h9 => h9) rfl rfl rfl rfl (Nat.le_of_ble_eq_true rfl) dX10_begin_84 rfl (fun H locs hP hD hS => ?_)
  refine lv_aload_n hx hb dX10_begin_87 rfl (lv_at hl 0 rfl) ?_
  refine lv_iconst (v := 0) hx hb dX10_begin_88 rfl ?_
  refine xput (C := RX10) (T := TX10) (N := 14) (wx := [(a0, .inr (10, [.ref a1, .ref a6, .ref a8, .ref a9, .ref a10, .ref a13, .ref a15, .ref a18, .int (0 : Int32), .int (0 : Int32), .int v0.2.2.2.2.2.2.2.2.2.2.1, .int v0.2.2.2.2.2.2.2.2.2.2.2.1, .int v0.2.2.2.2.2.2.2.2.2.2.2.2.1, .int v0.2.2.2.2.2.2.2.2.2.2.2.2.2])), (a1, .inr (7, [.ref a2, .ref a3, .ref a4, .ref a5, .int v0.1.2.2.2.2])), (a2, .inl (ca 0, 9, .inl v0.1.1)), (a6, .inr (2, [.ref a7, .int u_4.2.1, .int u_4.2.2.1, .int u_4.2.2.2.1, .int u_4.2.2.2.2])), (a7, .inl (ca 1, 17, .inr (.inl u_4.1))), (a8, .inr (8, [.int u_6.1, .int u_6.2.1, .int u_6.2.2])), (a9, .inr (1, [.int u_7.1, .int u_7.2.1, .int u_7.2.2.1, .int u_7.2.2.2.1, .int u_7.2.2.2.2.1, .int u_7.2.2.2.2.2])), (a10, .inr (3, [.ref a11, .int u_8.2.1, .int u_8.2.2.1, .int u_8.2.2.2.1, .int u_8.2.2.2.2.1, .int u_8.2.2.2.2.2.1, .int u_8.2.2.2.2.2.2])), (a11, .inr (4, [.ref a12, .int u_8.1.2.1, .int u_8.1.2.2])), (a13, .inr (4, [.ref a14, .int u_9.2.1, .int u_9.2.2])), (a15, .inr (6, [.ref a16, .ref a17, .int u_10.2.2])), (a18, .inr (9, [.ref a19, .int u_11.2.1, .int u_11.2.2.1, .int u_11.2.2.2]))]) hx hb hts i10 tyX10 tyX10_ok nmX10 hown hK hP hD hS 0 rfl rfl 9 (Nat.le_of_ble_eq_true rfl) w9 (fun _ h9 => h9) rfl rfl rfl rfl (Nat.le_of_ble_eq_true rfl) dX10_begin_89 rfl (fun H locs hP hD hS => ?_)
  refine lv_aload_n hx hb dX10_begin_92 rfl (lv_at hl 0 rfl) ?_
  refine lv_iconst (v := 0) hx hb dX10_begin_93 rfl ?_
  refine xput (C := RX10) (T := TX10) (N := 14) (wx := [(a0, .inr (10, [.ref a1, .ref a6, .ref a8, .ref a9, .ref a10, .ref a13, .ref a15, .ref a18, .int (0 : Int32), .int (0 : Int32), .int (0 : Int32), .int v0.2.2.2.2.2.2.2.2.2.2.2.1, .int v0.2.2.2.2.2.2.2.2.2.2.2.2.1, .int v0.2.2.2.2.2.2.2.2.2.2.2.2.2])), (a1, .inr (7, [.ref a2, .ref a3, .ref a4, .ref a5, .int v0.1.2.2.2.2])), (a2, .inl (ca 0, 9, .inl v0.1.1)), (a6, .inr (2, [.ref a7, .int u_4.2.1, .int u_4.2.2.1, .int u_4.2.2.2.1, .int u_4.2.2.2.2])), (a7, .inl (ca 1, 17, .inr (.inl u_4.1))), (a8, .inr (8, [.int u_6.1, .int u_6.2.1, .int u_6.2.2])), (a9, .inr (1, [.int u_7.1, .int u_7.2.1, .int u_7.2.2.1, .int u_7.2.2.2.1, .int u_7.2.2.2.2.1, .int u_7.2.2.2.2.2])), (a10, .inr (3, [.ref a11, .int u_8.2.1, .int u_8.2.2.1, .int u_8.2.2.2.1, .int u_8.2.2.2.2.1, .int u_8.2.2.2.2.2.1, .int u_8.2.2.2.2.2.2])), (a11, .inr (4, [.ref a12, .int u_8.1.2.1, .int u_8.1.2.2])), (a13, .inr (4, [.ref a14, .int u_9.2.1, .int u_9.2.2])), (a15, .inr (6, [.ref a16, .ref a17, .int u_10.2.2])), (a18, .inr (9, [.ref a19, .int u_11.2.1, .int u_11.2.2.1, .int u_11.2.2.2]))]) hx hb hts i10 tyX10 tyX10_ok nmX10 hown hK hP hD hS 0 rfl rfl 10 (Nat.le_of_ble_eq_true rfl) w10 (fun _ h9 => h9) rfl rfl rfl rfl (Nat.le_of_ble_eq_true rfl) dX10_begin_94 rfl (fun H locs hP hD hS => ?_)
  refine lv_aload_n hx hb dX10_begin_97 rfl (lv_at hl 0 rfl) ?_
  refine lv_iconst (v := 0) hx hb dX10_begin_98 rfl ?_
  refine xput (C := RX10) (T := TX10) (N := 14) (wx := [(a0, .inr (10, [.ref a1, .ref a6, .ref a8, .ref a9, .ref a10, .ref a13, .ref a15, .ref a18, .int (0 : Int32), .int (0 : Int32), .int (0 : Int32), .int (0 : Int32), .int v0.2.2.2.2.2.2.2.2.2.2.2.2.1, .int v0.2.2.2.2.2.2.2.2.2.2.2.2.2])), (a1, .inr (7, [.ref a2, .ref a3, .ref a4, .ref a5, .int v0.1.2.2.2.2])), (a2, .inl (ca 0, 9, .inl v0.1.1)), (a6, .inr (2, [.ref a7, .int u_4.2.1, .int u_4.2.2.1, .int u_4.2.2.2.1, .int u_4.2.2.2.2])), (a7, .inl (ca 1, 17, .inr (.inl u_4.1))), (a8, .inr (8, [.int u_6.1, .int u_6.2.1, .int u_6.2.2])), (a9, .inr (1, [.int u_7.1, .int u_7.2.1, .int u_7.2.2.1, .int u_7.2.2.2.1, .int u_7.2.2.2.2.1, .int u_7.2.2.2.2.2])), (a10, .inr (3, [.ref a11, .int u_8.2.1, .int u_8.2.2.1, .int u_8.2.2.2.1, .int u_8.2.2.2.2.1, .int u_8.2.2.2.2.2.1, .int u_8.2.2.2.2.2.2])), (a11, .inr (4, [.ref a12, .int u_8.1.2.1, .int u_8.1.2.2])), (a13, .inr (4, [.ref a14, .int u_9.2.1, .int u_9.2.2])), (a15, .inr (6, [.ref a16, .ref a17, .int u_10.2.2])), (a18, .inr (9, [.ref a19, .int u_11.2.1, .int u_11.2.2.1, .int u_11.2.2.2]))]) hx hb hts i10 tyX10 tyX10_ok nmX10 hown hK hP hD hS 0 rfl rfl 11 (Nat.le_of_ble_eq_true rfl) w11 (fun _ h9 => h9) rfl rfl rfl rfl (Nat.le_of_ble_eq_true rfl) dX10_begin_99 rfl (fun H locs hP hD hS => ?_)
  refine lv_aload_n hx hb dX10_begin_102 rfl (lv_at hl 0 rfl) ?_
  refine lv_iconst (v := 0) hx hb dX10_begin_103 rfl ?_
  refine xput (C := RX10) (T := TX10) (N := 14) (wx := [(a0, .inr (10, [.ref a1, .ref a6, .ref a8, .ref a9, .ref a10, .ref a13, .ref a15, .ref a18, .int (0 : Int32), .int (0 : Int32), .int (0 : Int32), .int (0 : Int32), .int (0 : Int32), .int v0.2.2.2.2.2.2.2.2.2.2.2.2.2])), (a1, .inr (7, [.ref a2, .ref a3, .ref a4, .ref a5, .int v0.1.2.2.2.2])), (a2, .inl (ca 0, 9, .inl v0.1.1)), (a6, .inr (2, [.ref a7, .int u_4.2.1, .int u_4.2.2.1, .int u_4.2.2.2.1, .int u_4.2.2.2.2])), (a7, .inl (ca 1, 17, .inr (.inl u_4.1))), (a8, .inr (8, [.int u_6.1, .int u_6.2.1, .int u_6.2.2])), (a9, .inr (1, [.int u_7.1, .int u_7.2.1, .int u_7.2.2.1, .int u_7.2.2.2.1, .int u_7.2.2.2.2.1, .int u_7.2.2.2.2.2])), (a10, .inr (3, [.ref a11, .int u_8.2.1, .int u_8.2.2.1, .int u_8.2.2.2.1, .int u_8.2.2.2.2.1, .int u_8.2.2.2.2.2.1, .int u_8.2.2.2.2.2.2])), (a11, .inr (4, [.ref a12, .int u_8.1.2.1, .int u_8.1.2.2])), (a13, .inr (4, [.ref a14, .int u_9.2.1, .int u_9.2.2])), (a15, .inr (6, [.ref a16, .ref a17, .int u_10.2.2])), (a18, .inr (9, [.ref a19, .int u_11.2.1, .int u_11.2.2.1, .int u_11.2.2.2]))]) hx hb hts i10 tyX10 tyX10_ok nmX10 hown hK hP hD hS 0 rfl rfl 12 (Nat.le_of_ble_eq_true rfl) w12 (fun _ h9 => h9) rfl rfl rfl rfl (Nat.le_of_ble_eq_true rfl) dX10_begin_104 rfl (fun H locs hP hD hS => ?_)
  refine lv_aload_n hx hb dX10_begin_107 rfl (lv_at hl 0 rfl) ?_
  refine lv_iconst (v := 0) hx hb dX10_begin_108 rfl ?_
  refine xput (C := RX10) (T := TX10) (N := 14) (wx := [(a0, .inr (10, [.ref a1, .ref a6, .ref a8, .ref a9, .ref a10, .ref a13, .ref a15, .ref a18, .int (0 : Int32), .int (0 : Int32), .int (0 : Int32), .int (0 : Int32), .int (0 : Int32), .int (0 : Int32)])), (a1, .inr (7, [.ref a2, .ref a3, .ref a4, .ref a5, .int v0.1.2.2.2.2])), (a2, .inl (ca 0, 9, .inl v0.1.1)), (a6, .inr (2, [.ref a7, .int u_4.2.1, .int u_4.2.2.1, .int u_4.2.2.2.1, .int u_4.2.2.2.2])), (a7, .inl (ca 1, 17, .inr (.inl u_4.1))), (a8, .inr (8, [.int u_6.1, .int u_6.2.1, .int u_6.2.2])), (a9, .inr (1, [.int u_7.1, .int u_7.2.1, .int u_7.2.2.1, .int u_7.2.2.2.1, .int u_7.2.2.2.2.1, .int u_7.2.2.2.2.2])), (a10, .inr (3, [.ref a11, .int u_8.2.1, .int u_8.2.2.1, .int u_8.2.2.2.1, .int u_8.2.2.2.2.1, .int u_8.2.2.2.2.2.1, .int u_8.2.2.2.2.2.2])), (a11, .inr (4, [.ref a12, .int u_8.1.2.1, .int u_8.1.2.2])), (a13, .inr (4, [.ref a14, .int u_9.2.1, .int u_9.2.2])), (a15, .inr (6, [.ref a16, .ref a17, .int u_10.2.2])), (a18, .inr (9, [.ref a19, .int u_11.2.1, .int u_11.2.2.1, .int u_11.2.2.2]))]) hx hb hts i10 tyX10 tyX10_ok nmX10 hown hK hP hD hS 0 rfl rfl 13 (Nat.le_of_ble_eq_true rfl) w13 (fun _ h9 => h9) rfl rfl rfl rfl (Nat.le_of_ble_eq_true rfl) dX10_begin_109 rfl (fun H locs hP hD hS => ?_)
  cases hf
  exact rt_V hx hb hr hlocks hK hP hD hS hQ rfl dX10_begin_112
abbrev wq_X9_byteOf : List Cond := Cond.code yX9_byteOf cX9_byteOf 3 (some .int) :: GL
set_option maxHeartbeats 4000000 in
set_option maxRecDepth 100000 in
theorem c_X9_byteOf (l : Launch) (D : va_G) (ca : Nat → ClassId) (zz : Nat → Nat) (sz : Nat) (p0 : Int64) (p1 : Int32) (r : Int32) (hf : f_X9_byteOf p0 p1 = some r) : Met l yX9_byteOf wq_X9_byteOf ({ frames := 0, cells := 0, slots := 0, locals := 0 } : Room) (PR D ca zz [.long p0, .int p1] sz []) (QI D ca r [] (va_A [] sz)) 0 0 (va_A [] sz) := by
  refine en (y := yX9_byteOf) (wsm := wq_X9_byteOf) (av := [.long p0, .int p1]) (cc := cX9_byteOf) (maxL := 3) (ret := (some .int)) (Qf := fun A => QI D ca r [] A) (by decide) rfl (Nat.le_of_ble_eq_true rfl) ?_
  intro p e s m args below meth c A Q ls hx hb hr hml hown hts hlocks hnm hA hN hZ hK hQ hP hD hS hl
  unfold f_X9_byteOf at hf
  refine lv_lload_n hx hb dX9_byteOf_0 rfl (lv_at hl 0 rfl) ?_
  refine lv_bipush (v := 56) hx hb dX9_byteOf_1 rfl ?_
  refine lv_bipush (v := 8) hx hb dX9_byteOf_3 rfl ?_
  refine lv_iload_n hx hb dX9_byteOf_5 rfl (lv_at hl 1 rfl) ?_
  refine lv_imul hx hb dX9_byteOf_6 ?_
  refine lv_isub hx hb dX9_byteOf_7 ?_
  refine lv_lushr (v := jlushr p0 ((56 : Int32) - ((8 : Int32) * p1))) hx hb dX9_byteOf_8 rfl ?_
  refine lv_l2i hx hb dX9_byteOf_9 rfl ?_
  refine lv_sipush (v := 255) hx hb dX9_byteOf_10 rfl ?_
  refine lv_iand hx hb dX9_byteOf_13 ?_
  cases hf
  exact rt_I hx hb hr hlocks hK hP hD hS hQ rfl rfl dX9_byteOf_14
abbrev wq_X9_append : List Cond := Cond.code yX9_append cX9_append 5 (some .int) :: GL
set_option maxHeartbeats 4000000 in
set_option maxRecDepth 100000 in
theorem c_X9_append (l : Launch) (D : va_G) (ca : Nat → ClassId) (zz : Nat → Nat) (a0 a1 : Nat) (sz : Nat) (v0 : V9) (p1 : Int64) (r : Int32) (v0' : V9) (hf : f_X9_append v0 p1 = some (r, v0')) : Met l yX9_append wq_X9_append ({ frames := 1, cells := 0, slots := 0, locals := 22 } : Room) (PR D ca zz [.ref a0, .long p1] sz [(a0, .inr (9, [.ref a1, .int v0.2.1, .int v0.2.2.1, .int v0.2.2.2])), (a1, .inl (ca 0, 300, .inl v0.1))]) (QI D ca r [(a0, .inr (9, [.ref a1, .int v0'.2.1, .int v0'.2.2.1, .int v0'.2.2.2])), (a1, .inl (ca 0, 300, .inl v0'.1))] (va_A [(a0, .inr (9, [.ref a1, .int v0.2.1, .int v0.2.2.1, .int v0.2.2.2])), (a1, .inl (ca 0, 300, .inl v0.1))] sz)) 0 0 (va_A [(a0, .inr (9, [.ref a1, .int v0.2.1, .int v0.2.2.1, .int v0.2.2.2])), (a1, .inl (ca 0, 300, .inl v0.1))] sz) := by
  refine en (y := yX9_append) (wsm := wq_X9_append) (av := [.ref a0, .long p1]) (cc := cX9_append) (maxL := 5) (ret := (some .int)) (Qf := fun A => QI D ca r [(a0, .inr (9, [.ref a1, .int v0'.2.1, .int v0'.2.2.1, .int v0'.2.2.2])), (a1, .inl (ca 0, 300, .inl v0'.1))] A) (by decide) rfl (Nat.le_of_ble_eq_true rfl) ?_
  intro p e s m args below meth c A Q ls hx hb hr hml hown hts hlocks hnm hA hN hZ hK hQ hP hD hS hl
  have w0 := hts _ (List.mem_cons_of_mem _ gw_1_234)
  have w1 := hts _ (List.mem_cons_of_mem _ gw_1_233)
  have i9 : ∀ w ∈ u_ws RX9 TX9 4, w ∈ wq_X9_append := fun w h => List.mem_cons_of_mem _ (inX9 w h)
  have bl46 : ∀ (k46 : V9 → Int64 → Int32 → Int32 → Option (Int32 × V9)) (q46 : ∀ (v0 : V9) (x1 : Int64) (x3 : Int32) (x4 : Int32), k46 v0 x1 x3 x4 = some (r, v0') → ∀ (H : Heap) (locs : List Loc) (ls : Array Slot), va_P D vwCl [(a0, .inr (9, [.ref a1, .int v0.2.1, .int v0.2.2.1, .int v0.2.2.2])), (a1, .inl (ca 0, 300, .inl v0.1))] H → va_D A [(a0, .inr (9, [.ref a1, .int v0.2.1, .int v0.2.2.1, .int v0.2.2.2])), (a1, .inl (ca 0, 300, .inl v0.1))] → va_S A s.heap H locs → lv_has ls 5 [(0, .ref a0), (1, .long x1), (3, .int x3), (4, .int x4)] → W p l e ({ frames := 1, cells := 0, slots := 0, locals := 22 } : Room) s m args below meth c H locs 0 0 Q (F0 m 46 ls [])) (v0 : V9) (x1 : Int64) (x3 : Int32) (x4 : Int32), fl_X9_append_46 k46 v0 x1 x3 x4 = some (r, v0') → ∀ (H : Heap) (locs : List Loc) (ls : Array Slot), va_P D vwCl [(a0, .inr (9, [.ref a1, .int v0.2.1, .int v0.2.2.1, .int v0.2.2.2])), (a1, .inl (ca 0, 300, .inl v0.1))] H → va_D A [(a0, .inr (9, [.ref a1, .int v0.2.1, .int v0.2.2.1, .int v0.2.2.2])), (a1, .inl (ca 0, 300, .inl v0.1))] → va_S A s.heap H locs → lv_has ls 5 [(0, .ref a0), (1, .long x1), (3, .int x3), (4, .int x4)] → W p l e ({ frames := 1, cells := 0, slots := 0, locals := 22 } : Room) s m args below meth c H locs 0 0 Q (F0 m 46 ls []) := by
    intro k46 q46 v0 x1 x3 x4 hf H locs ls hP hD hS hl
    unfold fl_X9_append_46 at hf
    refine lv_iload hx hb dX9_append_46 (lv_at hl 3 rfl) ?_
    refine lv_iload_n hx hb dX9_append_48 rfl (lv_at hl 2 rfl) ?_
    refine xc_ge (tgt := 76) hx hb dX9_append_49 (by decide) hf (fun hf => ?_) (fun hf => ?_)
    · refine lv_aload_n hx hb dX9_append_76 rfl (lv_at hl 0 rfl) ?_
      refine lv_dup hx hb dX9_append_77 rfl ?_
      refine va_get (C := RX9) (T := TX9) (N := 4) hx hb hts i9 hown hK hP 0 rfl rfl 1 (Nat.le_of_ble_eq_true rfl) w0 (fun _ h9 => h9) rfl dX9_append_78 ?_
      refine lv_iload_n hx hb dX9_append_81 rfl (lv_at hl 2 rfl) ?_
      refine lv_iadd hx hb dX9_append_82 ?_
      refine xnm hf (fun x_1 hf => ?_)
      refine xput (C := RX9) (T := TX9) (N := 4) (wx := [(a0, .inr (9, [.ref a1, .int x_1, .int v0.2.2.1, .int v0.2.2.2])), (a1, .inl (ca 0, 300, .inl v0.1))]) hx hb hts i9 tyX9 tyX9_ok nmX9 hown hK hP hD hS 0 rfl rfl 1 (Nat.le_of_ble_eq_true rfl) w0 (fun _ h9 => h9) rfl rfl rfl rfl (Nat.le_of_ble_eq_true rfl) dX9_append_83 rfl (fun H locs hP hD hS => ?_)
      refine lv_aload_n hx hb dX9_append_86 rfl (lv_at hl 0 rfl) ?_
      refine va_get (C := RX9) (T := TX9) (N := 4) hx hb hts i9 hown hK hP 0 rfl rfl 1 (Nat.le_of_ble_eq_true rfl) w0 (fun _ h9 => h9) rfl dX9_append_87 ?_
      cases hf
      exact rt_I hx hb hr hlocks hK hP hD hS hQ rfl rfl dX9_append_90
    · refine lv_aload_n hx hb dX9_append_52 rfl (lv_at hl 0 rfl) ?_
      refine va_get (C := RX9) (T := TX9) (N := 4) hx hb hts i9 hown hK hP 0 rfl rfl 0 (Nat.le_of_ble_eq_true rfl) w1 (fun _ h9 => h9) rfl dX9_append_53 ?_
      refine lv_aload_n hx hb dX9_append_56 rfl (lv_at hl 0 rfl) ?_
      refine va_get (C := RX9) (T := TX9) (N := 4) hx hb hts i9 hown hK hP 0 rfl rfl 1 (Nat.le_of_ble_eq_true rfl) w0 (fun _ h9 => h9) rfl dX9_append_57 ?_
      refine lv_iload hx hb dX9_append_60 (lv_at hl 3 rfl) ?_
      refine lv_iadd hx hb dX9_append_62 ?_
      refine lv_lload_n hx hb dX9_append_63 rfl (lv_at hl 1 rfl) ?_
      refine lv_iload hx hb dX9_append_64 (lv_at hl 3 rfl) ?_
      obtain ⟨r_2, hc2, hf⟩ := bnd1_el hf
      refine xS_I (As := [.long x1, .int x4]) (wx := [(a0, .inr (9, [.ref a1, .int v0.2.1, .int v0.2.2.1, .int v0.2.2.2])), (a1, .inl (ca 0, 300, .inl v0.1))]) ⟨hx, hb, hml, hown, hts⟩ (c_X9_byteOf l D ca zz  _ x1 x4 r_2 hc2) (va_cwS 2 hts (gS gw_2_220 gw_2_221 gw_1_10 gw_2_222) rfl rfl rfl (by decide +kernel) ⟨(Nat.le_of_ble_eq_true rfl), (Nat.le_of_ble_eq_true rfl)⟩) hK hN hZ hA hP hD hS [] rfl rfl rfl rfl hl.1 rfl (Nat.le_of_ble_eq_true rfl) dX9_append_66 ⟨Nat.zero_le _, Nat.zero_le _⟩ rfl (fun H locs hP hD hS => ?_)
      refine xiast (wx := [(a0, .inr (9, [.ref a1, .int v0.2.1, .int v0.2.2.1, .int v0.2.2.2])), (a1, .inl (ca 0, 300, .inl ((upd v0.1 (v0.2.1 + x4).toNatClampNeg r_2))))]) hx hb hK hP hD hS 1 rfl hf dX9_append_69 rfl (fun H locs hf hP hD hS => ?_)
      obtain ⟨y_3, ey_3, hf⟩ := bnd_el hf
      rw [← ey_3] at hP hD
      obtain ⟨x_4, ex_4, hf⟩ := bnd_el hf
      refine lv_iinc (v := x_4) (lv' := [(4, .int x_4), (0, .ref a0), (1, .long x1), (3, .int x3)]) hx hb dX9_append_70 hl (k := 3) rfl (by rw [ex_4]; rfl) (Nat.le_of_ble_eq_true rfl) rfl (fun ls hl => ?_)
      refine lv_goto (tgt := 46) hx hb dX9_append_73 (by decide) ?_
      exact q46 ((y_3, v0.2)) x1 x3 x_4 hf _ _ _ hP hD hS (lv_sub hl [1, 2, 3, 0] rfl)
  have b46 : ∀ (n : Nat) (v0 : V9) (x1 : Int64) (x3 : Int32) (x4 : Int32), fb_X9_append_46 n v0 x1 x3 x4 = some (r, v0') → ∀ (H : Heap) (locs : List Loc) (ls : Array Slot), va_P D vwCl [(a0, .inr (9, [.ref a1, .int v0.2.1, .int v0.2.2.1, .int v0.2.2.2])), (a1, .inl (ca 0, 300, .inl v0.1))] H → va_D A [(a0, .inr (9, [.ref a1, .int v0.2.1, .int v0.2.2.1, .int v0.2.2.2])), (a1, .inl (ca 0, 300, .inl v0.1))] → va_S A s.heap H locs → lv_has ls 5 [(0, .ref a0), (1, .long x1), (3, .int x3), (4, .int x4)] → W p l e ({ frames := 1, cells := 0, slots := 0, locals := 22 } : Room) s m args below meth c H locs 0 0 Q (F0 m 46 ls []) := by
    intro n
    induction n with
    | zero => intro v0 x1 x3 x4 hf; exact no_el hf
    | succ n ih => exact bl46 (fb_X9_append_46 n) ih
  have b22 : ∀ (v0 : V9) (x1 : Int64) (x3 : Int32), fc_X9_append_22 v0 x1 x3 = some (r, v0') → ∀ (H : Heap) (locs : List Loc) (ls : Array Slot), va_P D vwCl [(a0, .inr (9, [.ref a1, .int v0.2.1, .int v0.2.2.1, .int v0.2.2.2])), (a1, .inl (ca 0, 300, .inl v0.1))] H → va_D A [(a0, .inr (9, [.ref a1, .int v0.2.1, .int v0.2.2.1, .int v0.2.2.2])), (a1, .inl (ca 0, 300, .inl v0.1))] → va_S A s.heap H locs → lv_has ls 5 [(0, .ref a0), (1, .long x1), (3, .int x3)] → W p l e ({ frames := 1, cells := 0, slots := 0, locals := 22 } : Room) s m args below meth c H locs 0 0 Q (F0 m 22 ls []) := by
    intro v0 x1 x3 hf H locs ls hP hD hS hl
    unfold fc_X9_append_22 at hf
    refine lv_aload_n hx hb dX9_append_22 rfl (lv_at hl 0 rfl) ?_
    refine va_get (C := RX9) (T := TX9) (N := 4) hx hb hts i9 hown hK hP 0 rfl rfl 1 (Nat.le_of_ble_eq_true rfl) w0 (fun _ h9 => h9) rfl dX9_append_23 ?_
    refine xi_lt (tgt := 41) hx hb dX9_append_26 (by decide) hf (fun hf => ?_) (fun hf => ?_)
    · refine lv_iconst (v := -1) hx hb dX9_append_41 rfl ?_
      cases hf
      exact rt_I hx hb hr hlocks hK hP hD hS hQ rfl rfl dX9_append_42
    · refine lv_aload_n hx hb dX9_append_29 rfl (lv_at hl 0 rfl) ?_
      refine va_get (C := RX9) (T := TX9) (N := 4) hx hb hts i9 hown hK hP 0 rfl rfl 1 (Nat.le_of_ble_eq_true rfl) w0 (fun _ h9 => h9) rfl dX9_append_30 ?_
      refine lv_iload_n hx hb dX9_append_33 rfl (lv_at hl 2 rfl) ?_
      refine lv_iadd hx hb dX9_append_34 ?_
      refine lv_sipush (v := 300) hx hb dX9_append_35 rfl ?_
      refine xc_le (tgt := 43) hx hb dX9_append_38 (by decide) hf (fun hf => ?_) (fun hf => ?_)
      · refine lv_iconst (v := 0) hx hb dX9_append_43 rfl ?_
        refine lv_istore (lv' := [(4, .int (0 : Int32)), (0, .ref a0), (1, .long x1), (3, .int x3)]) hx hb dX9_append_44 hl (Nat.le_of_ble_eq_true rfl) rfl (fun ls hl => ?_)
        exact b46 FU v0 x1 x3 (0 : Int32) hf _ _ _ hP hD hS (lv_sub hl [1, 2, 3, 0] rfl)
      · refine lv_iconst (v := -1) hx hb dX9_append_41 rfl ?_
        cases hf
        exact rt_I hx hb hr hlocks hK hP hD hS hQ rfl rfl dX9_append_42
  have bl2 : ∀ (k2 : V9 → Int64 → Int32 → Option (Int32 × V9)) (q2 : ∀ (v0 : V9) (x1 : Int64) (x3 : Int32), k2 v0 x1 x3 = some (r, v0') → ∀ (H : Heap) (locs : List Loc) (ls : Array Slot), va_P D vwCl [(a0, .inr (9, [.ref a1, .int v0.2.1, .int v0.2.2.1, .int v0.2.2.2])), (a1, .inl (ca 0, 300, .inl v0.1))] H → va_D A [(a0, .inr (9, [.ref a1, .int v0.2.1, .int v0.2.2.1, .int v0.2.2.2])), (a1, .inl (ca 0, 300, .inl v0.1))] → va_S A s.heap H locs → lv_has ls 5 [(0, .ref a0), (1, .long x1), (3, .int x3)] → W p l e ({ frames := 1, cells := 0, slots := 0, locals := 22 } : Room) s m args below meth c H locs 0 0 Q (F0 m 2 ls [])) (v0 : V9) (x1 : Int64) (x3 : Int32), fl_X9_append_2 k2 v0 x1 x3 = some (r, v0') → ∀ (H : Heap) (locs : List Loc) (ls : Array Slot), va_P D vwCl [(a0, .inr (9, [.ref a1, .int v0.2.1, .int v0.2.2.1, .int v0.2.2.2])), (a1, .inl (ca 0, 300, .inl v0.1))] H → va_D A [(a0, .inr (9, [.ref a1, .int v0.2.1, .int v0.2.2.1, .int v0.2.2.2])), (a1, .inl (ca 0, 300, .inl v0.1))] → va_S A s.heap H locs → lv_has ls 5 [(0, .ref a0), (1, .long x1), (3, .int x3)] → W p l e ({ frames := 1, cells := 0, slots := 0, locals := 22 } : Room) s m args below meth c H locs 0 0 Q (F0 m 2 ls []) := by
    intro k2 q2 v0 x1 x3 hf H locs ls hP hD hS hl
    unfold fl_X9_append_2 at hf
    refine lv_iload_n hx hb dX9_append_2 rfl (lv_at hl 2 rfl) ?_
    refine lv_bipush (v := 8) hx hb dX9_append_3 rfl ?_
    refine xc_ge (tgt := 22) hx hb dX9_append_5 (by decide) hf (fun hf => ?_) (fun hf => ?_)
    · exact b22 v0 x1 x3 hf _ _ _ hP hD hS (lv_sub hl [0, 1, 2] rfl)
    · refine lv_lload_n hx hb dX9_append_8 rfl (lv_at hl 1 rfl) ?_
      refine lv_iload_n hx hb dX9_append_9 rfl (lv_at hl 2 rfl) ?_
      obtain ⟨r_5, hc5, hf⟩ := bnd1_el hf
      refine xS_I (As := [.long x1, .int x3]) (wx := [(a0, .inr (9, [.ref a1, .int v0.2.1, .int v0.2.2.1, .int v0.2.2.2])), (a1, .inl (ca 0, 300, .inl v0.1))]) ⟨hx, hb, hml, hown, hts⟩ (c_X9_byteOf l D ca zz  _ x1 x3 r_5 hc5) (va_cwS 2 hts (gS gw_2_220 gw_2_221 gw_1_10 gw_2_222) rfl rfl rfl (by decide +kernel) ⟨(Nat.le_of_ble_eq_true rfl), (Nat.le_of_ble_eq_true rfl)⟩) hK hN hZ hA hP hD hS [] rfl rfl rfl rfl hl.1 rfl (Nat.le_of_ble_eq_true rfl) dX9_append_10 ⟨Nat.zero_le _, Nat.zero_le _⟩ rfl (fun H locs hP hD hS => ?_)
      refine xi_eq (tgt := 22) hx hb dX9_append_13 (by decide) hf (fun hf => ?_) (fun hf => ?_)
      · exact b22 v0 x1 x3 hf _ _ _ hP hD hS (lv_sub hl [0, 1, 2] rfl)
      · obtain ⟨x_6, ex_6, hf⟩ := bnd_el hf
        refine lv_iinc (v := x_6) (lv' := [(3, .int x_6), (0, .ref a0), (1, .long x1)]) hx hb dX9_append_16 hl (k := 2) rfl (by rw [ex_6]; rfl) (Nat.le_of_ble_eq_true rfl) rfl (fun ls hl => ?_)
        refine lv_goto (tgt := 2) hx hb dX9_append_19 (by decide) ?_
        exact q2 v0 x1 x_6 hf _ _ _ hP hD hS (lv_sub hl [1, 2, 0] rfl)
  have b2 : ∀ (n : Nat) (v0 : V9) (x1 : Int64) (x3 : Int32), fb_X9_append_2 n v0 x1 x3 = some (r, v0') → ∀ (H : Heap) (locs : List Loc) (ls : Array Slot), va_P D vwCl [(a0, .inr (9, [.ref a1, .int v0.2.1, .int v0.2.2.1, .int v0.2.2.2])), (a1, .inl (ca 0, 300, .inl v0.1))] H → va_D A [(a0, .inr (9, [.ref a1, .int v0.2.1, .int v0.2.2.1, .int v0.2.2.2])), (a1, .inl (ca 0, 300, .inl v0.1))] → va_S A s.heap H locs → lv_has ls 5 [(0, .ref a0), (1, .long x1), (3, .int x3)] → W p l e ({ frames := 1, cells := 0, slots := 0, locals := 22 } : Room) s m args below meth c H locs 0 0 Q (F0 m 2 ls []) := by
    intro n
    induction n with
    | zero => intro v0 x1 x3 hf; exact no_el hf
    | succ n ih => exact bl2 (fb_X9_append_2 n) ih
  unfold f_X9_append at hf
  refine lv_iconst (v := 0) hx hb dX9_append_0 rfl ?_
  refine lv_istore_n (lv' := [(3, .int (0 : Int32)), (0, .ref a0), (1, .long p1)]) hx hb dX9_append_1 rfl hl (Nat.le_of_ble_eq_true rfl) rfl (fun ls hl => ?_)
  exact b2 FU v0 p1 (0 : Int32) hf _ _ _ hP hD hS (lv_sub hl [1, 2, 0] rfl)
abbrev wq_X11_tell : List Cond := Cond.code yX11_tell cX11_tell 3 (some .int) :: GL
set_option maxHeartbeats 4000000 in
set_option maxRecDepth 100000 in
theorem c_X11_tell (l : Launch) (D : va_G) (ca : Nat → ClassId) (zz : Nat → Nat) (a0 a1 a2 a7 a9 a10 a11 a14 a16 a19 a20 a21 a41 a42 a49 a52 a54 a55 : Nat) (sz : Nat) (v0 : V11) (p1 : Int64) (r : Int32) (v0' : V11) (hf : f_X11_tell v0 p1 = some (r, v0')) : Met l yX11_tell wq_X11_tell ({ frames := 2, cells := 0, slots := 0, locals := 46 } : Room) (PR D ca zz [.ref a0, .long p1] sz [(a0, .inr (11, [.ref a1, .ref a21, .ref a41, .ref a42, .ref a49, .ref a52, .ref a54, .ref a55])), (a1, .inr (10, [.ref a2, .ref a7, .ref a9, .ref a10, .ref a11, .ref a14, .ref a16, .ref a19, .int v0.1.2.2.2.2.2.2.2.2.1, .int v0.1.2.2.2.2.2.2.2.2.2.1, .int v0.1.2.2.2.2.2.2.2.2.2.2.1, .int v0.1.2.2.2.2.2.2.2.2.2.2.2.1, .int v0.1.2.2.2.2.2.2.2.2.2.2.2.2.1, .int v0.1.2.2.2.2.2.2.2.2.2.2.2.2.2])), (a19, .inr (9, [.ref a20, .int v0.1.2.2.2.2.2.2.2.1.2.1, .int v0.1.2.2.2.2.2.2.2.1.2.2.1, .int v0.1.2.2.2.2.2.2.2.1.2.2.2])), (a20, .inl (ca 0, 300, .inl v0.1.2.2.2.2.2.2.2.1.1))]) (QI D ca r [(a0, .inr (11, [.ref a1, .ref a21, .ref a41, .ref a42, .ref a49, .ref a52, .ref a54, .ref a55])), (a1, .inr (10, [.ref a2, .ref a7, .ref a9, .ref a10, .ref a11, .ref a14, .ref a16, .ref a19, .int v0'.1.2.2.2.2.2.2.2.2.1, .int v0'.1.2.2.2.2.2.2.2.2.2.1, .int v0'.1.2.2.2.2.2.2.2.2.2.2.1, .int v0'.1.2.2.2.2.2.2.2.2.2.2.2.1, .int v0'.1.2.2.2.2.2.2.2.2.2.2.2.2.1, .int v0'.1.2.2.2.2.2.2.2.2.2.2.2.2.2])), (a19, .inr (9, [.ref a20, .int v0'.1.2.2.2.2.2.2.2.1.2.1, .int v0'.1.2.2.2.2.2.2.2.1.2.2.1, .int v0'.1.2.2.2.2.2.2.2.1.2.2.2])), (a20, .inl (ca 0, 300, .inl v0'.1.2.2.2.2.2.2.2.1.1))] (va_A [(a0, .inr (11, [.ref a1, .ref a21, .ref a41, .ref a42, .ref a49, .ref a52, .ref a54, .ref a55])), (a1, .inr (10, [.ref a2, .ref a7, .ref a9, .ref a10, .ref a11, .ref a14, .ref a16, .ref a19, .int v0.1.2.2.2.2.2.2.2.2.1, .int v0.1.2.2.2.2.2.2.2.2.2.1, .int v0.1.2.2.2.2.2.2.2.2.2.2.1, .int v0.1.2.2.2.2.2.2.2.2.2.2.2.1, .int v0.1.2.2.2.2.2.2.2.2.2.2.2.2.1, .int v0.1.2.2.2.2.2.2.2.2.2.2.2.2.2])), (a19, .inr (9, [.ref a20, .int v0.1.2.2.2.2.2.2.2.1.2.1, .int v0.1.2.2.2.2.2.2.2.1.2.2.1, .int v0.1.2.2.2.2.2.2.2.1.2.2.2])), (a20, .inl (ca 0, 300, .inl v0.1.2.2.2.2.2.2.2.1.1))] sz)) 0 0 (va_A [(a0, .inr (11, [.ref a1, .ref a21, .ref a41, .ref a42, .ref a49, .ref a52, .ref a54, .ref a55])), (a1, .inr (10, [.ref a2, .ref a7, .ref a9, .ref a10, .ref a11, .ref a14, .ref a16, .ref a19, .int v0.1.2.2.2.2.2.2.2.2.1, .int v0.1.2.2.2.2.2.2.2.2.2.1, .int v0.1.2.2.2.2.2.2.2.2.2.2.1, .int v0.1.2.2.2.2.2.2.2.2.2.2.2.1, .int v0.1.2.2.2.2.2.2.2.2.2.2.2.2.1, .int v0.1.2.2.2.2.2.2.2.2.2.2.2.2.2])), (a19, .inr (9, [.ref a20, .int v0.1.2.2.2.2.2.2.2.1.2.1, .int v0.1.2.2.2.2.2.2.2.1.2.2.1, .int v0.1.2.2.2.2.2.2.2.1.2.2.2])), (a20, .inl (ca 0, 300, .inl v0.1.2.2.2.2.2.2.2.1.1))] sz) := by
  refine en (y := yX11_tell) (wsm := wq_X11_tell) (av := [.ref a0, .long p1]) (cc := cX11_tell) (maxL := 3) (ret := (some .int)) (Qf := fun A => QI D ca r [(a0, .inr (11, [.ref a1, .ref a21, .ref a41, .ref a42, .ref a49, .ref a52, .ref a54, .ref a55])), (a1, .inr (10, [.ref a2, .ref a7, .ref a9, .ref a10, .ref a11, .ref a14, .ref a16, .ref a19, .int v0'.1.2.2.2.2.2.2.2.2.1, .int v0'.1.2.2.2.2.2.2.2.2.2.1, .int v0'.1.2.2.2.2.2.2.2.2.2.2.1, .int v0'.1.2.2.2.2.2.2.2.2.2.2.2.1, .int v0'.1.2.2.2.2.2.2.2.2.2.2.2.2.1, .int v0'.1.2.2.2.2.2.2.2.2.2.2.2.2.2])), (a19, .inr (9, [.ref a20, .int v0'.1.2.2.2.2.2.2.2.1.2.1, .int v0'.1.2.2.2.2.2.2.2.1.2.2.1, .int v0'.1.2.2.2.2.2.2.2.1.2.2.2])), (a20, .inl (ca 0, 300, .inl v0'.1.2.2.2.2.2.2.2.1.1))] A) (by decide) rfl (Nat.le_of_ble_eq_true rfl) ?_
  intro p e s m args below meth c A Q ls hx hb hr hml hown hts hlocks hnm hA hN hZ hK hQ hP hD hS hl
  have w0 := hts _ (List.mem_cons_of_mem _ gw_2_187)
  have nw39 := NW.use (args := args) (w := .fieldLinkNest RX11 54 "NoiseWatch$Watch" "text" "LNoiseWatch$Text;" "NoiseWatch") hN 39 rfl
  have i10 : ∀ w ∈ u_ws RX10 TX10 14, w ∈ wq_X11_tell := fun w h => List.mem_cons_of_mem _ (inX10 w h)
  have i11 : ∀ w ∈ u_ws RX11 TX11 8, w ∈ wq_X11_tell := fun w h => List.mem_cons_of_mem _ (inX11 w h)
  unfold f_X11_tell at hf
  refine lv_aload_n hx hb dX11_tell_0 rfl (lv_at hl 0 rfl) ?_
  refine va_get (C := RX11) (T := TX11) (N := 8) hx hb hts i11 hown hK hP 0 rfl rfl 0 (Nat.le_of_ble_eq_true rfl) w0 (fun _ h9 => h9) rfl dX11_tell_1 ?_
  refine va_getN (C := RX10) (T := TX10) (N := 14) hx hb hts i10 hown hK hP 1 rfl rfl 7 (Nat.le_of_ble_eq_true rfl) nw39 (fun _ h9 => h9) rfl dX11_tell_4 ?_
  refine lv_lload_n hx hb dX11_tell_7 rfl (lv_at hl 1 rfl) ?_
  obtain ⟨r_1, u_2, hc2, hf⟩ := bnd2_el hf
  refine xV_I (As := [.long p1]) (wx := [(a0, .inr (11, [.ref a1, .ref a21, .ref a41, .ref a42, .ref a49, .ref a52, .ref a54, .ref a55])), (a1, .inr (10, [.ref a2, .ref a7, .ref a9, .ref a10, .ref a11, .ref a14, .ref a16, .ref a19, .int v0.1.2.2.2.2.2.2.2.2.1, .int v0.1.2.2.2.2.2.2.2.2.2.1, .int v0.1.2.2.2.2.2.2.2.2.2.2.1, .int v0.1.2.2.2.2.2.2.2.2.2.2.2.1, .int v0.1.2.2.2.2.2.2.2.2.2.2.2.2.1, .int v0.1.2.2.2.2.2.2.2.2.2.2.2.2.2])), (a19, .inr (9, [.ref a20, .int u_2.2.1, .int u_2.2.2.1, .int u_2.2.2.2])), (a20, .inl (ca 0, 300, .inl u_2.1))]) ⟨hx, hb, hml, hown, hts⟩ (c_X9_append l D ca zz a19 a20 _ v0.1.2.2.2.2.2.2.2.1 p1 r_1 u_2 hc2) (cwV 1 hts (gV gw_2_216 gw_2_217 gw_2_218 gw_1_10 gw_2_219) rfl rfl rfl (by decide +kernel) ⟨(Nat.le_of_ble_eq_true rfl), (Nat.le_of_ble_eq_true rfl)⟩) hK hN hZ hA hP hD hS [2, 3] rfl rfl rfl rfl 2 rfl rfl hl.1 rfl (Nat.le_of_ble_eq_true rfl) dX11_tell_8 ⟨Nat.zero_le _, Nat.zero_le _⟩ rfl (fun H locs hP hD hS => ?_)
  cases hf
  exact rt_I hx hb hr hlocks hK hP hD hS hQ rfl rfl dX11_tell_11
abbrev wq_X7_setFirst : List Cond := Cond.code yX7_setFirst cX7_setFirst 1 none :: GL
set_option maxHeartbeats 4000000 in
set_option maxRecDepth 100000 in
theorem c_X7_setFirst (l : Launch) (D : va_G) (ca : Nat → ClassId) (zz : Nat → Nat) (a0 a1 a2 a3 a4 : Nat) (sz : Nat) (v0 : V7) (v0' : V7) (hf : f_X7_setFirst v0 = some v0') : Met l yX7_setFirst wq_X7_setFirst ({ frames := 1, cells := 0, slots := 0, locals := 60 } : Room) (PR D ca zz [.ref a0] sz [(a0, .inr (7, [.ref a1, .ref a2, .ref a3, .ref a4, .int v0.2.2.2.2])), (a1, .inl (ca 0, 9, .inl v0.1))]) (QV D ca [(a0, .inr (7, [.ref a1, .ref a2, .ref a3, .ref a4, .int v0'.2.2.2.2])), (a1, .inl (ca 0, 9, .inl v0'.1))] (va_A [(a0, .inr (7, [.ref a1, .ref a2, .ref a3, .ref a4, .int v0.2.2.2.2])), (a1, .inl (ca 0, 9, .inl v0.1))] sz)) 0 0 (va_A [(a0, .inr (7, [.ref a1, .ref a2, .ref a3, .ref a4, .int v0.2.2.2.2])), (a1, .inl (ca 0, 9, .inl v0.1))] sz) := by
  refine en (y := yX7_setFirst) (wsm := wq_X7_setFirst) (av := [.ref a0]) (cc := cX7_setFirst) (maxL := 1) (ret := none) (Qf := fun A => QV D ca [(a0, .inr (7, [.ref a1, .ref a2, .ref a3, .ref a4, .int v0'.2.2.2.2])), (a1, .inl (ca 0, 9, .inl v0'.1))] A) (by decide) rfl (Nat.le_of_ble_eq_true rfl) ?_
  intro p e s m args below meth c A Q ls hx hb hr hml hown hts hlocks hnm hA hN hZ hK hQ hP hD hS hl
  have w0 := hts _ (List.mem_cons_of_mem _ gw_1_55)
  have w1 := hts _ (List.mem_cons_of_mem _ gw_2_235)
  have w2 := hts _ (List.mem_cons_of_mem _ gw_2_30)
  have w3 := hts _ (List.mem_cons_of_mem _ gw_1_11)
  have w4 := hts _ (List.mem_cons_of_mem _ gw_2_31)
  have w5 := hts _ (List.mem_cons_of_mem _ gw_2_236)
  have w6 := hts _ (List.mem_cons_of_mem _ gw_2_238)
  have w7 := hts _ (List.mem_cons_of_mem _ gw_2_237)
  have w8 := hts _ (List.mem_cons_of_mem _ gw_1_16)
  have w9 := hts _ (List.mem_cons_of_mem _ gw_1_59)
  have nw0 := NW.use (args := args) (w := .fieldLinkNest RX7 9 "NoiseWatch" "FIRST" "[I" "NoiseWatch") hN 0 rfl
  have i7 : ∀ w ∈ u_ws RX7 TX7 5, w ∈ wq_X7_setFirst := fun w h => List.mem_cons_of_mem _ (inX7 w h)
  unfold f_X7_setFirst at hf
  refine va_getsN hx hb hZ.1.1 hS hown nw0 (fun _ h9 => h9) dX7_setFirst_0 ?_
  refine lv_iconst (v := 0) hx hb dX7_setFirst_3 rfl ?_
  refine lv_aload_n hx hb dX7_setFirst_4 rfl (lv_at hl 0 rfl) ?_
  refine va_get (C := RX7) (T := TX7) (N := 5) hx hb hts i7 hown hK hP 0 rfl rfl 0 (Nat.le_of_ble_eq_true rfl) w0 (fun _ h9 => h9) rfl dX7_setFirst_5 ?_
  refine lv_iconst (v := 0) hx hb dX7_setFirst_8 rfl ?_
  refine va_getsN hx hb hZ.1.1 hS hown nw0 (fun _ h9 => h9) dX7_setFirst_9 ?_
  refine va_tlen (v := 9) hx hb hZ.1.2.1 hS rfl dX7_setFirst_12 ?_
  refine lv_aload_n hx hb dX7_setFirst_13 rfl (lv_at hl 0 rfl) ?_
  refine va_get (C := RX7) (T := TX7) (N := 5) hx hb hts i7 hown hK hP 0 rfl rfl 0 (Nat.le_of_ble_eq_true rfl) w0 (fun _ h9 => h9) rfl dX7_setFirst_14 ?_
  refine va_alen hx hb hK hP 1 0 rfl rfl (v := (9 : Int32)) rfl dX7_setFirst_17 ?_
  refine va_mmin hx hb (hml.trans hl.1.symm) hown w1 w2 w3 w4 (Nat.le_of_ble_eq_true rfl) (Nat.le_of_ble_eq_true rfl) (Nat.zero_le _) (Nat.zero_le _) dX7_setFirst_18 ?_
  refine xnm hf (fun x_1 hf => ?_)
  refine xcopyt (wx := [(a0, .inr (7, [.ref a1, .ref a2, .ref a3, .ref a4, .int v0.2.2.2.2])), (a1, .inl (ca 0, 9, .inl ((va_cpy stF v0.1 ((0 : Int32)).toNatClampNeg ((0 : Int32)).toNatClampNeg (x_1).toNatClampNeg))))]) hx hb (hml.trans hl.1.symm) hown w5 w6 w7 w8 hK hP hD hS hZ.1.2.1 1 rfl hf (Nat.le_of_ble_eq_true rfl) (Nat.le_of_ble_eq_true rfl) dX7_setFirst_21 rfl (fun H locs hf hP hD hS => ?_)
  obtain ⟨y_2, ey_2, hf⟩ := bnd_el hf
  rw [← ey_2] at hP hD
  refine lv_aload_n hx hb dX7_setFirst_24 rfl (lv_at hl 0 rfl) ?_
  refine lv_iconst (v := 0) hx hb dX7_setFirst_25 rfl ?_
  refine xput (C := RX7) (T := TX7) (N := 5) (wx := [(a0, .inr (7, [.ref a1, .ref a2, .ref a3, .ref a4, .int (0 : Int32)])), (a1, .inl (ca 0, 9, .inl y_2))]) hx hb hts i7 tyX7 tyX7_ok nmX7 hown hK hP hD hS 0 rfl rfl 4 (Nat.le_of_ble_eq_true rfl) w9 (fun _ h9 => h9) rfl rfl rfl rfl (Nat.le_of_ble_eq_true rfl) dX7_setFirst_26 rfl (fun H locs hP hD hS => ?_)
  cases hf
  exact rt_V hx hb hr hlocks hK hP hD hS hQ rfl dX7_setFirst_29
abbrev wq_X9_byteAt : List Cond := Cond.code yX9_byteAt cX9_byteAt 2 (some .int) :: GL
set_option maxHeartbeats 4000000 in
set_option maxRecDepth 100000 in
theorem c_X9_byteAt (l : Launch) (D : va_G) (ca : Nat → ClassId) (zz : Nat → Nat) (a0 a1 : Nat) (sz : Nat) (v0 : V9) (p1 : Int32) (r : Int32) (hf : f_X9_byteAt v0 p1 = some r) : Met l yX9_byteAt wq_X9_byteAt ({ frames := 0, cells := 0, slots := 0, locals := 0 } : Room) (PR D ca zz [.ref a0, .int p1] sz [(a0, .inr (9, [.ref a1, .int v0.2.1, .int v0.2.2.1, .int v0.2.2.2])), (a1, .inl (ca 0, 300, .inl v0.1))]) (QI D ca r [(a0, .inr (9, [.ref a1, .int v0.2.1, .int v0.2.2.1, .int v0.2.2.2])), (a1, .inl (ca 0, 300, .inl v0.1))] (va_A [(a0, .inr (9, [.ref a1, .int v0.2.1, .int v0.2.2.1, .int v0.2.2.2])), (a1, .inl (ca 0, 300, .inl v0.1))] sz)) 0 0 (va_A [(a0, .inr (9, [.ref a1, .int v0.2.1, .int v0.2.2.1, .int v0.2.2.2])), (a1, .inl (ca 0, 300, .inl v0.1))] sz) := by
  refine en (y := yX9_byteAt) (wsm := wq_X9_byteAt) (av := [.ref a0, .int p1]) (cc := cX9_byteAt) (maxL := 2) (ret := (some .int)) (Qf := fun A => QI D ca r [(a0, .inr (9, [.ref a1, .int v0.2.1, .int v0.2.2.1, .int v0.2.2.2])), (a1, .inl (ca 0, 300, .inl v0.1))] A) (by decide) rfl (Nat.le_of_ble_eq_true rfl) ?_
  intro p e s m args below meth c A Q ls hx hb hr hml hown hts hlocks hnm hA hN hZ hK hQ hP hD hS hl
  have w0 := hts _ (List.mem_cons_of_mem _ gw_1_234)
  have w1 := hts _ (List.mem_cons_of_mem _ gw_1_233)
  have i9 : ∀ w ∈ u_ws RX9 TX9 4, w ∈ wq_X9_byteAt := fun w h => List.mem_cons_of_mem _ (inX9 w h)
  unfold f_X9_byteAt at hf
  refine lv_iload_n hx hb dX9_byteAt_0 rfl (lv_at hl 1 rfl) ?_
  refine xi_lt (tgt := 19) hx hb dX9_byteAt_1 (by decide) hf (fun hf => ?_) (fun hf => ?_)
  · refine lv_iconst (v := -1) hx hb dX9_byteAt_19 rfl ?_
    refine lv_goto (tgt := 29) hx hb dX9_byteAt_20 (by decide) ?_
    cases hf
    exact rt_I hx hb hr hlocks hK hP hD hS hQ rfl rfl dX9_byteAt_29
  · refine lv_iload_n hx hb dX9_byteAt_4 rfl (lv_at hl 1 rfl) ?_
    refine lv_aload_n hx hb dX9_byteAt_5 rfl (lv_at hl 0 rfl) ?_
    refine va_get (C := RX9) (T := TX9) (N := 4) hx hb hts i9 hown hK hP 0 rfl rfl 1 (Nat.le_of_ble_eq_true rfl) w0 (fun _ h9 => h9) rfl dX9_byteAt_6 ?_
    refine xc_ge (tgt := 19) hx hb dX9_byteAt_9 (by decide) hf (fun hf => ?_) (fun hf => ?_)
    · refine lv_iconst (v := -1) hx hb dX9_byteAt_19 rfl ?_
      refine lv_goto (tgt := 29) hx hb dX9_byteAt_20 (by decide) ?_
      cases hf
      exact rt_I hx hb hr hlocks hK hP hD hS hQ rfl rfl dX9_byteAt_29
    · refine lv_iload_n hx hb dX9_byteAt_12 rfl (lv_at hl 1 rfl) ?_
      refine lv_sipush (v := 300) hx hb dX9_byteAt_13 rfl ?_
      refine xc_lt (tgt := 23) hx hb dX9_byteAt_16 (by decide) hf (fun hf => ?_) (fun hf => ?_)
      · refine lv_aload_n hx hb dX9_byteAt_23 rfl (lv_at hl 0 rfl) ?_
        refine va_get (C := RX9) (T := TX9) (N := 4) hx hb hts i9 hown hK hP 0 rfl rfl 0 (Nat.le_of_ble_eq_true rfl) w1 (fun _ h9 => h9) rfl dX9_byteAt_24 ?_
        refine lv_iload_n hx hb dX9_byteAt_27 rfl (lv_at hl 1 rfl) ?_
        refine xiald hx hb hK hP 1 rfl hf dX9_byteAt_28 (fun hf => ?_)
        cases hf
        exact rt_I hx hb hr hlocks hK hP hD hS hQ rfl rfl dX9_byteAt_29
      · refine lv_iconst (v := -1) hx hb dX9_byteAt_19 rfl ?_
        refine lv_goto (tgt := 29) hx hb dX9_byteAt_20 (by decide) ?_
        cases hf
        exact rt_I hx hb hr hlocks hK hP hD hS hQ rfl rfl dX9_byteAt_29
abbrev wq_X5_isBlank : List Cond := Cond.code yX5_isBlank cX5_isBlank 1 (some .boolean) :: GL
set_option maxHeartbeats 4000000 in
set_option maxRecDepth 100000 in
theorem c_X5_isBlank (l : Launch) (D : va_G) (ca : Nat → ClassId) (zz : Nat → Nat) (sz : Nat) (p0 : Int32) (r : Int32) (hf : f_X5_isBlank p0 = some r) : Met l yX5_isBlank wq_X5_isBlank ({ frames := 0, cells := 0, slots := 0, locals := 0 } : Room) (PR D ca zz [.int p0] sz []) (QI D ca r [] (va_A [] sz)) 0 0 (va_A [] sz) := by
  refine en (y := yX5_isBlank) (wsm := wq_X5_isBlank) (av := [.int p0]) (cc := cX5_isBlank) (maxL := 1) (ret := (some .boolean)) (Qf := fun A => QI D ca r [] A) (by decide) rfl (Nat.le_of_ble_eq_true rfl) ?_
  intro p e s m args below meth c A Q ls hx hb hr hml hown hts hlocks hnm hA hN hZ hK hQ hP hD hS hl
  unfold f_X5_isBlank at hf
  refine lv_iload_n hx hb dX5_isBlank_0 rfl (lv_at hl 0 rfl) ?_
  refine lv_bipush (v := 32) hx hb dX5_isBlank_1 rfl ?_
  refine xc_eq (tgt := 12) hx hb dX5_isBlank_3 (by decide) hf (fun hf => ?_) (fun hf => ?_)
  · refine lv_iconst (v := 1) hx hb dX5_isBlank_12 rfl ?_
    refine lv_goto (tgt := 17) hx hb dX5_isBlank_13 (by decide) ?_
    cases hf
    exact rt_Z hx hb hr hlocks hK hP hD hS hQ (Or.inr rfl) rfl rfl dX5_isBlank_17
  · refine lv_iload_n hx hb dX5_isBlank_6 rfl (lv_at hl 0 rfl) ?_
    refine lv_bipush (v := 10) hx hb dX5_isBlank_7 rfl ?_
    refine xc_ne (tgt := 16) hx hb dX5_isBlank_9 (by decide) hf (fun hf => ?_) (fun hf => ?_)
    · refine lv_iconst (v := 0) hx hb dX5_isBlank_16 rfl ?_
      cases hf
      exact rt_Z hx hb hr hlocks hK hP hD hS hQ (Or.inl rfl) rfl rfl dX5_isBlank_17
    · refine lv_iconst (v := 1) hx hb dX5_isBlank_12 rfl ?_
      refine lv_goto (tgt := 17) hx hb dX5_isBlank_13 (by decide) ?_
      cases hf
      exact rt_Z hx hb hr hlocks hK hP hD hS hQ (Or.inr rfl) rfl rfl dX5_isBlank_17
abbrev wq_X5_isLetter : List Cond := Cond.code yX5_isLetter cX5_isLetter 1 (some .boolean) :: GL
set_option maxHeartbeats 4000000 in
set_option maxRecDepth 100000 in
theorem c_X5_isLetter (l : Launch) (D : va_G) (ca : Nat → ClassId) (zz : Nat → Nat) (sz : Nat) (p0 : Int32) (r : Int32) (hf : f_X5_isLetter p0 = some r) : Met l yX5_isLetter wq_X5_isLetter ({ frames := 0, cells := 0, slots := 0, locals := 0 } : Room) (PR D ca zz [.int p0] sz []) (QI D ca r [] (va_A [] sz)) 0 0 (va_A [] sz) := by
  refine en (y := yX5_isLetter) (wsm := wq_X5_isLetter) (av := [.int p0]) (cc := cX5_isLetter) (maxL := 1) (ret := (some .boolean)) (Qf := fun A => QI D ca r [] A) (by decide) rfl (Nat.le_of_ble_eq_true rfl) ?_
  intro p e s m args below meth c A Q ls hx hb hr hml hown hts hlocks hnm hA hN hZ hK hQ hP hD hS hl
  unfold f_X5_isLetter at hf
  refine lv_iload_n hx hb dX5_isLetter_0 rfl (lv_at hl 0 rfl) ?_
  refine lv_bipush (v := 97) hx hb dX5_isLetter_1 rfl ?_
  refine xc_lt (tgt := 16) hx hb dX5_isLetter_3 (by decide) hf (fun hf => ?_) (fun hf => ?_)
  · refine lv_iconst (v := 0) hx hb dX5_isLetter_16 rfl ?_
    cases hf
    exact rt_Z hx hb hr hlocks hK hP hD hS hQ (Or.inl rfl) rfl rfl dX5_isLetter_17
  · refine lv_iload_n hx hb dX5_isLetter_6 rfl (lv_at hl 0 rfl) ?_
    refine lv_bipush (v := 122) hx hb dX5_isLetter_7 rfl ?_
    refine xc_gt (tgt := 16) hx hb dX5_isLetter_9 (by decide) hf (fun hf => ?_) (fun hf => ?_)
    · refine lv_iconst (v := 0) hx hb dX5_isLetter_16 rfl ?_
      cases hf
      exact rt_Z hx hb hr hlocks hK hP hD hS hQ (Or.inl rfl) rfl rfl dX5_isLetter_17
    · refine lv_iconst (v := 1) hx hb dX5_isLetter_12 rfl ?_
      refine lv_goto (tgt := 17) hx hb dX5_isLetter_13 (by decide) ?_
      cases hf
      exact rt_Z hx hb hr hlocks hK hP hD hS hQ (Or.inr rfl) rfl rfl dX5_isLetter_17
abbrev wq_X5_passWord : List Cond := Cond.code yX5_passWord cX5_passWord 2 none :: GL
set_option maxHeartbeats 4000000 in
set_option maxRecDepth 100000 in
theorem c_X5_passWord (l : Launch) (D : va_G) (ca : Nat → ClassId) (zz : Nat → Nat) (a0 a1 a6 b0 b1 : Nat) (sz : Nat) (v0 : V5) (v1 : V9) (v0' : V5) (hf : f_X5_passWord v0 v1 = some v0') : Met l yX5_passWord wq_X5_passWord ({ frames := 1, cells := 0, slots := 0, locals := 21 } : Room) (PR D ca zz [.ref a0, .ref b0] sz [(a0, .inr (5, [.ref a1, .ref a6, .int v0.2.2.1, .int v0.2.2.2.1, .int v0.2.2.2.2.1, .int v0.2.2.2.2.2.1, .int v0.2.2.2.2.2.2.1, .int v0.2.2.2.2.2.2.2])), (b0, .inr (9, [.ref b1, .int v1.2.1, .int v1.2.2.1, .int v1.2.2.2])), (b1, .inl (ca 0, 300, .inl v1.1))]) (QV D ca [(a0, .inr (5, [.ref a1, .ref a6, .int v0'.2.2.1, .int v0'.2.2.2.1, .int v0'.2.2.2.2.1, .int v0'.2.2.2.2.2.1, .int v0'.2.2.2.2.2.2.1, .int v0'.2.2.2.2.2.2.2])), (b0, .inr (9, [.ref b1, .int v1.2.1, .int v1.2.2.1, .int v1.2.2.2])), (b1, .inl (ca 0, 300, .inl v1.1))] (va_A [(a0, .inr (5, [.ref a1, .ref a6, .int v0.2.2.1, .int v0.2.2.2.1, .int v0.2.2.2.2.1, .int v0.2.2.2.2.2.1, .int v0.2.2.2.2.2.2.1, .int v0.2.2.2.2.2.2.2])), (b0, .inr (9, [.ref b1, .int v1.2.1, .int v1.2.2.1, .int v1.2.2.2])), (b1, .inl (ca 0, 300, .inl v1.1))] sz)) 0 0 (va_A [(a0, .inr (5, [.ref a1, .ref a6, .int v0.2.2.1, .int v0.2.2.2.1, .int v0.2.2.2.2.1, .int v0.2.2.2.2.2.1, .int v0.2.2.2.2.2.2.1, .int v0.2.2.2.2.2.2.2])), (b0, .inr (9, [.ref b1, .int v1.2.1, .int v1.2.2.1, .int v1.2.2.2])), (b1, .inl (ca 0, 300, .inl v1.1))] sz) := by
  refine en (y := yX5_passWord) (wsm := wq_X5_passWord) (av := [.ref a0, .ref b0]) (cc := cX5_passWord) (maxL := 2) (ret := none) (Qf := fun A => QV D ca [(a0, .inr (5, [.ref a1, .ref a6, .int v0'.2.2.1, .int v0'.2.2.2.1, .int v0'.2.2.2.2.1, .int v0'.2.2.2.2.2.1, .int v0'.2.2.2.2.2.2.1, .int v0'.2.2.2.2.2.2.2])), (b0, .inr (9, [.ref b1, .int v1.2.1, .int v1.2.2.1, .int v1.2.2.2])), (b1, .inl (ca 0, 300, .inl v1.1))] A) (by decide) rfl (Nat.le_of_ble_eq_true rfl) ?_
  intro p e s m args below meth c A Q ls hx hb hr hml hown hts hlocks hnm hA hN hZ hK hQ hP hD hS hl
  have w0 := hts _ (List.mem_cons_of_mem _ gw_2_134)
  have w1 := hts _ (List.mem_cons_of_mem _ gw_2_135)
  have nw30 := NW.use (args := args) (w := .fieldLinkNest RX5 84 "NoiseWatch$Text" "size" "I" "NoiseWatch") hN 30 rfl
  have i5 : ∀ w ∈ u_ws RX5 TX5 8, w ∈ wq_X5_passWord := fun w h => List.mem_cons_of_mem _ (inX5 w h)
  have i9 : ∀ w ∈ u_ws RX9 TX9 4, w ∈ wq_X5_passWord := fun w h => List.mem_cons_of_mem _ (inX9 w h)
  have bl0 : ∀ (k0 : V5 → Option (V5)) (q0 : ∀ (v0 : V5), k0 v0 = some v0' → ∀ (H : Heap) (locs : List Loc) (ls : Array Slot), va_P D vwCl [(a0, .inr (5, [.ref a1, .ref a6, .int v0.2.2.1, .int v0.2.2.2.1, .int v0.2.2.2.2.1, .int v0.2.2.2.2.2.1, .int v0.2.2.2.2.2.2.1, .int v0.2.2.2.2.2.2.2])), (b0, .inr (9, [.ref b1, .int v1.2.1, .int v1.2.2.1, .int v1.2.2.2])), (b1, .inl (ca 0, 300, .inl v1.1))] H → va_D A [(a0, .inr (5, [.ref a1, .ref a6, .int v0.2.2.1, .int v0.2.2.2.1, .int v0.2.2.2.2.1, .int v0.2.2.2.2.2.1, .int v0.2.2.2.2.2.2.1, .int v0.2.2.2.2.2.2.2])), (b0, .inr (9, [.ref b1, .int v1.2.1, .int v1.2.2.1, .int v1.2.2.2])), (b1, .inl (ca 0, 300, .inl v1.1))] → va_S A s.heap H locs → lv_has ls 2 [(0, .ref a0), (1, .ref b0)] → W p l e ({ frames := 1, cells := 0, slots := 0, locals := 21 } : Room) s m args below meth c H locs 0 0 Q (F0 m 0 ls [])) (v0 : V5), fl_X5_passWord_0 v1 k0 v0 = some v0' → ∀ (H : Heap) (locs : List Loc) (ls : Array Slot), va_P D vwCl [(a0, .inr (5, [.ref a1, .ref a6, .int v0.2.2.1, .int v0.2.2.2.1, .int v0.2.2.2.2.1, .int v0.2.2.2.2.2.1, .int v0.2.2.2.2.2.2.1, .int v0.2.2.2.2.2.2.2])), (b0, .inr (9, [.ref b1, .int v1.2.1, .int v1.2.2.1, .int v1.2.2.2])), (b1, .inl (ca 0, 300, .inl v1.1))] H → va_D A [(a0, .inr (5, [.ref a1, .ref a6, .int v0.2.2.1, .int v0.2.2.2.1, .int v0.2.2.2.2.1, .int v0.2.2.2.2.2.1, .int v0.2.2.2.2.2.2.1, .int v0.2.2.2.2.2.2.2])), (b0, .inr (9, [.ref b1, .int v1.2.1, .int v1.2.2.1, .int v1.2.2.2])), (b1, .inl (ca 0, 300, .inl v1.1))] → va_S A s.heap H locs → lv_has ls 2 [(0, .ref a0), (1, .ref b0)] → W p l e ({ frames := 1, cells := 0, slots := 0, locals := 21 } : Room) s m args below meth c H locs 0 0 Q (F0 m 0 ls []) := by
    intro k0 q0 v0 hf H locs ls hP hD hS hl
    unfold fl_X5_passWord_0 at hf
    refine lv_aload_n hx hb dX5_passWord_0 rfl (lv_at hl 0 rfl) ?_
    refine va_get (C := RX5) (T := TX5) (N := 8) hx hb hts i5 hown hK hP 0 rfl rfl 2 (Nat.le_of_ble_eq_true rfl) w0 (fun _ h9 => h9) rfl dX5_passWord_1 ?_
    refine lv_aload_n hx hb dX5_passWord_4 rfl (lv_at hl 1 rfl) ?_
    refine va_getN (C := RX9) (T := TX9) (N := 4) hx hb hts i9 hown hK hP 1 rfl rfl 1 (Nat.le_of_ble_eq_true rfl) nw30 (fun _ h9 => h9) rfl dX5_passWord_5 ?_
    refine xc_ge (tgt := 38) hx hb dX5_passWord_8 (by decide) hf (fun hf => ?_) (fun hf => ?_)
    · refine lv_aload_n hx hb dX5_passWord_38 rfl (lv_at hl 0 rfl) ?_
      refine lv_iconst (v := 1) hx hb dX5_passWord_39 rfl ?_
      refine xput (C := RX5) (T := TX5) (N := 8) (wx := [(a0, .inr (5, [.ref a1, .ref a6, .int v0.2.2.1, .int (1 : Int32), .int v0.2.2.2.2.1, .int v0.2.2.2.2.2.1, .int v0.2.2.2.2.2.2.1, .int v0.2.2.2.2.2.2.2])), (b0, .inr (9, [.ref b1, .int v1.2.1, .int v1.2.2.1, .int v1.2.2.2])), (b1, .inl (ca 0, 300, .inl v1.1))]) hx hb hts i5 tyX5 tyX5_ok nmX5 hown hK hP hD hS 0 rfl rfl 3 (Nat.le_of_ble_eq_true rfl) w1 (fun _ h9 => h9) rfl rfl rfl rfl (Nat.le_of_ble_eq_true rfl) dX5_passWord_40 rfl (fun H locs hP hD hS => ?_)
      cases hf
      exact rt_V hx hb hr hlocks hK hP hD hS hQ rfl dX5_passWord_43
    · refine lv_aload_n hx hb dX5_passWord_11 rfl (lv_at hl 1 rfl) ?_
      refine lv_aload_n hx hb dX5_passWord_12 rfl (lv_at hl 0 rfl) ?_
      refine va_get (C := RX5) (T := TX5) (N := 8) hx hb hts i5 hown hK hP 0 rfl rfl 2 (Nat.le_of_ble_eq_true rfl) w0 (fun _ h9 => h9) rfl dX5_passWord_13 ?_
      obtain ⟨r_1, hc1, hf⟩ := bnd1_el hf
      refine xV_I (As := [.int v0.2.2.1]) (wx := [(a0, .inr (5, [.ref a1, .ref a6, .int v0.2.2.1, .int v0.2.2.2.1, .int v0.2.2.2.2.1, .int v0.2.2.2.2.2.1, .int v0.2.2.2.2.2.2.1, .int v0.2.2.2.2.2.2.2])), (b0, .inr (9, [.ref b1, .int v1.2.1, .int v1.2.2.1, .int v1.2.2.2])), (b1, .inl (ca 0, 300, .inl v1.1))]) ⟨hx, hb, hml, hown, hts⟩ (c_X9_byteAt l D ca zz b0 b1 _ v1 v0.2.2.1 r_1 hc1) (cwV 1 hts (gV gw_3_3 gw_3_4 gw_3_5 gw_1_10 gw_3_6) rfl rfl rfl (by decide +kernel) ⟨(Nat.le_of_ble_eq_true rfl), (Nat.le_of_ble_eq_true rfl)⟩) hK hN hZ hA hP hD hS [1, 2] rfl rfl rfl rfl 1 rfl rfl hl.1 rfl (Nat.le_of_ble_eq_true rfl) dX5_passWord_16 ⟨Nat.zero_le _, Nat.zero_le _⟩ rfl (fun H locs hP hD hS => ?_)
      obtain ⟨r_2, hc2, hf⟩ := bnd1_el hf
      refine xS_I (As := [.int r_1]) (wx := [(a0, .inr (5, [.ref a1, .ref a6, .int v0.2.2.1, .int v0.2.2.2.1, .int v0.2.2.2.2.1, .int v0.2.2.2.2.2.1, .int v0.2.2.2.2.2.2.1, .int v0.2.2.2.2.2.2.2])), (b0, .inr (9, [.ref b1, .int v1.2.1, .int v1.2.2.1, .int v1.2.2.2])), (b1, .inl (ca 0, 300, .inl v1.1))]) ⟨hx, hb, hml, hown, hts⟩ (c_X5_isLetter l D ca zz  _ r_1 r_2 hc2) (va_cwS 1 hts (gS gw_3_10 gw_3_11 gw_1_13 gw_3_12) rfl rfl rfl (by decide +kernel) ⟨(Nat.le_of_ble_eq_true rfl), (Nat.le_of_ble_eq_true rfl)⟩) hK hN hZ hA hP hD hS [] rfl rfl rfl rfl hl.1 rfl (Nat.le_of_ble_eq_true rfl) dX5_passWord_19 ⟨Nat.zero_le _, Nat.zero_le _⟩ rfl (fun H locs hP hD hS => ?_)
      refine xi_eq (tgt := 38) hx hb dX5_passWord_22 (by decide) hf (fun hf => ?_) (fun hf => ?_)
      · refine lv_aload_n hx hb dX5_passWord_38 rfl (lv_at hl 0 rfl) ?_
        refine lv_iconst (v := 1) hx hb dX5_passWord_39 rfl ?_
        refine xput (C := RX5) (T := TX5) (N := 8) (wx := [(a0, .inr (5, [.ref a1, .ref a6, .int v0.2.2.1, .int (1 : Int32), .int v0.2.2.2.2.1, .int v0.2.2.2.2.2.1, .int v0.2.2.2.2.2.2.1, .int v0.2.2.2.2.2.2.2])), (b0, .inr (9, [.ref b1, .int v1.2.1, .int v1.2.2.1, .int v1.2.2.2])), (b1, .inl (ca 0, 300, .inl v1.1))]) hx hb hts i5 tyX5 tyX5_ok nmX5 hown hK hP hD hS 0 rfl rfl 3 (Nat.le_of_ble_eq_true rfl) w1 (fun _ h9 => h9) rfl rfl rfl rfl (Nat.le_of_ble_eq_true rfl) dX5_passWord_40 rfl (fun H locs hP hD hS => ?_)
        cases hf
        exact rt_V hx hb hr hlocks hK hP hD hS hQ rfl dX5_passWord_43
      · refine lv_aload_n hx hb dX5_passWord_25 rfl (lv_at hl 0 rfl) ?_
        refine lv_dup hx hb dX5_passWord_26 rfl ?_
        refine va_get (C := RX5) (T := TX5) (N := 8) hx hb hts i5 hown hK hP 0 rfl rfl 2 (Nat.le_of_ble_eq_true rfl) w0 (fun _ h9 => h9) rfl dX5_passWord_27 ?_
        refine lv_iconst (v := 1) hx hb dX5_passWord_30 rfl ?_
        refine lv_iadd hx hb dX5_passWord_31 ?_
        refine xnm hf (fun x_3 hf => ?_)
        refine xput (C := RX5) (T := TX5) (N := 8) (wx := [(a0, .inr (5, [.ref a1, .ref a6, .int x_3, .int v0.2.2.2.1, .int v0.2.2.2.2.1, .int v0.2.2.2.2.2.1, .int v0.2.2.2.2.2.2.1, .int v0.2.2.2.2.2.2.2])), (b0, .inr (9, [.ref b1, .int v1.2.1, .int v1.2.2.1, .int v1.2.2.2])), (b1, .inl (ca 0, 300, .inl v1.1))]) hx hb hts i5 tyX5 tyX5_ok nmX5 hown hK hP hD hS 0 rfl rfl 2 (Nat.le_of_ble_eq_true rfl) w0 (fun _ h9 => h9) rfl rfl rfl rfl (Nat.le_of_ble_eq_true rfl) dX5_passWord_32 rfl (fun H locs hP hD hS => ?_)
        refine lv_goto (tgt := 0) hx hb dX5_passWord_35 (by decide) ?_
        exact q0 ((v0.1, v0.2.1, x_3, v0.2.2.2)) hf _ _ _ hP hD hS (lv_sub hl [0, 1] rfl)
  have b0 : ∀ (n : Nat) (v0 : V5), fb_X5_passWord_0 v1 n v0 = some v0' → ∀ (H : Heap) (locs : List Loc) (ls : Array Slot), va_P D vwCl [(a0, .inr (5, [.ref a1, .ref a6, .int v0.2.2.1, .int v0.2.2.2.1, .int v0.2.2.2.2.1, .int v0.2.2.2.2.2.1, .int v0.2.2.2.2.2.2.1, .int v0.2.2.2.2.2.2.2])), (b0, .inr (9, [.ref b1, .int v1.2.1, .int v1.2.2.1, .int v1.2.2.2])), (b1, .inl (ca 0, 300, .inl v1.1))] H → va_D A [(a0, .inr (5, [.ref a1, .ref a6, .int v0.2.2.1, .int v0.2.2.2.1, .int v0.2.2.2.2.1, .int v0.2.2.2.2.2.1, .int v0.2.2.2.2.2.2.1, .int v0.2.2.2.2.2.2.2])), (b0, .inr (9, [.ref b1, .int v1.2.1, .int v1.2.2.1, .int v1.2.2.2])), (b1, .inl (ca 0, 300, .inl v1.1))] → va_S A s.heap H locs → lv_has ls 2 [(0, .ref a0), (1, .ref b0)] → W p l e ({ frames := 1, cells := 0, slots := 0, locals := 21 } : Room) s m args below meth c H locs 0 0 Q (F0 m 0 ls []) := by
    intro n
    induction n with
    | zero => intro v0 hf; exact no_el hf
    | succ n ih => exact bl0 (fb_X5_passWord_0 v1 n) ih
  unfold f_X5_passWord at hf
  exact b0 FU v0 hf _ _ _ hP hD hS (lv_sub hl [0, 1] rfl)
abbrev wq_X5_isDigit : List Cond := Cond.code yX5_isDigit cX5_isDigit 1 (some .boolean) :: GL
set_option maxHeartbeats 4000000 in
set_option maxRecDepth 100000 in
theorem c_X5_isDigit (l : Launch) (D : va_G) (ca : Nat → ClassId) (zz : Nat → Nat) (sz : Nat) (p0 : Int32) (r : Int32) (hf : f_X5_isDigit p0 = some r) : Met l yX5_isDigit wq_X5_isDigit ({ frames := 0, cells := 0, slots := 0, locals := 0 } : Room) (PR D ca zz [.int p0] sz []) (QI D ca r [] (va_A [] sz)) 0 0 (va_A [] sz) := by
  refine en (y := yX5_isDigit) (wsm := wq_X5_isDigit) (av := [.int p0]) (cc := cX5_isDigit) (maxL := 1) (ret := (some .boolean)) (Qf := fun A => QI D ca r [] A) (by decide) rfl (Nat.le_of_ble_eq_true rfl) ?_
  intro p e s m args below meth c A Q ls hx hb hr hml hown hts hlocks hnm hA hN hZ hK hQ hP hD hS hl
  unfold f_X5_isDigit at hf
  refine lv_iload_n hx hb dX5_isDigit_0 rfl (lv_at hl 0 rfl) ?_
  refine lv_bipush (v := 48) hx hb dX5_isDigit_1 rfl ?_
  refine xc_lt (tgt := 16) hx hb dX5_isDigit_3 (by decide) hf (fun hf => ?_) (fun hf => ?_)
  · refine lv_iconst (v := 0) hx hb dX5_isDigit_16 rfl ?_
    cases hf
    exact rt_Z hx hb hr hlocks hK hP hD hS hQ (Or.inl rfl) rfl rfl dX5_isDigit_17
  · refine lv_iload_n hx hb dX5_isDigit_6 rfl (lv_at hl 0 rfl) ?_
    refine lv_bipush (v := 57) hx hb dX5_isDigit_7 rfl ?_
    refine xc_gt (tgt := 16) hx hb dX5_isDigit_9 (by decide) hf (fun hf => ?_) (fun hf => ?_)
    · refine lv_iconst (v := 0) hx hb dX5_isDigit_16 rfl ?_
      cases hf
      exact rt_Z hx hb hr hlocks hK hP hD hS hQ (Or.inl rfl) rfl rfl dX5_isDigit_17
    · refine lv_iconst (v := 1) hx hb dX5_isDigit_12 rfl ?_
      refine lv_goto (tgt := 17) hx hb dX5_isDigit_13 (by decide) ?_
      cases hf
      exact rt_Z hx hb hr hlocks hK hP hD hS hQ (Or.inr rfl) rfl rfl dX5_isDigit_17
abbrev wq_X5_passNumber : List Cond := Cond.code yX5_passNumber cX5_passNumber 2 none :: GL
set_option maxHeartbeats 4000000 in
set_option maxRecDepth 100000 in
theorem c_X5_passNumber (l : Launch) (D : va_G) (ca : Nat → ClassId) (zz : Nat → Nat) (a0 a1 a6 b0 b1 : Nat) (sz : Nat) (v0 : V5) (v1 : V9) (v0' : V5) (hf : f_X5_passNumber v0 v1 = some v0') : Met l yX5_passNumber wq_X5_passNumber ({ frames := 1, cells := 0, slots := 0, locals := 21 } : Room) (PR D ca zz [.ref a0, .ref b0] sz [(a0, .inr (5, [.ref a1, .ref a6, .int v0.2.2.1, .int v0.2.2.2.1, .int v0.2.2.2.2.1, .int v0.2.2.2.2.2.1, .int v0.2.2.2.2.2.2.1, .int v0.2.2.2.2.2.2.2])), (b0, .inr (9, [.ref b1, .int v1.2.1, .int v1.2.2.1, .int v1.2.2.2])), (b1, .inl (ca 0, 300, .inl v1.1))]) (QV D ca [(a0, .inr (5, [.ref a1, .ref a6, .int v0'.2.2.1, .int v0'.2.2.2.1, .int v0'.2.2.2.2.1, .int v0'.2.2.2.2.2.1, .int v0'.2.2.2.2.2.2.1, .int v0'.2.2.2.2.2.2.2])), (b0, .inr (9, [.ref b1, .int v1.2.1, .int v1.2.2.1, .int v1.2.2.2])), (b1, .inl (ca 0, 300, .inl v1.1))] (va_A [(a0, .inr (5, [.ref a1, .ref a6, .int v0.2.2.1, .int v0.2.2.2.1, .int v0.2.2.2.2.1, .int v0.2.2.2.2.2.1, .int v0.2.2.2.2.2.2.1, .int v0.2.2.2.2.2.2.2])), (b0, .inr (9, [.ref b1, .int v1.2.1, .int v1.2.2.1, .int v1.2.2.2])), (b1, .inl (ca 0, 300, .inl v1.1))] sz)) 0 0 (va_A [(a0, .inr (5, [.ref a1, .ref a6, .int v0.2.2.1, .int v0.2.2.2.1, .int v0.2.2.2.2.1, .int v0.2.2.2.2.2.1, .int v0.2.2.2.2.2.2.1, .int v0.2.2.2.2.2.2.2])), (b0, .inr (9, [.ref b1, .int v1.2.1, .int v1.2.2.1, .int v1.2.2.2])), (b1, .inl (ca 0, 300, .inl v1.1))] sz) := by
  refine en (y := yX5_passNumber) (wsm := wq_X5_passNumber) (av := [.ref a0, .ref b0]) (cc := cX5_passNumber) (maxL := 2) (ret := none) (Qf := fun A => QV D ca [(a0, .inr (5, [.ref a1, .ref a6, .int v0'.2.2.1, .int v0'.2.2.2.1, .int v0'.2.2.2.2.1, .int v0'.2.2.2.2.2.1, .int v0'.2.2.2.2.2.2.1, .int v0'.2.2.2.2.2.2.2])), (b0, .inr (9, [.ref b1, .int v1.2.1, .int v1.2.2.1, .int v1.2.2.2])), (b1, .inl (ca 0, 300, .inl v1.1))] A) (by decide) rfl (Nat.le_of_ble_eq_true rfl) ?_
  intro p e s m args below meth c A Q ls hx hb hr hml hown hts hlocks hnm hA hN hZ hK hQ hP hD hS hl
  have w0 := hts _ (List.mem_cons_of_mem _ gw_2_137)
  have w1 := hts _ (List.mem_cons_of_mem _ gw_2_134)
  have w2 := hts _ (List.mem_cons_of_mem _ gw_2_136)
  have w3 := hts _ (List.mem_cons_of_mem _ gw_2_135)
  have nw30 := NW.use (args := args) (w := .fieldLinkNest RX5 84 "NoiseWatch$Text" "size" "I" "NoiseWatch") hN 30 rfl
  have i5 : ∀ w ∈ u_ws RX5 TX5 8, w ∈ wq_X5_passNumber := fun w h => List.mem_cons_of_mem _ (inX5 w h)
  have i9 : ∀ w ∈ u_ws RX9 TX9 4, w ∈ wq_X5_passNumber := fun w h => List.mem_cons_of_mem _ (inX9 w h)
  have b79 : ∀ (v0 : V5), fc_X5_passNumber_79 v1 v0 = some v0' → ∀ (H : Heap) (locs : List Loc) (ls : Array Slot), va_P D vwCl [(a0, .inr (5, [.ref a1, .ref a6, .int v0.2.2.1, .int v0.2.2.2.1, .int v0.2.2.2.2.1, .int v0.2.2.2.2.2.1, .int v0.2.2.2.2.2.2.1, .int v0.2.2.2.2.2.2.2])), (b0, .inr (9, [.ref b1, .int v1.2.1, .int v1.2.2.1, .int v1.2.2.2])), (b1, .inl (ca 0, 300, .inl v1.1))] H → va_D A [(a0, .inr (5, [.ref a1, .ref a6, .int v0.2.2.1, .int v0.2.2.2.1, .int v0.2.2.2.2.1, .int v0.2.2.2.2.2.1, .int v0.2.2.2.2.2.2.1, .int v0.2.2.2.2.2.2.2])), (b0, .inr (9, [.ref b1, .int v1.2.1, .int v1.2.2.1, .int v1.2.2.2])), (b1, .inl (ca 0, 300, .inl v1.1))] → va_S A s.heap H locs → lv_has ls 2 [(0, .ref a0)] → W p l e ({ frames := 1, cells := 0, slots := 0, locals := 21 } : Room) s m args below meth c H locs 0 0 Q (F0 m 79 ls []) := by
    intro v0 hf H locs ls hP hD hS hl
    unfold fc_X5_passNumber_79 at hf
    refine lv_aload_n hx hb dX5_passNumber_79 rfl (lv_at hl 0 rfl) ?_
    refine lv_aload_n hx hb dX5_passNumber_80 rfl (lv_at hl 0 rfl) ?_
    refine va_get (C := RX5) (T := TX5) (N := 8) hx hb hts i5 hown hK hP 0 rfl rfl 2 (Nat.le_of_ble_eq_true rfl) w1 (fun _ h9 => h9) rfl dX5_passNumber_81 ?_
    refine lv_aload_n hx hb dX5_passNumber_84 rfl (lv_at hl 0 rfl) ?_
    refine va_get (C := RX5) (T := TX5) (N := 8) hx hb hts i5 hown hK hP 0 rfl rfl 4 (Nat.le_of_ble_eq_true rfl) w2 (fun _ h9 => h9) rfl dX5_passNumber_85 ?_
    refine lv_isub hx hb dX5_passNumber_88 ?_
    refine lv_iconst (v := 4) hx hb dX5_passNumber_89 rfl ?_
    refine xc_gt (tgt := 97) hx hb dX5_passNumber_90 (by decide) hf (fun hf => ?_) (fun hf => ?_)
    · refine lv_iconst (v := 4) hx hb dX5_passNumber_97 rfl ?_
      refine xput (C := RX5) (T := TX5) (N := 8) (wx := [(a0, .inr (5, [.ref a1, .ref a6, .int v0.2.2.1, .int (4 : Int32), .int v0.2.2.2.2.1, .int v0.2.2.2.2.2.1, .int v0.2.2.2.2.2.2.1, .int v0.2.2.2.2.2.2.2])), (b0, .inr (9, [.ref b1, .int v1.2.1, .int v1.2.2.1, .int v1.2.2.2])), (b1, .inl (ca 0, 300, .inl v1.1))]) hx hb hts i5 tyX5 tyX5_ok nmX5 hown hK hP hD hS 0 rfl rfl 3 (Nat.le_of_ble_eq_true rfl) w3 (fun _ h9 => h9) rfl rfl rfl rfl (Nat.le_of_ble_eq_true rfl) dX5_passNumber_98 rfl (fun H locs hP hD hS => ?_)
      cases hf
      exact rt_V hx hb hr hlocks hK hP hD hS hQ rfl dX5_passNumber_101
    · refine lv_iconst (v := 2) hx hb dX5_passNumber_93 rfl ?_
      refine lv_goto (tgt := 98) hx hb dX5_passNumber_94 (by decide) ?_
      refine xput (C := RX5) (T := TX5) (N := 8) (wx := [(a0, .inr (5, [.ref a1, .ref a6, .int v0.2.2.1, .int (2 : Int32), .int v0.2.2.2.2.1, .int v0.2.2.2.2.2.1, .int v0.2.2.2.2.2.2.1, .int v0.2.2.2.2.2.2.2])), (b0, .inr (9, [.ref b1, .int v1.2.1, .int v1.2.2.1, .int v1.2.2.2])), (b1, .inl (ca 0, 300, .inl v1.1))]) hx hb hts i5 tyX5 tyX5_ok nmX5 hown hK hP hD hS 0 rfl rfl 3 (Nat.le_of_ble_eq_true rfl) w3 (fun _ h9 => h9) rfl rfl rfl rfl (Nat.le_of_ble_eq_true rfl) dX5_passNumber_98 rfl (fun H locs hP hD hS => ?_)
      cases hf
      exact rt_V hx hb hr hlocks hK hP hD hS hQ rfl dX5_passNumber_101
  have bl5 : ∀ (k5 : V5 → Option (V5)) (q5 : ∀ (v0 : V5), k5 v0 = some v0' → ∀ (H : Heap) (locs : List Loc) (ls : Array Slot), va_P D vwCl [(a0, .inr (5, [.ref a1, .ref a6, .int v0.2.2.1, .int v0.2.2.2.1, .int v0.2.2.2.2.1, .int v0.2.2.2.2.2.1, .int v0.2.2.2.2.2.2.1, .int v0.2.2.2.2.2.2.2])), (b0, .inr (9, [.ref b1, .int v1.2.1, .int v1.2.2.1, .int v1.2.2.2])), (b1, .inl (ca 0, 300, .inl v1.1))] H → va_D A [(a0, .inr (5, [.ref a1, .ref a6, .int v0.2.2.1, .int v0.2.2.2.1, .int v0.2.2.2.2.1, .int v0.2.2.2.2.2.1, .int v0.2.2.2.2.2.2.1, .int v0.2.2.2.2.2.2.2])), (b0, .inr (9, [.ref b1, .int v1.2.1, .int v1.2.2.1, .int v1.2.2.2])), (b1, .inl (ca 0, 300, .inl v1.1))] → va_S A s.heap H locs → lv_has ls 2 [(0, .ref a0), (1, .ref b0)] → W p l e ({ frames := 1, cells := 0, slots := 0, locals := 21 } : Room) s m args below meth c H locs 0 0 Q (F0 m 5 ls [])) (v0 : V5), fl_X5_passNumber_5 v1 k5 v0 = some v0' → ∀ (H : Heap) (locs : List Loc) (ls : Array Slot), va_P D vwCl [(a0, .inr (5, [.ref a1, .ref a6, .int v0.2.2.1, .int v0.2.2.2.1, .int v0.2.2.2.2.1, .int v0.2.2.2.2.2.1, .int v0.2.2.2.2.2.2.1, .int v0.2.2.2.2.2.2.2])), (b0, .inr (9, [.ref b1, .int v1.2.1, .int v1.2.2.1, .int v1.2.2.2])), (b1, .inl (ca 0, 300, .inl v1.1))] H → va_D A [(a0, .inr (5, [.ref a1, .ref a6, .int v0.2.2.1, .int v0.2.2.2.1, .int v0.2.2.2.2.1, .int v0.2.2.2.2.2.1, .int v0.2.2.2.2.2.2.1, .int v0.2.2.2.2.2.2.2])), (b0, .inr (9, [.ref b1, .int v1.2.1, .int v1.2.2.1, .int v1.2.2.2])), (b1, .inl (ca 0, 300, .inl v1.1))] → va_S A s.heap H locs → lv_has ls 2 [(0, .ref a0), (1, .ref b0)] → W p l e ({ frames := 1, cells := 0, slots := 0, locals := 21 } : Room) s m args below meth c H locs 0 0 Q (F0 m 5 ls []) := by
    intro k5 q5 v0 hf H locs ls hP hD hS hl
    unfold fl_X5_passNumber_5 at hf
    refine lv_aload_n hx hb dX5_passNumber_5 rfl (lv_at hl 0 rfl) ?_
    refine va_get (C := RX5) (T := TX5) (N := 8) hx hb hts i5 hown hK hP 0 rfl rfl 2 (Nat.le_of_ble_eq_true rfl) w1 (fun _ h9 => h9) rfl dX5_passNumber_6 ?_
    refine lv_aload_n hx hb dX5_passNumber_9 rfl (lv_at hl 1 rfl) ?_
    refine va_getN (C := RX9) (T := TX9) (N := 4) hx hb hts i9 hown hK hP 1 rfl rfl 1 (Nat.le_of_ble_eq_true rfl) nw30 (fun _ h9 => h9) rfl dX5_passNumber_10 ?_
    refine xc_ge (tgt := 79) hx hb dX5_passNumber_13 (by decide) hf (fun hf => ?_) (fun hf => ?_)
    · exact b79 v0 hf _ _ _ hP hD hS (lv_sub hl [0] rfl)
    · refine lv_aload_n hx hb dX5_passNumber_16 rfl (lv_at hl 1 rfl) ?_
      refine lv_aload_n hx hb dX5_passNumber_17 rfl (lv_at hl 0 rfl) ?_
      refine va_get (C := RX5) (T := TX5) (N := 8) hx hb hts i5 hown hK hP 0 rfl rfl 2 (Nat.le_of_ble_eq_true rfl) w1 (fun _ h9 => h9) rfl dX5_passNumber_18 ?_
      obtain ⟨r_1, hc1, hf⟩ := bnd1_el hf
      refine xV_I (As := [.int v0.2.2.1]) (wx := [(a0, .inr (5, [.ref a1, .ref a6, .int v0.2.2.1, .int v0.2.2.2.1, .int v0.2.2.2.2.1, .int v0.2.2.2.2.2.1, .int v0.2.2.2.2.2.2.1, .int v0.2.2.2.2.2.2.2])), (b0, .inr (9, [.ref b1, .int v1.2.1, .int v1.2.2.1, .int v1.2.2.2])), (b1, .inl (ca 0, 300, .inl v1.1))]) ⟨hx, hb, hml, hown, hts⟩ (c_X9_byteAt l D ca zz b0 b1 _ v1 v0.2.2.1 r_1 hc1) (cwV 1 hts (gV gw_3_3 gw_3_4 gw_3_5 gw_1_10 gw_3_6) rfl rfl rfl (by decide +kernel) ⟨(Nat.le_of_ble_eq_true rfl), (Nat.le_of_ble_eq_true rfl)⟩) hK hN hZ hA hP hD hS [1, 2] rfl rfl rfl rfl 1 rfl rfl hl.1 rfl (Nat.le_of_ble_eq_true rfl) dX5_passNumber_21 ⟨Nat.zero_le _, Nat.zero_le _⟩ rfl (fun H locs hP hD hS => ?_)
      obtain ⟨r_2, hc2, hf⟩ := bnd1_el hf
      refine xS_I (As := [.int r_1]) (wx := [(a0, .inr (5, [.ref a1, .ref a6, .int v0.2.2.1, .int v0.2.2.2.1, .int v0.2.2.2.2.1, .int v0.2.2.2.2.2.1, .int v0.2.2.2.2.2.2.1, .int v0.2.2.2.2.2.2.2])), (b0, .inr (9, [.ref b1, .int v1.2.1, .int v1.2.2.1, .int v1.2.2.2])), (b1, .inl (ca 0, 300, .inl v1.1))]) ⟨hx, hb, hml, hown, hts⟩ (c_X5_isDigit l D ca zz  _ r_1 r_2 hc2) (va_cwS 1 hts (gS gw_3_17 gw_3_18 gw_1_13 gw_3_19) rfl rfl rfl (by decide +kernel) ⟨(Nat.le_of_ble_eq_true rfl), (Nat.le_of_ble_eq_true rfl)⟩) hK hN hZ hA hP hD hS [] rfl rfl rfl rfl hl.1 rfl (Nat.le_of_ble_eq_true rfl) dX5_passNumber_24 ⟨Nat.zero_le _, Nat.zero_le _⟩ rfl (fun H locs hP hD hS => ?_)
      refine xi_eq (tgt := 79) hx hb dX5_passNumber_27 (by decide) hf (fun hf => ?_) (fun hf => ?_)
      · exact b79 v0 hf _ _ _ hP hD hS (lv_sub hl [0] rfl)
      · refine lv_aload_n hx hb dX5_passNumber_30 rfl (lv_at hl 0 rfl) ?_
        refine va_get (C := RX5) (T := TX5) (N := 8) hx hb hts i5 hown hK hP 0 rfl rfl 2 (Nat.le_of_ble_eq_true rfl) w1 (fun _ h9 => h9) rfl dX5_passNumber_31 ?_
        refine lv_aload_n hx hb dX5_passNumber_34 rfl (lv_at hl 0 rfl) ?_
        refine va_get (C := RX5) (T := TX5) (N := 8) hx hb hts i5 hown hK hP 0 rfl rfl 4 (Nat.le_of_ble_eq_true rfl) w2 (fun _ h9 => h9) rfl dX5_passNumber_35 ?_
        refine lv_isub hx hb dX5_passNumber_38 ?_
        refine lv_iconst (v := 4) hx hb dX5_passNumber_39 rfl ?_
        refine xc_ge (tgt := 66) hx hb dX5_passNumber_40 (by decide) hf (fun hf => ?_) (fun hf => ?_)
        · refine lv_aload_n hx hb dX5_passNumber_66 rfl (lv_at hl 0 rfl) ?_
          refine lv_dup hx hb dX5_passNumber_67 rfl ?_
          refine va_get (C := RX5) (T := TX5) (N := 8) hx hb hts i5 hown hK hP 0 rfl rfl 2 (Nat.le_of_ble_eq_true rfl) w1 (fun _ h9 => h9) rfl dX5_passNumber_68 ?_
          refine lv_iconst (v := 1) hx hb dX5_passNumber_71 rfl ?_
          refine lv_iadd hx hb dX5_passNumber_72 ?_
          refine xnm hf (fun x_3 hf => ?_)
          refine xput (C := RX5) (T := TX5) (N := 8) (wx := [(a0, .inr (5, [.ref a1, .ref a6, .int x_3, .int v0.2.2.2.1, .int v0.2.2.2.2.1, .int v0.2.2.2.2.2.1, .int v0.2.2.2.2.2.2.1, .int v0.2.2.2.2.2.2.2])), (b0, .inr (9, [.ref b1, .int v1.2.1, .int v1.2.2.1, .int v1.2.2.2])), (b1, .inl (ca 0, 300, .inl v1.1))]) hx hb hts i5 tyX5 tyX5_ok nmX5 hown hK hP hD hS 0 rfl rfl 2 (Nat.le_of_ble_eq_true rfl) w1 (fun _ h9 => h9) rfl rfl rfl rfl (Nat.le_of_ble_eq_true rfl) dX5_passNumber_73 rfl (fun H locs hP hD hS => ?_)
          refine lv_goto (tgt := 5) hx hb dX5_passNumber_76 (by decide) ?_
          exact q5 ((v0.1, v0.2.1, x_3, v0.2.2.2)) hf _ _ _ hP hD hS (lv_sub hl [0, 1] rfl)
        · refine lv_aload_n hx hb dX5_passNumber_43 rfl (lv_at hl 0 rfl) ?_
          refine lv_aload_n hx hb dX5_passNumber_44 rfl (lv_at hl 0 rfl) ?_
          refine va_get (C := RX5) (T := TX5) (N := 8) hx hb hts i5 hown hK hP 0 rfl rfl 5 (Nat.le_of_ble_eq_true rfl) w0 (fun _ h9 => h9) rfl dX5_passNumber_45 ?_
          refine lv_bipush (v := 10) hx hb dX5_passNumber_48 rfl ?_
          refine lv_imul hx hb dX5_passNumber_50 ?_
          refine lv_aload_n hx hb dX5_passNumber_51 rfl (lv_at hl 1 rfl) ?_
          refine lv_aload_n hx hb dX5_passNumber_52 rfl (lv_at hl 0 rfl) ?_
          refine va_get (C := RX5) (T := TX5) (N := 8) hx hb hts i5 hown hK hP 0 rfl rfl 2 (Nat.le_of_ble_eq_true rfl) w1 (fun _ h9 => h9) rfl dX5_passNumber_53 ?_
          obtain ⟨r_4, hc4, hf⟩ := bnd1_el hf
          refine xV_I (As := [.int v0.2.2.1]) (wx := [(a0, .inr (5, [.ref a1, .ref a6, .int v0.2.2.1, .int v0.2.2.2.1, .int v0.2.2.2.2.1, .int v0.2.2.2.2.2.1, .int v0.2.2.2.2.2.2.1, .int v0.2.2.2.2.2.2.2])), (b0, .inr (9, [.ref b1, .int v1.2.1, .int v1.2.2.1, .int v1.2.2.2])), (b1, .inl (ca 0, 300, .inl v1.1))]) ⟨hx, hb, hml, hown, hts⟩ (c_X9_byteAt l D ca zz b0 b1 _ v1 v0.2.2.1 r_4 hc4) (cwV 1 hts (gV gw_3_3 gw_3_4 gw_3_5 gw_1_10 gw_3_6) rfl rfl rfl (by decide +kernel) ⟨(Nat.le_of_ble_eq_true rfl), (Nat.le_of_ble_eq_true rfl)⟩) hK hN hZ hA hP hD hS [1, 2] rfl rfl rfl rfl 1 rfl rfl hl.1 rfl (Nat.le_of_ble_eq_true rfl) dX5_passNumber_56 ⟨Nat.zero_le _, Nat.zero_le _⟩ rfl (fun H locs hP hD hS => ?_)
          refine lv_iadd hx hb dX5_passNumber_59 ?_
          refine lv_bipush (v := 48) hx hb dX5_passNumber_60 rfl ?_
          refine lv_isub hx hb dX5_passNumber_62 ?_
          refine xnm hf (fun x_5 hf => ?_)
          refine xput (C := RX5) (T := TX5) (N := 8) (wx := [(a0, .inr (5, [.ref a1, .ref a6, .int v0.2.2.1, .int v0.2.2.2.1, .int v0.2.2.2.2.1, .int x_5, .int v0.2.2.2.2.2.2.1, .int v0.2.2.2.2.2.2.2])), (b0, .inr (9, [.ref b1, .int v1.2.1, .int v1.2.2.1, .int v1.2.2.2])), (b1, .inl (ca 0, 300, .inl v1.1))]) hx hb hts i5 tyX5 tyX5_ok nmX5 hown hK hP hD hS 0 rfl rfl 5 (Nat.le_of_ble_eq_true rfl) w0 (fun _ h9 => h9) rfl rfl rfl rfl (Nat.le_of_ble_eq_true rfl) dX5_passNumber_63 rfl (fun H locs hP hD hS => ?_)
          refine lv_aload_n hx hb dX5_passNumber_66 rfl (lv_at hl 0 rfl) ?_
          refine lv_dup hx hb dX5_passNumber_67 rfl ?_
          refine va_get (C := RX5) (T := TX5) (N := 8) hx hb hts i5 hown hK hP 0 rfl rfl 2 (Nat.le_of_ble_eq_true rfl) w1 (fun _ h9 => h9) rfl dX5_passNumber_68 ?_
          refine lv_iconst (v := 1) hx hb dX5_passNumber_71 rfl ?_
          refine lv_iadd hx hb dX5_passNumber_72 ?_
          refine xnm hf (fun x_6 hf => ?_)
          refine xput (C := RX5) (T := TX5) (N := 8) (wx := [(a0, .inr (5, [.ref a1, .ref a6, .int x_6, .int v0.2.2.2.1, .int v0.2.2.2.2.1, .int x_5, .int v0.2.2.2.2.2.2.1, .int v0.2.2.2.2.2.2.2])), (b0, .inr (9, [.ref b1, .int v1.2.1, .int v1.2.2.1, .int v1.2.2.2])), (b1, .inl (ca 0, 300, .inl v1.1))]) hx hb hts i5 tyX5 tyX5_ok nmX5 hown hK hP hD hS 0 rfl rfl 2 (Nat.le_of_ble_eq_true rfl) w1 (fun _ h9 => h9) rfl rfl rfl rfl (Nat.le_of_ble_eq_true rfl) dX5_passNumber_73 rfl (fun H locs hP hD hS => ?_)
          refine lv_goto (tgt := 5) hx hb dX5_passNumber_76 (by decide) ?_
          exact q5 ((v0.1, v0.2.1, x_6, v0.2.2.2.1, v0.2.2.2.2.1, x_5, v0.2.2.2.2.2.2)) hf _ _ _ hP hD hS (lv_sub hl [0, 1] rfl)
  have b5 : ∀ (n : Nat) (v0 : V5), fb_X5_passNumber_5 v1 n v0 = some v0' → ∀ (H : Heap) (locs : List Loc) (ls : Array Slot), va_P D vwCl [(a0, .inr (5, [.ref a1, .ref a6, .int v0.2.2.1, .int v0.2.2.2.1, .int v0.2.2.2.2.1, .int v0.2.2.2.2.2.1, .int v0.2.2.2.2.2.2.1, .int v0.2.2.2.2.2.2.2])), (b0, .inr (9, [.ref b1, .int v1.2.1, .int v1.2.2.1, .int v1.2.2.2])), (b1, .inl (ca 0, 300, .inl v1.1))] H → va_D A [(a0, .inr (5, [.ref a1, .ref a6, .int v0.2.2.1, .int v0.2.2.2.1, .int v0.2.2.2.2.1, .int v0.2.2.2.2.2.1, .int v0.2.2.2.2.2.2.1, .int v0.2.2.2.2.2.2.2])), (b0, .inr (9, [.ref b1, .int v1.2.1, .int v1.2.2.1, .int v1.2.2.2])), (b1, .inl (ca 0, 300, .inl v1.1))] → va_S A s.heap H locs → lv_has ls 2 [(0, .ref a0), (1, .ref b0)] → W p l e ({ frames := 1, cells := 0, slots := 0, locals := 21 } : Room) s m args below meth c H locs 0 0 Q (F0 m 5 ls []) := by
    intro n
    induction n with
    | zero => intro v0 hf; exact no_el hf
    | succ n ih => exact bl5 (fb_X5_passNumber_5 v1 n) ih
  unfold f_X5_passNumber at hf
  refine lv_aload_n hx hb dX5_passNumber_0 rfl (lv_at hl 0 rfl) ?_
  refine lv_iconst (v := 0) hx hb dX5_passNumber_1 rfl ?_
  refine xput (C := RX5) (T := TX5) (N := 8) (wx := [(a0, .inr (5, [.ref a1, .ref a6, .int v0.2.2.1, .int v0.2.2.2.1, .int v0.2.2.2.2.1, .int (0 : Int32), .int v0.2.2.2.2.2.2.1, .int v0.2.2.2.2.2.2.2])), (b0, .inr (9, [.ref b1, .int v1.2.1, .int v1.2.2.1, .int v1.2.2.2])), (b1, .inl (ca 0, 300, .inl v1.1))]) hx hb hts i5 tyX5 tyX5_ok nmX5 hown hK hP hD hS 0 rfl rfl 5 (Nat.le_of_ble_eq_true rfl) w0 (fun _ h9 => h9) rfl rfl rfl rfl (Nat.le_of_ble_eq_true rfl) dX5_passNumber_2 rfl (fun H locs hP hD hS => ?_)
  exact b5 FU ((v0.1, v0.2.1, v0.2.2.1, v0.2.2.2.1, v0.2.2.2.2.1, (0 : Int32), v0.2.2.2.2.2.2)) hf _ _ _ hP hD hS (lv_sub hl [0, 1] rfl)
abbrev wq_X5_nextToken : List Cond := Cond.code yX5_nextToken cX5_nextToken 3 none :: GL
set_option maxHeartbeats 4000000 in
set_option maxRecDepth 100000 in
theorem c_X5_nextToken (l : Launch) (D : va_G) (ca : Nat → ClassId) (zz : Nat → Nat) (a0 a1 a6 b0 b1 : Nat) (sz : Nat) (v0 : V5) (v1 : V9) (v0' : V5) (hf : f_X5_nextToken v0 v1 = some v0') : Met l yX5_nextToken wq_X5_nextToken ({ frames := 2, cells := 0, slots := 0, locals := 42 } : Room) (PR D ca zz [.ref a0, .ref b0] sz [(a0, .inr (5, [.ref a1, .ref a6, .int v0.2.2.1, .int v0.2.2.2.1, .int v0.2.2.2.2.1, .int v0.2.2.2.2.2.1, .int v0.2.2.2.2.2.2.1, .int v0.2.2.2.2.2.2.2])), (b0, .inr (9, [.ref b1, .int v1.2.1, .int v1.2.2.1, .int v1.2.2.2])), (b1, .inl (ca 0, 300, .inl v1.1))]) (QV D ca [(a0, .inr (5, [.ref a1, .ref a6, .int v0'.2.2.1, .int v0'.2.2.2.1, .int v0'.2.2.2.2.1, .int v0'.2.2.2.2.2.1, .int v0'.2.2.2.2.2.2.1, .int v0'.2.2.2.2.2.2.2])), (b0, .inr (9, [.ref b1, .int v1.2.1, .int v1.2.2.1, .int v1.2.2.2])), (b1, .inl (ca 0, 300, .inl v1.1))] (va_A [(a0, .inr (5, [.ref a1, .ref a6, .int v0.2.2.1, .int v0.2.2.2.1, .int v0.2.2.2.2.1, .int v0.2.2.2.2.2.1, .int v0.2.2.2.2.2.2.1, .int v0.2.2.2.2.2.2.2])), (b0, .inr (9, [.ref b1, .int v1.2.1, .int v1.2.2.1, .int v1.2.2.2])), (b1, .inl (ca 0, 300, .inl v1.1))] sz)) 0 0 (va_A [(a0, .inr (5, [.ref a1, .ref a6, .int v0.2.2.1, .int v0.2.2.2.1, .int v0.2.2.2.2.1, .int v0.2.2.2.2.2.1, .int v0.2.2.2.2.2.2.1, .int v0.2.2.2.2.2.2.2])), (b0, .inr (9, [.ref b1, .int v1.2.1, .int v1.2.2.1, .int v1.2.2.2])), (b1, .inl (ca 0, 300, .inl v1.1))] sz) := by
  refine en (y := yX5_nextToken) (wsm := wq_X5_nextToken) (av := [.ref a0, .ref b0]) (cc := cX5_nextToken) (maxL := 3) (ret := none) (Qf := fun A => QV D ca [(a0, .inr (5, [.ref a1, .ref a6, .int v0'.2.2.1, .int v0'.2.2.2.1, .int v0'.2.2.2.2.1, .int v0'.2.2.2.2.2.1, .int v0'.2.2.2.2.2.2.1, .int v0'.2.2.2.2.2.2.2])), (b0, .inr (9, [.ref b1, .int v1.2.1, .int v1.2.2.1, .int v1.2.2.2])), (b1, .inl (ca 0, 300, .inl v1.1))] A) (by decide) rfl (Nat.le_of_ble_eq_true rfl) ?_
  intro p e s m args below meth c A Q ls hx hb hr hml hown hts hlocks hnm hA hN hZ hK hQ hP hD hS hl
  have w0 := hts _ (List.mem_cons_of_mem _ gw_2_134)
  have w1 := hts _ (List.mem_cons_of_mem _ gw_2_136)
  have w2 := hts _ (List.mem_cons_of_mem _ gw_2_135)
  have nw30 := NW.use (args := args) (w := .fieldLinkNest RX5 84 "NoiseWatch$Text" "size" "I" "NoiseWatch") hN 30 rfl
  have i5 : ∀ w ∈ u_ws RX5 TX5 8, w ∈ wq_X5_nextToken := fun w h => List.mem_cons_of_mem _ (inX5 w h)
  have i9 : ∀ w ∈ u_ws RX9 TX9 4, w ∈ wq_X5_nextToken := fun w h => List.mem_cons_of_mem _ (inX9 w h)
  have b38 : ∀ (v0 : V5), fc_X5_nextToken_38 v1 v0 = some v0' → ∀ (H : Heap) (locs : List Loc) (ls : Array Slot), va_P D vwCl [(a0, .inr (5, [.ref a1, .ref a6, .int v0.2.2.1, .int v0.2.2.2.1, .int v0.2.2.2.2.1, .int v0.2.2.2.2.2.1, .int v0.2.2.2.2.2.2.1, .int v0.2.2.2.2.2.2.2])), (b0, .inr (9, [.ref b1, .int v1.2.1, .int v1.2.2.1, .int v1.2.2.2])), (b1, .inl (ca 0, 300, .inl v1.1))] H → va_D A [(a0, .inr (5, [.ref a1, .ref a6, .int v0.2.2.1, .int v0.2.2.2.1, .int v0.2.2.2.2.1, .int v0.2.2.2.2.2.1, .int v0.2.2.2.2.2.2.1, .int v0.2.2.2.2.2.2.2])), (b0, .inr (9, [.ref b1, .int v1.2.1, .int v1.2.2.1, .int v1.2.2.2])), (b1, .inl (ca 0, 300, .inl v1.1))] → va_S A s.heap H locs → lv_has ls 3 [(0, .ref a0), (1, .ref b0)] → W p l e ({ frames := 2, cells := 0, slots := 0, locals := 42 } : Room) s m args below meth c H locs 0 0 Q (F0 m 38 ls []) := by
    intro v0 hf H locs ls hP hD hS hl
    unfold fc_X5_nextToken_38 at hf
    refine lv_aload_n hx hb dX5_nextToken_38 rfl (lv_at hl 0 rfl) ?_
    refine lv_aload_n hx hb dX5_nextToken_39 rfl (lv_at hl 0 rfl) ?_
    refine va_get (C := RX5) (T := TX5) (N := 8) hx hb hts i5 hown hK hP 0 rfl rfl 2 (Nat.le_of_ble_eq_true rfl) w0 (fun _ h9 => h9) rfl dX5_nextToken_40 ?_
    refine xput (C := RX5) (T := TX5) (N := 8) (wx := [(a0, .inr (5, [.ref a1, .ref a6, .int v0.2.2.1, .int v0.2.2.2.1, .int v0.2.2.1, .int v0.2.2.2.2.2.1, .int v0.2.2.2.2.2.2.1, .int v0.2.2.2.2.2.2.2])), (b0, .inr (9, [.ref b1, .int v1.2.1, .int v1.2.2.1, .int v1.2.2.2])), (b1, .inl (ca 0, 300, .inl v1.1))]) hx hb hts i5 tyX5 tyX5_ok nmX5 hown hK hP hD hS 0 rfl rfl 4 (Nat.le_of_ble_eq_true rfl) w1 (fun _ h9 => h9) rfl rfl rfl rfl (Nat.le_of_ble_eq_true rfl) dX5_nextToken_43 rfl (fun H locs hP hD hS => ?_)
    refine lv_aload_n hx hb dX5_nextToken_46 rfl (lv_at hl 1 rfl) ?_
    refine lv_aload_n hx hb dX5_nextToken_47 rfl (lv_at hl 0 rfl) ?_
    refine va_get (C := RX5) (T := TX5) (N := 8) hx hb hts i5 hown hK hP 0 rfl rfl 2 (Nat.le_of_ble_eq_true rfl) w0 (fun _ h9 => h9) rfl dX5_nextToken_48 ?_
    obtain ⟨r_1, hc1, hf⟩ := bnd1_el hf
    refine xV_I (As := [.int v0.2.2.1]) (wx := [(a0, .inr (5, [.ref a1, .ref a6, .int v0.2.2.1, .int v0.2.2.2.1, .int v0.2.2.1, .int v0.2.2.2.2.2.1, .int v0.2.2.2.2.2.2.1, .int v0.2.2.2.2.2.2.2])), (b0, .inr (9, [.ref b1, .int v1.2.1, .int v1.2.2.1, .int v1.2.2.2])), (b1, .inl (ca 0, 300, .inl v1.1))]) ⟨hx, hb, hml, hown, hts⟩ (c_X9_byteAt l D ca zz b0 b1 _ v1 v0.2.2.1 r_1 hc1) (cwV 1 hts (gV gw_3_3 gw_3_4 gw_3_5 gw_1_10 gw_3_6) rfl rfl rfl (by decide +kernel) ⟨(Nat.le_of_ble_eq_true rfl), (Nat.le_of_ble_eq_true rfl)⟩) hK hN hZ hA hP hD hS [1, 2] rfl rfl rfl rfl 1 rfl rfl hl.1 rfl (Nat.le_of_ble_eq_true rfl) dX5_nextToken_51 ⟨Nat.zero_le _, Nat.zero_le _⟩ rfl (fun H locs hP hD hS => ?_)
    refine lv_istore_n (lv' := [(2, .int r_1), (0, .ref a0), (1, .ref b0)]) hx hb dX5_nextToken_54 rfl hl (Nat.le_of_ble_eq_true rfl) rfl (fun ls hl => ?_)
    refine lv_iload_n hx hb dX5_nextToken_55 rfl (lv_at hl 0 rfl) ?_
    refine lv_iconst (v := -1) hx hb dX5_nextToken_56 rfl ?_
    refine xc_ne (tgt := 68) hx hb dX5_nextToken_57 (by decide) hf (fun hf => ?_) (fun hf => ?_)
    · refine lv_iload_n hx hb dX5_nextToken_68 rfl (lv_at hl 0 rfl) ?_
      obtain ⟨r_2, hc2, hf⟩ := bnd1_el hf
      refine xS_I (As := [.int r_1]) (wx := [(a0, .inr (5, [.ref a1, .ref a6, .int v0.2.2.1, .int v0.2.2.2.1, .int v0.2.2.1, .int v0.2.2.2.2.2.1, .int v0.2.2.2.2.2.2.1, .int v0.2.2.2.2.2.2.2])), (b0, .inr (9, [.ref b1, .int v1.2.1, .int v1.2.2.1, .int v1.2.2.2])), (b1, .inl (ca 0, 300, .inl v1.1))]) ⟨hx, hb, hml, hown, hts⟩ (c_X5_isLetter l D ca zz  _ r_1 r_2 hc2) (va_cwS 1 hts (gS gw_3_10 gw_3_11 gw_1_13 gw_3_12) rfl rfl rfl (by decide +kernel) ⟨(Nat.le_of_ble_eq_true rfl), (Nat.le_of_ble_eq_true rfl)⟩) hK hN hZ hA hP hD hS [] rfl rfl rfl rfl hl.1 rfl (Nat.le_of_ble_eq_true rfl) dX5_nextToken_69 ⟨Nat.zero_le _, Nat.zero_le _⟩ rfl (fun H locs hP hD hS => ?_)
      refine xi_eq (tgt := 83) hx hb dX5_nextToken_72 (by decide) hf (fun hf => ?_) (fun hf => ?_)
      · refine lv_iload_n hx hb dX5_nextToken_83 rfl (lv_at hl 0 rfl) ?_
        obtain ⟨r_3, hc3, hf⟩ := bnd1_el hf
        refine xS_I (As := [.int r_1]) (wx := [(a0, .inr (5, [.ref a1, .ref a6, .int v0.2.2.1, .int v0.2.2.2.1, .int v0.2.2.1, .int v0.2.2.2.2.2.1, .int v0.2.2.2.2.2.2.1, .int v0.2.2.2.2.2.2.2])), (b0, .inr (9, [.ref b1, .int v1.2.1, .int v1.2.2.1, .int v1.2.2.2])), (b1, .inl (ca 0, 300, .inl v1.1))]) ⟨hx, hb, hml, hown, hts⟩ (c_X5_isDigit l D ca zz  _ r_1 r_3 hc3) (va_cwS 1 hts (gS gw_3_17 gw_3_18 gw_1_13 gw_3_19) rfl rfl rfl (by decide +kernel) ⟨(Nat.le_of_ble_eq_true rfl), (Nat.le_of_ble_eq_true rfl)⟩) hK hN hZ hA hP hD hS [] rfl rfl rfl rfl hl.1 rfl (Nat.le_of_ble_eq_true rfl) dX5_nextToken_84 ⟨Nat.zero_le _, Nat.zero_le _⟩ rfl (fun H locs hP hD hS => ?_)
        refine xi_eq (tgt := 98) hx hb dX5_nextToken_87 (by decide) hf (fun hf => ?_) (fun hf => ?_)
        · refine lv_iload_n hx hb dX5_nextToken_98 rfl (lv_at hl 0 rfl) ?_
          refine lv_bipush (v := 59) hx hb dX5_nextToken_99 rfl ?_
          refine xc_ne (tgt := 122) hx hb dX5_nextToken_101 (by decide) hf (fun hf => ?_) (fun hf => ?_)
          · refine lv_aload_n hx hb dX5_nextToken_122 rfl (lv_at hl 1 rfl) ?_
            refine lv_iconst (v := 4) hx hb dX5_nextToken_123 rfl ?_
            refine xput (C := RX5) (T := TX5) (N := 8) (wx := [(a0, .inr (5, [.ref a1, .ref a6, .int v0.2.2.1, .int (4 : Int32), .int v0.2.2.1, .int v0.2.2.2.2.2.1, .int v0.2.2.2.2.2.2.1, .int v0.2.2.2.2.2.2.2])), (b0, .inr (9, [.ref b1, .int v1.2.1, .int v1.2.2.1, .int v1.2.2.2])), (b1, .inl (ca 0, 300, .inl v1.1))]) hx hb hts i5 tyX5 tyX5_ok nmX5 hown hK hP hD hS 0 rfl rfl 3 (Nat.le_of_ble_eq_true rfl) w2 (fun _ h9 => h9) rfl rfl rfl rfl (Nat.le_of_ble_eq_true rfl) dX5_nextToken_124 rfl (fun H locs hP hD hS => ?_)
            cases hf
            exact rt_V hx hb hr hlocks hK hP hD hS hQ rfl dX5_nextToken_127
          · refine lv_aload_n hx hb dX5_nextToken_104 rfl (lv_at hl 1 rfl) ?_
            refine lv_dup hx hb dX5_nextToken_105 rfl ?_
            refine va_get (C := RX5) (T := TX5) (N := 8) hx hb hts i5 hown hK hP 0 rfl rfl 2 (Nat.le_of_ble_eq_true rfl) w0 (fun _ h9 => h9) rfl dX5_nextToken_106 ?_
            refine lv_iconst (v := 1) hx hb dX5_nextToken_109 rfl ?_
            refine lv_iadd hx hb dX5_nextToken_110 ?_
            refine xnm hf (fun x_4 hf => ?_)
            refine xput (C := RX5) (T := TX5) (N := 8) (wx := [(a0, .inr (5, [.ref a1, .ref a6, .int x_4, .int v0.2.2.2.1, .int v0.2.2.1, .int v0.2.2.2.2.2.1, .int v0.2.2.2.2.2.2.1, .int v0.2.2.2.2.2.2.2])), (b0, .inr (9, [.ref b1, .int v1.2.1, .int v1.2.2.1, .int v1.2.2.2])), (b1, .inl (ca 0, 300, .inl v1.1))]) hx hb hts i5 tyX5 tyX5_ok nmX5 hown hK hP hD hS 0 rfl rfl 2 (Nat.le_of_ble_eq_true rfl) w0 (fun _ h9 => h9) rfl rfl rfl rfl (Nat.le_of_ble_eq_true rfl) dX5_nextToken_111 rfl (fun H locs hP hD hS => ?_)
            refine lv_aload_n hx hb dX5_nextToken_114 rfl (lv_at hl 1 rfl) ?_
            refine lv_iconst (v := 3) hx hb dX5_nextToken_115 rfl ?_
            refine xput (C := RX5) (T := TX5) (N := 8) (wx := [(a0, .inr (5, [.ref a1, .ref a6, .int x_4, .int (3 : Int32), .int v0.2.2.1, .int v0.2.2.2.2.2.1, .int v0.2.2.2.2.2.2.1, .int v0.2.2.2.2.2.2.2])), (b0, .inr (9, [.ref b1, .int v1.2.1, .int v1.2.2.1, .int v1.2.2.2])), (b1, .inl (ca 0, 300, .inl v1.1))]) hx hb hts i5 tyX5 tyX5_ok nmX5 hown hK hP hD hS 0 rfl rfl 3 (Nat.le_of_ble_eq_true rfl) w2 (fun _ h9 => h9) rfl rfl rfl rfl (Nat.le_of_ble_eq_true rfl) dX5_nextToken_116 rfl (fun H locs hP hD hS => ?_)
            refine lv_goto (tgt := 127) hx hb dX5_nextToken_119 (by decide) ?_
            cases hf
            exact rt_V hx hb hr hlocks hK hP hD hS hQ rfl dX5_nextToken_127
        · refine lv_aload_n hx hb dX5_nextToken_90 rfl (lv_at hl 1 rfl) ?_
          refine lv_aload_n hx hb dX5_nextToken_91 rfl (lv_at hl 2 rfl) ?_
          obtain ⟨u_5, hc5, hf⟩ := bnd1_el hf
          refine xV_V (As := [.ref b0]) (wx := [(a0, .inr (5, [.ref a1, .ref a6, .int u_5.2.2.1, .int u_5.2.2.2.1, .int u_5.2.2.2.2.1, .int u_5.2.2.2.2.2.1, .int u_5.2.2.2.2.2.2.1, .int u_5.2.2.2.2.2.2.2])), (b0, .inr (9, [.ref b1, .int v1.2.1, .int v1.2.2.1, .int v1.2.2.2])), (b1, .inl (ca 0, 300, .inl v1.1))]) ⟨hx, hb, hml, hown, hts⟩ (c_X5_passNumber l D ca zz a0 a1 a6 b0 b1 _ ((v0.1, v0.2.1, v0.2.2.1, v0.2.2.2.1, v0.2.2.1, v0.2.2.2.2.2)) v1 u_5 hc5) (cwV 1 hts (gV gw_3_20 gw_3_22 gw_s_1_2 gw_1_13 gw_3_23) rfl rfl rfl (by decide +kernel) ⟨(Nat.le_of_ble_eq_true rfl), (Nat.le_of_ble_eq_true rfl)⟩) hK hN hZ hA hP hD hS [0, 1, 2] rfl rfl rfl rfl 0 rfl rfl hl.1 rfl (Nat.le_of_ble_eq_true rfl) dX5_nextToken_92 ⟨Nat.zero_le _, Nat.zero_le _⟩ rfl (fun H locs hP hD hS => ?_)
          refine lv_goto (tgt := 127) hx hb dX5_nextToken_95 (by decide) ?_
          cases hf
          exact rt_V hx hb hr hlocks hK hP hD hS hQ rfl dX5_nextToken_127
      · refine lv_aload_n hx hb dX5_nextToken_75 rfl (lv_at hl 1 rfl) ?_
        refine lv_aload_n hx hb dX5_nextToken_76 rfl (lv_at hl 2 rfl) ?_
        obtain ⟨u_6, hc6, hf⟩ := bnd1_el hf
        refine xV_V (As := [.ref b0]) (wx := [(a0, .inr (5, [.ref a1, .ref a6, .int u_6.2.2.1, .int u_6.2.2.2.1, .int u_6.2.2.2.2.1, .int u_6.2.2.2.2.2.1, .int u_6.2.2.2.2.2.2.1, .int u_6.2.2.2.2.2.2.2])), (b0, .inr (9, [.ref b1, .int v1.2.1, .int v1.2.2.1, .int v1.2.2.2])), (b1, .inl (ca 0, 300, .inl v1.1))]) ⟨hx, hb, hml, hown, hts⟩ (c_X5_passWord l D ca zz a0 a1 a6 b0 b1 _ ((v0.1, v0.2.1, v0.2.2.1, v0.2.2.2.1, v0.2.2.1, v0.2.2.2.2.2)) v1 u_6 hc6) (cwV 1 hts (gV gw_3_13 gw_3_15 gw_s_1_1 gw_1_13 gw_3_16) rfl rfl rfl (by decide +kernel) ⟨(Nat.le_of_ble_eq_true rfl), (Nat.le_of_ble_eq_true rfl)⟩) hK hN hZ hA hP hD hS [0, 1, 2] rfl rfl rfl rfl 0 rfl rfl hl.1 rfl (Nat.le_of_ble_eq_true rfl) dX5_nextToken_77 ⟨Nat.zero_le _, Nat.zero_le _⟩ rfl (fun H locs hP hD hS => ?_)
        refine lv_goto (tgt := 127) hx hb dX5_nextToken_80 (by decide) ?_
        cases hf
        exact rt_V hx hb hr hlocks hK hP hD hS hQ rfl dX5_nextToken_127
    · refine lv_aload_n hx hb dX5_nextToken_60 rfl (lv_at hl 1 rfl) ?_
      refine lv_iconst (v := 0) hx hb dX5_nextToken_61 rfl ?_
      refine xput (C := RX5) (T := TX5) (N := 8) (wx := [(a0, .inr (5, [.ref a1, .ref a6, .int v0.2.2.1, .int (0 : Int32), .int v0.2.2.1, .int v0.2.2.2.2.2.1, .int v0.2.2.2.2.2.2.1, .int v0.2.2.2.2.2.2.2])), (b0, .inr (9, [.ref b1, .int v1.2.1, .int v1.2.2.1, .int v1.2.2.2])), (b1, .inl (ca 0, 300, .inl v1.1))]) hx hb hts i5 tyX5 tyX5_ok nmX5 hown hK hP hD hS 0 rfl rfl 3 (Nat.le_of_ble_eq_true rfl) w2 (fun _ h9 => h9) rfl rfl rfl rfl (Nat.le_of_ble_eq_true rfl) dX5_nextToken_62 rfl (fun H locs hP hD hS => ?_)
      refine lv_goto (tgt := 127) hx hb dX5_nextToken_65 (by decide) ?_
      cases hf
      exact rt_V hx hb hr hlocks hK hP hD hS hQ rfl dX5_nextToken_127
  have bl0 : ∀ (k0 : V5 → Option (V5)) (q0 : ∀ (v0 : V5), k0 v0 = some v0' → ∀ (H : Heap) (locs : List Loc) (ls : Array Slot), va_P D vwCl [(a0, .inr (5, [.ref a1, .ref a6, .int v0.2.2.1, .int v0.2.2.2.1, .int v0.2.2.2.2.1, .int v0.2.2.2.2.2.1, .int v0.2.2.2.2.2.2.1, .int v0.2.2.2.2.2.2.2])), (b0, .inr (9, [.ref b1, .int v1.2.1, .int v1.2.2.1, .int v1.2.2.2])), (b1, .inl (ca 0, 300, .inl v1.1))] H → va_D A [(a0, .inr (5, [.ref a1, .ref a6, .int v0.2.2.1, .int v0.2.2.2.1, .int v0.2.2.2.2.1, .int v0.2.2.2.2.2.1, .int v0.2.2.2.2.2.2.1, .int v0.2.2.2.2.2.2.2])), (b0, .inr (9, [.ref b1, .int v1.2.1, .int v1.2.2.1, .int v1.2.2.2])), (b1, .inl (ca 0, 300, .inl v1.1))] → va_S A s.heap H locs → lv_has ls 3 [(0, .ref a0), (1, .ref b0)] → W p l e ({ frames := 2, cells := 0, slots := 0, locals := 42 } : Room) s m args below meth c H locs 0 0 Q (F0 m 0 ls [])) (v0 : V5), fl_X5_nextToken_0 v1 k0 v0 = some v0' → ∀ (H : Heap) (locs : List Loc) (ls : Array Slot), va_P D vwCl [(a0, .inr (5, [.ref a1, .ref a6, .int v0.2.2.1, .int v0.2.2.2.1, .int v0.2.2.2.2.1, .int v0.2.2.2.2.2.1, .int v0.2.2.2.2.2.2.1, .int v0.2.2.2.2.2.2.2])), (b0, .inr (9, [.ref b1, .int v1.2.1, .int v1.2.2.1, .int v1.2.2.2])), (b1, .inl (ca 0, 300, .inl v1.1))] H → va_D A [(a0, .inr (5, [.ref a1, .ref a6, .int v0.2.2.1, .int v0.2.2.2.1, .int v0.2.2.2.2.1, .int v0.2.2.2.2.2.1, .int v0.2.2.2.2.2.2.1, .int v0.2.2.2.2.2.2.2])), (b0, .inr (9, [.ref b1, .int v1.2.1, .int v1.2.2.1, .int v1.2.2.2])), (b1, .inl (ca 0, 300, .inl v1.1))] → va_S A s.heap H locs → lv_has ls 3 [(0, .ref a0), (1, .ref b0)] → W p l e ({ frames := 2, cells := 0, slots := 0, locals := 42 } : Room) s m args below meth c H locs 0 0 Q (F0 m 0 ls []) := by
    intro k0 q0 v0 hf H locs ls hP hD hS hl
    unfold fl_X5_nextToken_0 at hf
    refine lv_aload_n hx hb dX5_nextToken_0 rfl (lv_at hl 0 rfl) ?_
    refine va_get (C := RX5) (T := TX5) (N := 8) hx hb hts i5 hown hK hP 0 rfl rfl 2 (Nat.le_of_ble_eq_true rfl) w0 (fun _ h9 => h9) rfl dX5_nextToken_1 ?_
    refine lv_aload_n hx hb dX5_nextToken_4 rfl (lv_at hl 1 rfl) ?_
    refine va_getN (C := RX9) (T := TX9) (N := 4) hx hb hts i9 hown hK hP 1 rfl rfl 1 (Nat.le_of_ble_eq_true rfl) nw30 (fun _ h9 => h9) rfl dX5_nextToken_5 ?_
    refine xc_ge (tgt := 38) hx hb dX5_nextToken_8 (by decide) hf (fun hf => ?_) (fun hf => ?_)
    · exact b38 v0 hf _ _ _ hP hD hS (lv_sub hl [0, 1] rfl)
    · refine lv_aload_n hx hb dX5_nextToken_11 rfl (lv_at hl 1 rfl) ?_
      refine lv_aload_n hx hb dX5_nextToken_12 rfl (lv_at hl 0 rfl) ?_
      refine va_get (C := RX5) (T := TX5) (N := 8) hx hb hts i5 hown hK hP 0 rfl rfl 2 (Nat.le_of_ble_eq_true rfl) w0 (fun _ h9 => h9) rfl dX5_nextToken_13 ?_
      obtain ⟨r_7, hc7, hf⟩ := bnd1_el hf
      refine xV_I (As := [.int v0.2.2.1]) (wx := [(a0, .inr (5, [.ref a1, .ref a6, .int v0.2.2.1, .int v0.2.2.2.1, .int v0.2.2.2.2.1, .int v0.2.2.2.2.2.1, .int v0.2.2.2.2.2.2.1, .int v0.2.2.2.2.2.2.2])), (b0, .inr (9, [.ref b1, .int v1.2.1, .int v1.2.2.1, .int v1.2.2.2])), (b1, .inl (ca 0, 300, .inl v1.1))]) ⟨hx, hb, hml, hown, hts⟩ (c_X9_byteAt l D ca zz b0 b1 _ v1 v0.2.2.1 r_7 hc7) (cwV 1 hts (gV gw_3_3 gw_3_4 gw_3_5 gw_1_10 gw_3_6) rfl rfl rfl (by decide +kernel) ⟨(Nat.le_of_ble_eq_true rfl), (Nat.le_of_ble_eq_true rfl)⟩) hK hN hZ hA hP hD hS [1, 2] rfl rfl rfl rfl 1 rfl rfl hl.1 rfl (Nat.le_of_ble_eq_true rfl) dX5_nextToken_16 ⟨Nat.zero_le _, Nat.zero_le _⟩ rfl (fun H locs hP hD hS => ?_)
      obtain ⟨r_8, hc8, hf⟩ := bnd1_el hf
      refine xS_I (As := [.int r_7]) (wx := [(a0, .inr (5, [.ref a1, .ref a6, .int v0.2.2.1, .int v0.2.2.2.1, .int v0.2.2.2.2.1, .int v0.2.2.2.2.2.1, .int v0.2.2.2.2.2.2.1, .int v0.2.2.2.2.2.2.2])), (b0, .inr (9, [.ref b1, .int v1.2.1, .int v1.2.2.1, .int v1.2.2.2])), (b1, .inl (ca 0, 300, .inl v1.1))]) ⟨hx, hb, hml, hown, hts⟩ (c_X5_isBlank l D ca zz  _ r_7 r_8 hc8) (va_cwS 1 hts (gS gw_3_7 gw_3_8 gw_1_13 gw_3_9) rfl rfl rfl (by decide +kernel) ⟨(Nat.le_of_ble_eq_true rfl), (Nat.le_of_ble_eq_true rfl)⟩) hK hN hZ hA hP hD hS [] rfl rfl rfl rfl hl.1 rfl (Nat.le_of_ble_eq_true rfl) dX5_nextToken_19 ⟨Nat.zero_le _, Nat.zero_le _⟩ rfl (fun H locs hP hD hS => ?_)
      refine xi_eq (tgt := 38) hx hb dX5_nextToken_22 (by decide) hf (fun hf => ?_) (fun hf => ?_)
      · exact b38 v0 hf _ _ _ hP hD hS (lv_sub hl [0, 1] rfl)
      · refine lv_aload_n hx hb dX5_nextToken_25 rfl (lv_at hl 0 rfl) ?_
        refine lv_dup hx hb dX5_nextToken_26 rfl ?_
        refine va_get (C := RX5) (T := TX5) (N := 8) hx hb hts i5 hown hK hP 0 rfl rfl 2 (Nat.le_of_ble_eq_true rfl) w0 (fun _ h9 => h9) rfl dX5_nextToken_27 ?_
        refine lv_iconst (v := 1) hx hb dX5_nextToken_30 rfl ?_
        refine lv_iadd hx hb dX5_nextToken_31 ?_
        refine xnm hf (fun x_9 hf => ?_)
        refine xput (C := RX5) (T := TX5) (N := 8) (wx := [(a0, .inr (5, [.ref a1, .ref a6, .int x_9, .int v0.2.2.2.1, .int v0.2.2.2.2.1, .int v0.2.2.2.2.2.1, .int v0.2.2.2.2.2.2.1, .int v0.2.2.2.2.2.2.2])), (b0, .inr (9, [.ref b1, .int v1.2.1, .int v1.2.2.1, .int v1.2.2.2])), (b1, .inl (ca 0, 300, .inl v1.1))]) hx hb hts i5 tyX5 tyX5_ok nmX5 hown hK hP hD hS 0 rfl rfl 2 (Nat.le_of_ble_eq_true rfl) w0 (fun _ h9 => h9) rfl rfl rfl rfl (Nat.le_of_ble_eq_true rfl) dX5_nextToken_32 rfl (fun H locs hP hD hS => ?_)
        refine lv_goto (tgt := 0) hx hb dX5_nextToken_35 (by decide) ?_
        exact q0 ((v0.1, v0.2.1, x_9, v0.2.2.2)) hf _ _ _ hP hD hS (lv_sub hl [0, 1] rfl)
  have b0 : ∀ (n : Nat) (v0 : V5), fb_X5_nextToken_0 v1 n v0 = some v0' → ∀ (H : Heap) (locs : List Loc) (ls : Array Slot), va_P D vwCl [(a0, .inr (5, [.ref a1, .ref a6, .int v0.2.2.1, .int v0.2.2.2.1, .int v0.2.2.2.2.1, .int v0.2.2.2.2.2.1, .int v0.2.2.2.2.2.2.1, .int v0.2.2.2.2.2.2.2])), (b0, .inr (9, [.ref b1, .int v1.2.1, .int v1.2.2.1, .int v1.2.2.2])), (b1, .inl (ca 0, 300, .inl v1.1))] H → va_D A [(a0, .inr (5, [.ref a1, .ref a6, .int v0.2.2.1, .int v0.2.2.2.1, .int v0.2.2.2.2.1, .int v0.2.2.2.2.2.1, .int v0.2.2.2.2.2.2.1, .int v0.2.2.2.2.2.2.2])), (b0, .inr (9, [.ref b1, .int v1.2.1, .int v1.2.2.1, .int v1.2.2.2])), (b1, .inl (ca 0, 300, .inl v1.1))] → va_S A s.heap H locs → lv_has ls 3 [(0, .ref a0), (1, .ref b0)] → W p l e ({ frames := 2, cells := 0, slots := 0, locals := 42 } : Room) s m args below meth c H locs 0 0 Q (F0 m 0 ls []) := by
    intro n
    induction n with
    | zero => intro v0 hf; exact no_el hf
    | succ n ih => exact bl0 (fb_X5_nextToken_0 v1 n) ih
  unfold f_X5_nextToken at hf
  exact b0 FU v0 hf _ _ _ hP hD hS (lv_sub hl [0, 1] rfl)
abbrev wq_X5_read : List Cond := Cond.code yX5_read cX5_read 3 (some .boolean) :: GL
set_option maxHeartbeats 4000000 in
set_option maxRecDepth 100000 in
theorem c_X5_read (l : Launch) (D : va_G) (ca : Nat → ClassId) (zz : Nat → Nat) (a0 a1 a2 a3 a4 a5 a6 b0 b1 : Nat) (sz : Nat) (v0 : V5) (v1 : V9) (r : Int32) (v0' : V5) (hf : f_X5_read v0 v1 = some (r, v0')) : Met l yX5_read wq_X5_read ({ frames := 3, cells := 0, slots := 0, locals := 80 } : Room) (PR D ca zz [.ref a0, .ref b0] sz [(a0, .inr (5, [.ref a1, .ref a6, .int v0.2.2.1, .int v0.2.2.2.1, .int v0.2.2.2.2.1, .int v0.2.2.2.2.2.1, .int v0.2.2.2.2.2.2.1, .int v0.2.2.2.2.2.2.2])), (a1, .inr (7, [.ref a2, .ref a3, .ref a4, .ref a5, .int v0.1.2.2.2.2])), (a2, .inl (ca 0, 9, .inl v0.1.1)), (b0, .inr (9, [.ref b1, .int v1.2.1, .int v1.2.2.1, .int v1.2.2.2])), (b1, .inl (ca 0, 300, .inl v1.1))]) (QI D ca r [(a0, .inr (5, [.ref a1, .ref a6, .int v0'.2.2.1, .int v0'.2.2.2.1, .int v0'.2.2.2.2.1, .int v0'.2.2.2.2.2.1, .int v0'.2.2.2.2.2.2.1, .int v0'.2.2.2.2.2.2.2])), (a1, .inr (7, [.ref a2, .ref a3, .ref a4, .ref a5, .int v0'.1.2.2.2.2])), (a2, .inl (ca 0, 9, .inl v0'.1.1)), (b0, .inr (9, [.ref b1, .int v1.2.1, .int v1.2.2.1, .int v1.2.2.2])), (b1, .inl (ca 0, 300, .inl v1.1))] (va_A [(a0, .inr (5, [.ref a1, .ref a6, .int v0.2.2.1, .int v0.2.2.2.1, .int v0.2.2.2.2.1, .int v0.2.2.2.2.2.1, .int v0.2.2.2.2.2.2.1, .int v0.2.2.2.2.2.2.2])), (a1, .inr (7, [.ref a2, .ref a3, .ref a4, .ref a5, .int v0.1.2.2.2.2])), (a2, .inl (ca 0, 9, .inl v0.1.1)), (b0, .inr (9, [.ref b1, .int v1.2.1, .int v1.2.2.1, .int v1.2.2.2])), (b1, .inl (ca 0, 300, .inl v1.1))] sz)) 0 0 (va_A [(a0, .inr (5, [.ref a1, .ref a6, .int v0.2.2.1, .int v0.2.2.2.1, .int v0.2.2.2.2.1, .int v0.2.2.2.2.2.1, .int v0.2.2.2.2.2.2.1, .int v0.2.2.2.2.2.2.2])), (a1, .inr (7, [.ref a2, .ref a3, .ref a4, .ref a5, .int v0.1.2.2.2.2])), (a2, .inl (ca 0, 9, .inl v0.1.1)), (b0, .inr (9, [.ref b1, .int v1.2.1, .int v1.2.2.1, .int v1.2.2.2])), (b1, .inl (ca 0, 300, .inl v1.1))] sz) := by
  refine en (y := yX5_read) (wsm := wq_X5_read) (av := [.ref a0, .ref b0]) (cc := cX5_read) (maxL := 3) (ret := (some .boolean)) (Qf := fun A => QI D ca r [(a0, .inr (5, [.ref a1, .ref a6, .int v0'.2.2.1, .int v0'.2.2.2.1, .int v0'.2.2.2.2.1, .int v0'.2.2.2.2.2.1, .int v0'.2.2.2.2.2.2.1, .int v0'.2.2.2.2.2.2.2])), (a1, .inr (7, [.ref a2, .ref a3, .ref a4, .ref a5, .int v0'.1.2.2.2.2])), (a2, .inl (ca 0, 9, .inl v0'.1.1)), (b0, .inr (9, [.ref b1, .int v1.2.1, .int v1.2.2.1, .int v1.2.2.2])), (b1, .inl (ca 0, 300, .inl v1.1))] A) (by decide) rfl (Nat.le_of_ble_eq_true rfl) ?_
  intro p e s m args below meth c A Q ls hx hb hr hml hown hts hlocks hnm hA hN hZ hK hQ hP hD hS hl
  have w0 := hts _ (List.mem_cons_of_mem _ gw_2_131)
  have w1 := hts _ (List.mem_cons_of_mem _ gw_2_134)
  have w2 := hts _ (List.mem_cons_of_mem _ gw_2_138)
  have w3 := hts _ (List.mem_cons_of_mem _ gw_2_140)
  have w4 := hts _ (List.mem_cons_of_mem _ gw_2_135)
  have i5 : ∀ w ∈ u_ws RX5 TX5 8, w ∈ wq_X5_read := fun w h => List.mem_cons_of_mem _ (inX5 w h)
  have b77 : ∀ (v0 : V5), fc_X5_read_77 v1 v0 = some (r, v0') → ∀ (H : Heap) (locs : List Loc) (ls : Array Slot), va_P D vwCl [(a0, .inr (5, [.ref a1, .ref a6, .int v0.2.2.1, .int v0.2.2.2.1, .int v0.2.2.2.2.1, .int v0.2.2.2.2.2.1, .int v0.2.2.2.2.2.2.1, .int v0.2.2.2.2.2.2.2])), (a1, .inr (7, [.ref a2, .ref a3, .ref a4, .ref a5, .int v0.1.2.2.2.2])), (a2, .inl (ca 0, 9, .inl v0.1.1)), (b0, .inr (9, [.ref b1, .int v1.2.1, .int v1.2.2.1, .int v1.2.2.2])), (b1, .inl (ca 0, 300, .inl v1.1))] H → va_D A [(a0, .inr (5, [.ref a1, .ref a6, .int v0.2.2.1, .int v0.2.2.2.1, .int v0.2.2.2.2.1, .int v0.2.2.2.2.2.1, .int v0.2.2.2.2.2.2.1, .int v0.2.2.2.2.2.2.2])), (a1, .inr (7, [.ref a2, .ref a3, .ref a4, .ref a5, .int v0.1.2.2.2.2])), (a2, .inl (ca 0, 9, .inl v0.1.1)), (b0, .inr (9, [.ref b1, .int v1.2.1, .int v1.2.2.1, .int v1.2.2.2])), (b1, .inl (ca 0, 300, .inl v1.1))] → va_S A s.heap H locs → lv_has ls 3 [(0, .ref a0)] → W p l e ({ frames := 3, cells := 0, slots := 0, locals := 80 } : Room) s m args below meth c H locs 0 0 Q (F0 m 77 ls []) := by
    intro v0 hf H locs ls hP hD hS hl
    unfold fc_X5_read_77 at hf
    refine lv_aload_n hx hb dX5_read_77 rfl (lv_at hl 0 rfl) ?_
    refine va_get (C := RX5) (T := TX5) (N := 8) hx hb hts i5 hown hK hP 0 rfl rfl 6 (Nat.le_of_ble_eq_true rfl) w2 (fun _ h9 => h9) rfl dX5_read_78 ?_
    refine xi_ne (tgt := 88) hx hb dX5_read_81 (by decide) hf (fun hf => ?_) (fun hf => ?_)
    · refine lv_iconst (v := 0) hx hb dX5_read_88 rfl ?_
      cases hf
      exact rt_Z hx hb hr hlocks hK hP hD hS hQ (Or.inl rfl) rfl rfl dX5_read_89
    · refine lv_iconst (v := 1) hx hb dX5_read_84 rfl ?_
      refine lv_goto (tgt := 89) hx hb dX5_read_85 (by decide) ?_
      cases hf
      exact rt_Z hx hb hr hlocks hK hP hD hS hQ (Or.inr rfl) rfl rfl dX5_read_89
  have bl29 : ∀ (k29 : V5 → Int32 → Option (Int32 × V5)) (q29 : ∀ (v0 : V5) (x2 : Int32), k29 v0 x2 = some (r, v0') → ∀ (H : Heap) (locs : List Loc) (ls : Array Slot), va_P D vwCl [(a0, .inr (5, [.ref a1, .ref a6, .int v0.2.2.1, .int v0.2.2.2.1, .int v0.2.2.2.2.1, .int v0.2.2.2.2.2.1, .int v0.2.2.2.2.2.2.1, .int v0.2.2.2.2.2.2.2])), (a1, .inr (7, [.ref a2, .ref a3, .ref a4, .ref a5, .int v0.1.2.2.2.2])), (a2, .inl (ca 0, 9, .inl v0.1.1)), (b0, .inr (9, [.ref b1, .int v1.2.1, .int v1.2.2.1, .int v1.2.2.2])), (b1, .inl (ca 0, 300, .inl v1.1))] H → va_D A [(a0, .inr (5, [.ref a1, .ref a6, .int v0.2.2.1, .int v0.2.2.2.1, .int v0.2.2.2.2.1, .int v0.2.2.2.2.2.1, .int v0.2.2.2.2.2.2.1, .int v0.2.2.2.2.2.2.2])), (a1, .inr (7, [.ref a2, .ref a3, .ref a4, .ref a5, .int v0.1.2.2.2.2])), (a2, .inl (ca 0, 9, .inl v0.1.1)), (b0, .inr (9, [.ref b1, .int v1.2.1, .int v1.2.2.1, .int v1.2.2.2])), (b1, .inl (ca 0, 300, .inl v1.1))] → va_S A s.heap H locs → lv_has ls 3 [(0, .ref a0), (1, .ref b0), (2, .int x2)] → W p l e ({ frames := 3, cells := 0, slots := 0, locals := 80 } : Room) s m args below meth c H locs 0 0 Q (F0 m 29 ls [])) (v0 : V5) (x2 : Int32), fl_X5_read_29 v1 k29 v0 x2 = some (r, v0') → ∀ (H : Heap) (locs : List Loc) (ls : Array Slot), va_P D vwCl [(a0, .inr (5, [.ref a1, .ref a6, .int v0.2.2.1, .int v0.2.2.2.1, .int v0.2.2.2.2.1, .int v0.2.2.2.2.2.1, .int v0.2.2.2.2.2.2.1, .int v0.2.2.2.2.2.2.2])), (a1, .inr (7, [.ref a2, .ref a3, .ref a4, .ref a5, .int v0.1.2.2.2.2])), (a2, .inl (ca 0, 9, .inl v0.1.1)), (b0, .inr (9, [.ref b1, .int v1.2.1, .int v1.2.2.1, .int v1.2.2.2])), (b1, .inl (ca 0, 300, .inl v1.1))] H → va_D A [(a0, .inr (5, [.ref a1, .ref a6, .int v0.2.2.1, .int v0.2.2.2.1, .int v0.2.2.2.2.1, .int v0.2.2.2.2.2.1, .int v0.2.2.2.2.2.2.1, .int v0.2.2.2.2.2.2.2])), (a1, .inr (7, [.ref a2, .ref a3, .ref a4, .ref a5, .int v0.1.2.2.2.2])), (a2, .inl (ca 0, 9, .inl v0.1.1)), (b0, .inr (9, [.ref b1, .int v1.2.1, .int v1.2.2.1, .int v1.2.2.2])), (b1, .inl (ca 0, 300, .inl v1.1))] → va_S A s.heap H locs → lv_has ls 3 [(0, .ref a0), (1, .ref b0), (2, .int x2)] → W p l e ({ frames := 3, cells := 0, slots := 0, locals := 80 } : Room) s m args below meth c H locs 0 0 Q (F0 m 29 ls []) := by
    intro k29 q29 v0 x2 hf H locs ls hP hD hS hl
    unfold fl_X5_read_29 at hf
    refine lv_iload_n hx hb dX5_read_29 rfl (lv_at hl 2 rfl) ?_
    refine lv_sipush (v := 300) hx hb dX5_read_30 rfl ?_
    refine xc_ge (tgt := 77) hx hb dX5_read_33 (by decide) hf (fun hf => ?_) (fun hf => ?_)
    · exact b77 v0 hf _ _ _ hP hD hS (lv_sub hl [0] rfl)
    · refine lv_aload_n hx hb dX5_read_36 rfl (lv_at hl 0 rfl) ?_
      refine va_get (C := RX5) (T := TX5) (N := 8) hx hb hts i5 hown hK hP 0 rfl rfl 3 (Nat.le_of_ble_eq_true rfl) w4 (fun _ h9 => h9) rfl dX5_read_37 ?_
      refine xi_eq (tgt := 77) hx hb dX5_read_40 (by decide) hf (fun hf => ?_) (fun hf => ?_)
      · exact b77 v0 hf _ _ _ hP hD hS (lv_sub hl [0] rfl)
      · refine lv_aload_n hx hb dX5_read_43 rfl (lv_at hl 0 rfl) ?_
        refine lv_aload_n hx hb dX5_read_44 rfl (lv_at hl 1 rfl) ?_
        exact no_el hf
  have b29 : ∀ (n : Nat) (v0 : V5) (x2 : Int32), fb_X5_read_29 v1 n v0 x2 = some (r, v0') → ∀ (H : Heap) (locs : List Loc) (ls : Array Slot), va_P D vwCl [(a0, .inr (5, [.ref a1, .ref a6, .int v0.2.2.1, .int v0.2.2.2.1, .int v0.2.2.2.2.1, .int v0.2.2.2.2.2.1, .int v0.2.2.2.2.2.2.1, .int v0.2.2.2.2.2.2.2])), (a1, .inr (7, [.ref a2, .ref a3, .ref a4, .ref a5, .int v0.1.2.2.2.2])), (a2, .inl (ca 0, 9, .inl v0.1.1)), (b0, .inr (9, [.ref b1, .int v1.2.1, .int v1.2.2.1, .int v1.2.2.2])), (b1, .inl (ca 0, 300, .inl v1.1))] H → va_D A [(a0, .inr (5, [.ref a1, .ref a6, .int v0.2.2.1, .int v0.2.2.2.1, .int v0.2.2.2.2.1, .int v0.2.2.2.2.2.1, .int v0.2.2.2.2.2.2.1, .int v0.2.2.2.2.2.2.2])), (a1, .inr (7, [.ref a2, .ref a3, .ref a4, .ref a5, .int v0.1.2.2.2.2])), (a2, .inl (ca 0, 9, .inl v0.1.1)), (b0, .inr (9, [.ref b1, .int v1.2.1, .int v1.2.2.1, .int v1.2.2.2])), (b1, .inl (ca 0, 300, .inl v1.1))] → va_S A s.heap H locs → lv_has ls 3 [(0, .ref a0), (1, .ref b0), (2, .int x2)] → W p l e ({ frames := 3, cells := 0, slots := 0, locals := 80 } : Room) s m args below meth c H locs 0 0 Q (F0 m 29 ls []) := by
    intro n
    induction n with
    | zero => intro v0 x2 hf; exact no_el hf
    | succ n ih => exact bl29 (fb_X5_read_29 v1 n) ih
  unfold f_X5_read at hf
  refine lv_aload_n hx hb dX5_read_0 rfl (lv_at hl 0 rfl) ?_
  refine va_get (C := RX5) (T := TX5) (N := 8) hx hb hts i5 hown hK hP 0 rfl rfl 0 (Nat.le_of_ble_eq_true rfl) w0 (fun _ h9 => h9) rfl dX5_read_1 ?_
  obtain ⟨u_1, hc1, hf⟩ := bnd1_el hf
  refine xV_V (As := []) (wx := [(a0, .inr (5, [.ref a1, .ref a6, .int v0.2.2.1, .int v0.2.2.2.1, .int v0.2.2.2.2.1, .int v0.2.2.2.2.2.1, .int v0.2.2.2.2.2.2.1, .int v0.2.2.2.2.2.2.2])), (a1, .inr (7, [.ref a2, .ref a3, .ref a4, .ref a5, .int u_1.2.2.2.2])), (a2, .inl (ca 0, 9, .inl u_1.1)), (b0, .inr (9, [.ref b1, .int v1.2.1, .int v1.2.2.1, .int v1.2.2.2])), (b1, .inl (ca 0, 300, .inl v1.1))]) ⟨hx, hb, hml, hown, hts⟩ (c_X7_setFirst l D ca zz a1 a2 a3 a4 a5 _ v0.1 u_1 hc1) (cwV 0 hts (gV gw_2_231 gw_2_232 gw_2_233 gw_1_3 gw_2_234) rfl rfl rfl (by decide +kernel) ⟨(Nat.le_of_ble_eq_true rfl), (Nat.le_of_ble_eq_true rfl)⟩) hK hN hZ hA hP hD hS [1, 2] rfl rfl rfl rfl 1 rfl rfl hl.1 rfl (Nat.le_of_ble_eq_true rfl) dX5_read_4 ⟨Nat.zero_le _, Nat.zero_le _⟩ rfl (fun H locs hP hD hS => ?_)
  refine lv_aload_n hx hb dX5_read_7 rfl (lv_at hl 0 rfl) ?_
  refine lv_iconst (v := 0) hx hb dX5_read_8 rfl ?_
  refine xput (C := RX5) (T := TX5) (N := 8) (wx := [(a0, .inr (5, [.ref a1, .ref a6, .int (0 : Int32), .int v0.2.2.2.1, .int v0.2.2.2.2.1, .int v0.2.2.2.2.2.1, .int v0.2.2.2.2.2.2.1, .int v0.2.2.2.2.2.2.2])), (a1, .inr (7, [.ref a2, .ref a3, .ref a4, .ref a5, .int u_1.2.2.2.2])), (a2, .inl (ca 0, 9, .inl u_1.1)), (b0, .inr (9, [.ref b1, .int v1.2.1, .int v1.2.2.1, .int v1.2.2.2])), (b1, .inl (ca 0, 300, .inl v1.1))]) hx hb hts i5 tyX5 tyX5_ok nmX5 hown hK hP hD hS 0 rfl rfl 2 (Nat.le_of_ble_eq_true rfl) w1 (fun _ h9 => h9) rfl rfl rfl rfl (Nat.le_of_ble_eq_true rfl) dX5_read_9 rfl (fun H locs hP hD hS => ?_)
  refine lv_aload_n hx hb dX5_read_12 rfl (lv_at hl 0 rfl) ?_
  refine lv_iconst (v := 0) hx hb dX5_read_13 rfl ?_
  refine xput (C := RX5) (T := TX5) (N := 8) (wx := [(a0, .inr (5, [.ref a1, .ref a6, .int (0 : Int32), .int v0.2.2.2.1, .int v0.2.2.2.2.1, .int v0.2.2.2.2.2.1, .int (0 : Int32), .int v0.2.2.2.2.2.2.2])), (a1, .inr (7, [.ref a2, .ref a3, .ref a4, .ref a5, .int u_1.2.2.2.2])), (a2, .inl (ca 0, 9, .inl u_1.1)), (b0, .inr (9, [.ref b1, .int v1.2.1, .int v1.2.2.1, .int v1.2.2.2])), (b1, .inl (ca 0, 300, .inl v1.1))]) hx hb hts i5 tyX5 tyX5_ok nmX5 hown hK hP hD hS 0 rfl rfl 6 (Nat.le_of_ble_eq_true rfl) w2 (fun _ h9 => h9) rfl rfl rfl rfl (Nat.le_of_ble_eq_true rfl) dX5_read_14 rfl (fun H locs hP hD hS => ?_)
  refine lv_aload_n hx hb dX5_read_17 rfl (lv_at hl 0 rfl) ?_
  refine lv_iconst (v := -1) hx hb dX5_read_18 rfl ?_
  refine xput (C := RX5) (T := TX5) (N := 8) (wx := [(a0, .inr (5, [.ref a1, .ref a6, .int (0 : Int32), .int v0.2.2.2.1, .int v0.2.2.2.2.1, .int v0.2.2.2.2.2.1, .int (0 : Int32), .int (-1 : Int32)])), (a1, .inr (7, [.ref a2, .ref a3, .ref a4, .ref a5, .int u_1.2.2.2.2])), (a2, .inl (ca 0, 9, .inl u_1.1)), (b0, .inr (9, [.ref b1, .int v1.2.1, .int v1.2.2.1, .int v1.2.2.2])), (b1, .inl (ca 0, 300, .inl v1.1))]) hx hb hts i5 tyX5 tyX5_ok nmX5 hown hK hP hD hS 0 rfl rfl 7 (Nat.le_of_ble_eq_true rfl) w3 (fun _ h9 => h9) rfl rfl rfl rfl (Nat.le_of_ble_eq_true rfl) dX5_read_19 rfl (fun H locs hP hD hS => ?_)
  refine lv_aload_n hx hb dX5_read_22 rfl (lv_at hl 0 rfl) ?_
  refine lv_aload_n hx hb dX5_read_23 rfl (lv_at hl 1 rfl) ?_
  obtain ⟨u_2, hc2, hf⟩ := bnd1_el hf
  refine xV_V (As := [.ref b0]) (wx := [(a0, .inr (5, [.ref a1, .ref a6, .int u_2.2.2.1, .int u_2.2.2.2.1, .int u_2.2.2.2.2.1, .int u_2.2.2.2.2.2.1, .int u_2.2.2.2.2.2.2.1, .int u_2.2.2.2.2.2.2.2])), (a1, .inr (7, [.ref a2, .ref a3, .ref a4, .ref a5, .int u_1.2.2.2.2])), (a2, .inl (ca 0, 9, .inl u_1.1)), (b0, .inr (9, [.ref b1, .int v1.2.1, .int v1.2.2.1, .int v1.2.2.2])), (b1, .inl (ca 0, 300, .inl v1.1))]) ⟨hx, hb, hml, hown, hts⟩ (c_X5_nextToken l D ca zz a0 a1 a6 b0 b1 _ (((u_1.1, v0.1.2.1, v0.1.2.2.1, v0.1.2.2.2.1, u_1.2.2.2.2), v0.2.1, (0 : Int32), v0.2.2.2.1, v0.2.2.2.2.1, v0.2.2.2.2.2.1, (0 : Int32), (-1 : Int32))) v1 u_2 hc2) (cwV 1 hts (gV gw_2_239 gw_3_1 gw_s_1_0 gw_1_13 gw_3_2) rfl rfl rfl (by decide +kernel) ⟨(Nat.le_of_ble_eq_true rfl), (Nat.le_of_ble_eq_true rfl)⟩) hK hN hZ hA hP hD hS [0, 3, 4] rfl rfl rfl rfl 0 rfl rfl hl.1 rfl (Nat.le_of_ble_eq_true rfl) dX5_read_24 ⟨Nat.zero_le _, Nat.zero_le _⟩ rfl (fun H locs hP hD hS => ?_)
  refine lv_iconst (v := 0) hx hb dX5_read_27 rfl ?_
  refine lv_istore_n (lv' := [(2, .int (0 : Int32)), (0, .ref a0), (1, .ref b0)]) hx hb dX5_read_28 rfl hl (Nat.le_of_ble_eq_true rfl) rfl (fun ls hl => ?_)
  exact b29 FU (((u_1.1, v0.1.2.1, v0.1.2.2.1, v0.1.2.2.2.1, u_1.2.2.2.2), v0.2.1, u_2.2.2)) (0 : Int32) hf _ _ _ hP hD hS (lv_sub hl [1, 2, 0] rfl)
abbrev wq_X7_copyFrom : List Cond := Cond.code yX7_copyFrom cX7_copyFrom 2 none :: GL
set_option maxHeartbeats 4000000 in
set_option maxRecDepth 100000 in
theorem c_X7_copyFrom (l : Launch) (D : va_G) (ca : Nat → ClassId) (zz : Nat → Nat) (a0 a1 a2 a3 a4 b0 b1 b2 b3 b4 : Nat) (sz : Nat) (v0 : V7) (v1 : V7) (v0' : V7) (hf : f_X7_copyFrom v0 v1 = some v0') : Met l yX7_copyFrom wq_X7_copyFrom ({ frames := 1, cells := 0, slots := 0, locals := 60 } : Room) (PR D ca zz [.ref a0, .ref b0] sz [(a0, .inr (7, [.ref a1, .ref a2, .ref a3, .ref a4, .int v0.2.2.2.2])), (a1, .inl (ca 0, 9, .inl v0.1)), (a2, .inl (ca 0, 4, .inl v0.2.1)), (a3, .inl (ca 0, 4, .inl v0.2.2.1)), (a4, .inl (ca 0, 4, .inl v0.2.2.2.1)), (b0, .inr (7, [.ref b1, .ref b2, .ref b3, .ref b4, .int v1.2.2.2.2])), (b1, .inl (ca 0, 9, .inl v1.1)), (b2, .inl (ca 0, 4, .inl v1.2.1)), (b3, .inl (ca 0, 4, .inl v1.2.2.1)), (b4, .inl (ca 0, 4, .inl v1.2.2.2.1))]) (QV D ca [(a0, .inr (7, [.ref a1, .ref a2, .ref a3, .ref a4, .int v0'.2.2.2.2])), (a1, .inl (ca 0, 9, .inl v0'.1)), (a2, .inl (ca 0, 4, .inl v0'.2.1)), (a3, .inl (ca 0, 4, .inl v0'.2.2.1)), (a4, .inl (ca 0, 4, .inl v0'.2.2.2.1)), (b0, .inr (7, [.ref b1, .ref b2, .ref b3, .ref b4, .int v1.2.2.2.2])), (b1, .inl (ca 0, 9, .inl v1.1)), (b2, .inl (ca 0, 4, .inl v1.2.1)), (b3, .inl (ca 0, 4, .inl v1.2.2.1)), (b4, .inl (ca 0, 4, .inl v1.2.2.2.1))] (va_A [(a0, .inr (7, [.ref a1, .ref a2, .ref a3, .ref a4, .int v0.2.2.2.2])), (a1, .inl (ca 0, 9, .inl v0.1)), (a2, .inl (ca 0, 4, .inl v0.2.1)), (a3, .inl (ca 0, 4, .inl v0.2.2.1)), (a4, .inl (ca 0, 4, .inl v0.2.2.2.1)), (b0, .inr (7, [.ref b1, .ref b2, .ref b3, .ref b4, .int v1.2.2.2.2])), (b1, .inl (ca 0, 9, .inl v1.1)), (b2, .inl (ca 0, 4, .inl v1.2.1)), (b3, .inl (ca 0, 4, .inl v1.2.2.1)), (b4, .inl (ca 0, 4, .inl v1.2.2.2.1))] sz)) 0 0 (va_A [(a0, .inr (7, [.ref a1, .ref a2, .ref a3, .ref a4, .int v0.2.2.2.2])), (a1, .inl (ca 0, 9, .inl v0.1)), (a2, .inl (ca 0, 4, .inl v0.2.1)), (a3, .inl (ca 0, 4, .inl v0.2.2.1)), (a4, .inl (ca 0, 4, .inl v0.2.2.2.1)), (b0, .inr (7, [.ref b1, .ref b2, .ref b3, .ref b4, .int v1.2.2.2.2])), (b1, .inl (ca 0, 9, .inl v1.1)), (b2, .inl (ca 0, 4, .inl v1.2.1)), (b3, .inl (ca 0, 4, .inl v1.2.2.1)), (b4, .inl (ca 0, 4, .inl v1.2.2.2.1))] sz) := by
  refine en (y := yX7_copyFrom) (wsm := wq_X7_copyFrom) (av := [.ref a0, .ref b0]) (cc := cX7_copyFrom) (maxL := 2) (ret := none) (Qf := fun A => QV D ca [(a0, .inr (7, [.ref a1, .ref a2, .ref a3, .ref a4, .int v0'.2.2.2.2])), (a1, .inl (ca 0, 9, .inl v0'.1)), (a2, .inl (ca 0, 4, .inl v0'.2.1)), (a3, .inl (ca 0, 4, .inl v0'.2.2.1)), (a4, .inl (ca 0, 4, .inl v0'.2.2.2.1)), (b0, .inr (7, [.ref b1, .ref b2, .ref b3, .ref b4, .int v1.2.2.2.2])), (b1, .inl (ca 0, 9, .inl v1.1)), (b2, .inl (ca 0, 4, .inl v1.2.1)), (b3, .inl (ca 0, 4, .inl v1.2.2.1)), (b4, .inl (ca 0, 4, .inl v1.2.2.2.1))] A) (by decide) rfl (Nat.le_of_ble_eq_true rfl) ?_
  intro p e s m args below meth c A Q ls hx hb hr hml hown hts hlocks hnm hA hN hZ hK hQ hP hD hS hl
  have w0 := hts _ (List.mem_cons_of_mem _ gw_1_55)
  have w1 := hts _ (List.mem_cons_of_mem _ gw_2_235)
  have w2 := hts _ (List.mem_cons_of_mem _ gw_2_30)
  have w3 := hts _ (List.mem_cons_of_mem _ gw_1_11)
  have w4 := hts _ (List.mem_cons_of_mem _ gw_2_31)
  have w5 := hts _ (List.mem_cons_of_mem _ gw_2_236)
  have w6 := hts _ (List.mem_cons_of_mem _ gw_2_238)
  have w7 := hts _ (List.mem_cons_of_mem _ gw_2_237)
  have w8 := hts _ (List.mem_cons_of_mem _ gw_1_16)
  have w9 := hts _ (List.mem_cons_of_mem _ gw_1_56)
  have w10 := hts _ (List.mem_cons_of_mem _ gw_1_57)
  have w11 := hts _ (List.mem_cons_of_mem _ gw_1_58)
  have w12 := hts _ (List.mem_cons_of_mem _ gw_1_59)
  have i7 : ∀ w ∈ u_ws RX7 TX7 5, w ∈ wq_X7_copyFrom := fun w h => List.mem_cons_of_mem _ (inX7 w h)
  unfold f_X7_copyFrom at hf
  refine lv_aload_n hx hb dX7_copyFrom_0 rfl (lv_at hl 1 rfl) ?_
  refine va_get (C := RX7) (T := TX7) (N := 5) hx hb hts i7 hown hK hP 5 rfl rfl 0 (Nat.le_of_ble_eq_true rfl) w0 (fun _ h9 => h9) rfl dX7_copyFrom_1 ?_
  refine lv_iconst (v := 0) hx hb dX7_copyFrom_4 rfl ?_
  refine lv_aload_n hx hb dX7_copyFrom_5 rfl (lv_at hl 0 rfl) ?_
  refine va_get (C := RX7) (T := TX7) (N := 5) hx hb hts i7 hown hK hP 0 rfl rfl 0 (Nat.le_of_ble_eq_true rfl) w0 (fun _ h9 => h9) rfl dX7_copyFrom_6 ?_
  refine lv_iconst (v := 0) hx hb dX7_copyFrom_9 rfl ?_
  refine lv_aload_n hx hb dX7_copyFrom_10 rfl (lv_at hl 1 rfl) ?_
  refine va_get (C := RX7) (T := TX7) (N := 5) hx hb hts i7 hown hK hP 5 rfl rfl 0 (Nat.le_of_ble_eq_true rfl) w0 (fun _ h9 => h9) rfl dX7_copyFrom_11 ?_
  refine va_alen hx hb hK hP 6 0 rfl rfl (v := (9 : Int32)) rfl dX7_copyFrom_14 ?_
  refine lv_aload_n hx hb dX7_copyFrom_15 rfl (lv_at hl 0 rfl) ?_
  refine va_get (C := RX7) (T := TX7) (N := 5) hx hb hts i7 hown hK hP 0 rfl rfl 0 (Nat.le_of_ble_eq_true rfl) w0 (fun _ h9 => h9) rfl dX7_copyFrom_16 ?_
  refine va_alen hx hb hK hP 1 0 rfl rfl (v := (9 : Int32)) rfl dX7_copyFrom_19 ?_
  refine va_mmin hx hb (hml.trans hl.1.symm) hown w1 w2 w3 w4 (Nat.le_of_ble_eq_true rfl) (Nat.le_of_ble_eq_true rfl) (Nat.zero_le _) (Nat.zero_le _) dX7_copyFrom_20 ?_
  refine xnm hf (fun x_1 hf => ?_)
  refine xcopyi (wx := [(a0, .inr (7, [.ref a1, .ref a2, .ref a3, .ref a4, .int v0.2.2.2.2])), (a1, .inl (ca 0, 9, .inl ((va_cpy v1.1 v0.1 ((0 : Int32)).toNatClampNeg ((0 : Int32)).toNatClampNeg (x_1).toNatClampNeg)))), (a2, .inl (ca 0, 4, .inl v0.2.1)), (a3, .inl (ca 0, 4, .inl v0.2.2.1)), (a4, .inl (ca 0, 4, .inl v0.2.2.2.1)), (b0, .inr (7, [.ref b1, .ref b2, .ref b3, .ref b4, .int v1.2.2.2.2])), (b1, .inl (ca 0, 9, .inl v1.1)), (b2, .inl (ca 0, 4, .inl v1.2.1)), (b3, .inl (ca 0, 4, .inl v1.2.2.1)), (b4, .inl (ca 0, 4, .inl v1.2.2.2.1))]) hx hb (hml.trans hl.1.symm) hown w5 w6 w7 w8 hK hP hD hS 6 1 rfl rfl hf (Nat.le_of_ble_eq_true rfl) (Nat.le_of_ble_eq_true rfl) dX7_copyFrom_23 rfl (fun H locs hf hP hD hS => ?_)
  obtain ⟨y_2, ey_2, hf⟩ := bnd_el hf
  rw [← ey_2] at hP hD
  refine lv_aload_n hx hb dX7_copyFrom_26 rfl (lv_at hl 1 rfl) ?_
  refine va_get (C := RX7) (T := TX7) (N := 5) hx hb hts i7 hown hK hP 5 rfl rfl 1 (Nat.le_of_ble_eq_true rfl) w9 (fun _ h9 => h9) rfl dX7_copyFrom_27 ?_
  refine lv_iconst (v := 0) hx hb dX7_copyFrom_30 rfl ?_
  refine lv_aload_n hx hb dX7_copyFrom_31 rfl (lv_at hl 0 rfl) ?_
  refine va_get (C := RX7) (T := TX7) (N := 5) hx hb hts i7 hown hK hP 0 rfl rfl 1 (Nat.le_of_ble_eq_true rfl) w9 (fun _ h9 => h9) rfl dX7_copyFrom_32 ?_
  refine lv_iconst (v := 0) hx hb dX7_copyFrom_35 rfl ?_
  refine lv_iconst (v := 4) hx hb dX7_copyFrom_36 rfl ?_
  refine xcopyi (wx := [(a0, .inr (7, [.ref a1, .ref a2, .ref a3, .ref a4, .int v0.2.2.2.2])), (a1, .inl (ca 0, 9, .inl y_2)), (a2, .inl (ca 0, 4, .inl ((va_cpy v1.2.1 v0.2.1 ((0 : Int32)).toNatClampNeg ((0 : Int32)).toNatClampNeg ((4 : Int32)).toNatClampNeg)))), (a3, .inl (ca 0, 4, .inl v0.2.2.1)), (a4, .inl (ca 0, 4, .inl v0.2.2.2.1)), (b0, .inr (7, [.ref b1, .ref b2, .ref b3, .ref b4, .int v1.2.2.2.2])), (b1, .inl (ca 0, 9, .inl v1.1)), (b2, .inl (ca 0, 4, .inl v1.2.1)), (b3, .inl (ca 0, 4, .inl v1.2.2.1)), (b4, .inl (ca 0, 4, .inl v1.2.2.2.1))]) hx hb (hml.trans hl.1.symm) hown w5 w6 w7 w8 hK hP hD hS 7 2 rfl rfl hf (Nat.le_of_ble_eq_true rfl) (Nat.le_of_ble_eq_true rfl) dX7_copyFrom_37 rfl (fun H locs hf hP hD hS => ?_)
  obtain ⟨y_3, ey_3, hf⟩ := bnd_el hf
  rw [← ey_3] at hP hD
  refine lv_aload_n hx hb dX7_copyFrom_40 rfl (lv_at hl 1 rfl) ?_
  refine va_get (C := RX7) (T := TX7) (N := 5) hx hb hts i7 hown hK hP 5 rfl rfl 2 (Nat.le_of_ble_eq_true rfl) w10 (fun _ h9 => h9) rfl dX7_copyFrom_41 ?_
  refine lv_iconst (v := 0) hx hb dX7_copyFrom_44 rfl ?_
  refine lv_aload_n hx hb dX7_copyFrom_45 rfl (lv_at hl 0 rfl) ?_
  refine va_get (C := RX7) (T := TX7) (N := 5) hx hb hts i7 hown hK hP 0 rfl rfl 2 (Nat.le_of_ble_eq_true rfl) w10 (fun _ h9 => h9) rfl dX7_copyFrom_46 ?_
  refine lv_iconst (v := 0) hx hb dX7_copyFrom_49 rfl ?_
  refine lv_iconst (v := 4) hx hb dX7_copyFrom_50 rfl ?_
  refine xcopyi (wx := [(a0, .inr (7, [.ref a1, .ref a2, .ref a3, .ref a4, .int v0.2.2.2.2])), (a1, .inl (ca 0, 9, .inl y_2)), (a2, .inl (ca 0, 4, .inl y_3)), (a3, .inl (ca 0, 4, .inl ((va_cpy v1.2.2.1 v0.2.2.1 ((0 : Int32)).toNatClampNeg ((0 : Int32)).toNatClampNeg ((4 : Int32)).toNatClampNeg)))), (a4, .inl (ca 0, 4, .inl v0.2.2.2.1)), (b0, .inr (7, [.ref b1, .ref b2, .ref b3, .ref b4, .int v1.2.2.2.2])), (b1, .inl (ca 0, 9, .inl v1.1)), (b2, .inl (ca 0, 4, .inl v1.2.1)), (b3, .inl (ca 0, 4, .inl v1.2.2.1)), (b4, .inl (ca 0, 4, .inl v1.2.2.2.1))]) hx hb (hml.trans hl.1.symm) hown w5 w6 w7 w8 hK hP hD hS 8 3 rfl rfl hf (Nat.le_of_ble_eq_true rfl) (Nat.le_of_ble_eq_true rfl) dX7_copyFrom_51 rfl (fun H locs hf hP hD hS => ?_)
  obtain ⟨y_4, ey_4, hf⟩ := bnd_el hf
  rw [← ey_4] at hP hD
  refine lv_aload_n hx hb dX7_copyFrom_54 rfl (lv_at hl 1 rfl) ?_
  refine va_get (C := RX7) (T := TX7) (N := 5) hx hb hts i7 hown hK hP 5 rfl rfl 3 (Nat.le_of_ble_eq_true rfl) w11 (fun _ h9 => h9) rfl dX7_copyFrom_55 ?_
  refine lv_iconst (v := 0) hx hb dX7_copyFrom_58 rfl ?_
  refine lv_aload_n hx hb dX7_copyFrom_59 rfl (lv_at hl 0 rfl) ?_
  refine va_get (C := RX7) (T := TX7) (N := 5) hx hb hts i7 hown hK hP 0 rfl rfl 3 (Nat.le_of_ble_eq_true rfl) w11 (fun _ h9 => h9) rfl dX7_copyFrom_60 ?_
  refine lv_iconst (v := 0) hx hb dX7_copyFrom_63 rfl ?_
  refine lv_iconst (v := 4) hx hb dX7_copyFrom_64 rfl ?_
  refine xcopyi (wx := [(a0, .inr (7, [.ref a1, .ref a2, .ref a3, .ref a4, .int v0.2.2.2.2])), (a1, .inl (ca 0, 9, .inl y_2)), (a2, .inl (ca 0, 4, .inl y_3)), (a3, .inl (ca 0, 4, .inl y_4)), (a4, .inl (ca 0, 4, .inl ((va_cpy v1.2.2.2.1 v0.2.2.2.1 ((0 : Int32)).toNatClampNeg ((0 : Int32)).toNatClampNeg ((4 : Int32)).toNatClampNeg)))), (b0, .inr (7, [.ref b1, .ref b2, .ref b3, .ref b4, .int v1.2.2.2.2])), (b1, .inl (ca 0, 9, .inl v1.1)), (b2, .inl (ca 0, 4, .inl v1.2.1)), (b3, .inl (ca 0, 4, .inl v1.2.2.1)), (b4, .inl (ca 0, 4, .inl v1.2.2.2.1))]) hx hb (hml.trans hl.1.symm) hown w5 w6 w7 w8 hK hP hD hS 9 4 rfl rfl hf (Nat.le_of_ble_eq_true rfl) (Nat.le_of_ble_eq_true rfl) dX7_copyFrom_65 rfl (fun H locs hf hP hD hS => ?_)
  obtain ⟨y_5, ey_5, hf⟩ := bnd_el hf
  rw [← ey_5] at hP hD
  refine lv_aload_n hx hb dX7_copyFrom_68 rfl (lv_at hl 0 rfl) ?_
  refine lv_aload_n hx hb dX7_copyFrom_69 rfl (lv_at hl 1 rfl) ?_
  refine va_get (C := RX7) (T := TX7) (N := 5) hx hb hts i7 hown hK hP 5 rfl rfl 4 (Nat.le_of_ble_eq_true rfl) w12 (fun _ h9 => h9) rfl dX7_copyFrom_70 ?_
  refine xput (C := RX7) (T := TX7) (N := 5) (wx := [(a0, .inr (7, [.ref a1, .ref a2, .ref a3, .ref a4, .int v1.2.2.2.2])), (a1, .inl (ca 0, 9, .inl y_2)), (a2, .inl (ca 0, 4, .inl y_3)), (a3, .inl (ca 0, 4, .inl y_4)), (a4, .inl (ca 0, 4, .inl y_5)), (b0, .inr (7, [.ref b1, .ref b2, .ref b3, .ref b4, .int v1.2.2.2.2])), (b1, .inl (ca 0, 9, .inl v1.1)), (b2, .inl (ca 0, 4, .inl v1.2.1)), (b3, .inl (ca 0, 4, .inl v1.2.2.1)), (b4, .inl (ca 0, 4, .inl v1.2.2.2.1))]) hx hb hts i7 tyX7 tyX7_ok nmX7 hown hK hP hD hS 0 rfl rfl 4 (Nat.le_of_ble_eq_true rfl) w12 (fun _ h9 => h9) rfl rfl rfl rfl (Nat.le_of_ble_eq_true rfl) dX7_copyFrom_73 rfl (fun H locs hP hD hS => ?_)
  cases hf
  exact rt_V hx hb hr hlocks hK hP hD hS hQ rfl dX7_copyFrom_76
abbrev wq_X11_settings : List Cond := Cond.code yX11_settings cX11_settings 1 (some .int) :: GL
set_option maxHeartbeats 4000000 in
set_option maxRecDepth 100000 in
theorem c_X11_settings (l : Launch) (D : va_G) (ca : Nat → ClassId) (zz : Nat → Nat) (a0 a1 a2 a3 a4 a5 a6 a7 a8 a9 a10 a11 a12 a13 a14 a15 a16 a17 a18 a19 a20 a21 a41 a42 a43 a44 a45 a46 a47 a48 a49 a52 a54 a55 : Nat) (sz : Nat) (v0 : V11) (r : Int32) (v0' : V11) (hf : f_X11_settings v0 = some (r, v0')) : Met l yX11_settings wq_X11_settings ({ frames := 4, cells := 0, slots := 0, locals := 102 } : Room) (PR D ca zz [.ref a0] sz [(a0, .inr (11, [.ref a1, .ref a21, .ref a41, .ref a42, .ref a49, .ref a52, .ref a54, .ref a55])), (a1, .inr (10, [.ref a2, .ref a7, .ref a9, .ref a10, .ref a11, .ref a14, .ref a16, .ref a19, .int v0.1.2.2.2.2.2.2.2.2.1, .int v0.1.2.2.2.2.2.2.2.2.2.1, .int v0.1.2.2.2.2.2.2.2.2.2.2.1, .int v0.1.2.2.2.2.2.2.2.2.2.2.2.1, .int v0.1.2.2.2.2.2.2.2.2.2.2.2.2.1, .int v0.1.2.2.2.2.2.2.2.2.2.2.2.2.2])), (a2, .inr (7, [.ref a3, .ref a4, .ref a5, .ref a6, .int v0.1.1.2.2.2.2])), (a3, .inl (ca 0, 9, .inl v0.1.1.1)), (a4, .inl (ca 0, 4, .inl v0.1.1.2.1)), (a5, .inl (ca 0, 4, .inl v0.1.1.2.2.1)), (a6, .inl (ca 0, 4, .inl v0.1.1.2.2.2.1)), (a7, .inr (2, [.ref a8, .int v0.1.2.1.2.1, .int v0.1.2.1.2.2.1, .int v0.1.2.1.2.2.2.1, .int v0.1.2.1.2.2.2.2])), (a8, .inl (ca 1, 17, .inr (.inl v0.1.2.1.1))), (a9, .inr (8, [.int v0.1.2.2.1.1, .int v0.1.2.2.1.2.1, .int v0.1.2.2.1.2.2])), (a10, .inr (1, [.int v0.1.2.2.2.1.1, .int v0.1.2.2.2.1.2.1, .int v0.1.2.2.2.1.2.2.1, .int v0.1.2.2.2.1.2.2.2.1, .int v0.1.2.2.2.1.2.2.2.2.1, .int v0.1.2.2.2.1.2.2.2.2.2])), (a11, .inr (3, [.ref a12, .int v0.1.2.2.2.2.1.2.1, .int v0.1.2.2.2.2.1.2.2.1, .int v0.1.2.2.2.2.1.2.2.2.1, .int v0.1.2.2.2.2.1.2.2.2.2.1, .int v0.1.2.2.2.2.1.2.2.2.2.2.1, .int v0.1.2.2.2.2.1.2.2.2.2.2.2])), (a12, .inr (4, [.ref a13, .int v0.1.2.2.2.2.1.1.2.1, .int v0.1.2.2.2.2.1.1.2.2])), (a14, .inr (4, [.ref a15, .int v0.1.2.2.2.2.2.1.2.1, .int v0.1.2.2.2.2.2.1.2.2])), (a16, .inr (6, [.ref a17, .ref a18, .int v0.1.2.2.2.2.2.2.1.2.2])), (a19, .inr (9, [.ref a20, .int v0.1.2.2.2.2.2.2.2.1.2.1, .int v0.1.2.2.2.2.2.2.2.1.2.2.1, .int v0.1.2.2.2.2.2.2.2.1.2.2.2])), (a20, .inl (ca 0, 300, .inl v0.1.2.2.2.2.2.2.2.1.1)), (a42, .inr (5, [.ref a43, .ref a48, .int v0.2.2.2.1.2.2.1, .int v0.2.2.2.1.2.2.2.1, .int v0.2.2.2.1.2.2.2.2.1, .int v0.2.2.2.1.2.2.2.2.2.1, .int v0.2.2.2.1.2.2.2.2.2.2.1, .int v0.2.2.2.1.2.2.2.2.2.2.2])), (a43, .inr (7, [.ref a44, .ref a45, .ref a46, .ref a47, .int v0.2.2.2.1.1.2.2.2.2])), (a44, .inl (ca 0, 9, .inl v0.2.2.2.1.1.1)), (a45, .inl (ca 0, 4, .inl v0.2.2.2.1.1.2.1)), (a46, .inl (ca 0, 4, .inl v0.2.2.2.1.1.2.2.1)), (a47, .inl (ca 0, 4, .inl v0.2.2.2.1.1.2.2.2.1))]) (QI D ca r [(a0, .inr (11, [.ref a1, .ref a21, .ref a41, .ref a42, .ref a49, .ref a52, .ref a54, .ref a55])), (a1, .inr (10, [.ref a2, .ref a7, .ref a9, .ref a10, .ref a11, .ref a14, .ref a16, .ref a19, .int v0'.1.2.2.2.2.2.2.2.2.1, .int v0'.1.2.2.2.2.2.2.2.2.2.1, .int v0'.1.2.2.2.2.2.2.2.2.2.2.1, .int v0'.1.2.2.2.2.2.2.2.2.2.2.2.1, .int v0'.1.2.2.2.2.2.2.2.2.2.2.2.2.1, .int v0'.1.2.2.2.2.2.2.2.2.2.2.2.2.2])), (a2, .inr (7, [.ref a3, .ref a4, .ref a5, .ref a6, .int v0'.1.1.2.2.2.2])), (a3, .inl (ca 0, 9, .inl v0'.1.1.1)), (a4, .inl (ca 0, 4, .inl v0'.1.1.2.1)), (a5, .inl (ca 0, 4, .inl v0'.1.1.2.2.1)), (a6, .inl (ca 0, 4, .inl v0'.1.1.2.2.2.1)), (a7, .inr (2, [.ref a8, .int v0'.1.2.1.2.1, .int v0'.1.2.1.2.2.1, .int v0'.1.2.1.2.2.2.1, .int v0'.1.2.1.2.2.2.2])), (a8, .inl (ca 1, 17, .inr (.inl v0'.1.2.1.1))), (a9, .inr (8, [.int v0'.1.2.2.1.1, .int v0'.1.2.2.1.2.1, .int v0'.1.2.2.1.2.2])), (a10, .inr (1, [.int v0'.1.2.2.2.1.1, .int v0'.1.2.2.2.1.2.1, .int v0'.1.2.2.2.1.2.2.1, .int v0'.1.2.2.2.1.2.2.2.1, .int v0'.1.2.2.2.1.2.2.2.2.1, .int v0'.1.2.2.2.1.2.2.2.2.2])), (a11, .inr (3, [.ref a12, .int v0'.1.2.2.2.2.1.2.1, .int v0'.1.2.2.2.2.1.2.2.1, .int v0'.1.2.2.2.2.1.2.2.2.1, .int v0'.1.2.2.2.2.1.2.2.2.2.1, .int v0'.1.2.2.2.2.1.2.2.2.2.2.1, .int v0'.1.2.2.2.2.1.2.2.2.2.2.2])), (a12, .inr (4, [.ref a13, .int v0'.1.2.2.2.2.1.1.2.1, .int v0'.1.2.2.2.2.1.1.2.2])), (a14, .inr (4, [.ref a15, .int v0'.1.2.2.2.2.2.1.2.1, .int v0'.1.2.2.2.2.2.1.2.2])), (a16, .inr (6, [.ref a17, .ref a18, .int v0'.1.2.2.2.2.2.2.1.2.2])), (a19, .inr (9, [.ref a20, .int v0'.1.2.2.2.2.2.2.2.1.2.1, .int v0'.1.2.2.2.2.2.2.2.1.2.2.1, .int v0'.1.2.2.2.2.2.2.2.1.2.2.2])), (a20, .inl (ca 0, 300, .inl v0'.1.2.2.2.2.2.2.2.1.1)), (a42, .inr (5, [.ref a43, .ref a48, .int v0'.2.2.2.1.2.2.1, .int v0'.2.2.2.1.2.2.2.1, .int v0'.2.2.2.1.2.2.2.2.1, .int v0'.2.2.2.1.2.2.2.2.2.1, .int v0'.2.2.2.1.2.2.2.2.2.2.1, .int v0'.2.2.2.1.2.2.2.2.2.2.2])), (a43, .inr (7, [.ref a44, .ref a45, .ref a46, .ref a47, .int v0'.2.2.2.1.1.2.2.2.2])), (a44, .inl (ca 0, 9, .inl v0'.2.2.2.1.1.1)), (a45, .inl (ca 0, 4, .inl v0'.2.2.2.1.1.2.1)), (a46, .inl (ca 0, 4, .inl v0'.2.2.2.1.1.2.2.1)), (a47, .inl (ca 0, 4, .inl v0'.2.2.2.1.1.2.2.2.1))] (va_A [(a0, .inr (11, [.ref a1, .ref a21, .ref a41, .ref a42, .ref a49, .ref a52, .ref a54, .ref a55])), (a1, .inr (10, [.ref a2, .ref a7, .ref a9, .ref a10, .ref a11, .ref a14, .ref a16, .ref a19, .int v0.1.2.2.2.2.2.2.2.2.1, .int v0.1.2.2.2.2.2.2.2.2.2.1, .int v0.1.2.2.2.2.2.2.2.2.2.2.1, .int v0.1.2.2.2.2.2.2.2.2.2.2.2.1, .int v0.1.2.2.2.2.2.2.2.2.2.2.2.2.1, .int v0.1.2.2.2.2.2.2.2.2.2.2.2.2.2])), (a2, .inr (7, [.ref a3, .ref a4, .ref a5, .ref a6, .int v0.1.1.2.2.2.2])), (a3, .inl (ca 0, 9, .inl v0.1.1.1)), (a4, .inl (ca 0, 4, .inl v0.1.1.2.1)), (a5, .inl (ca 0, 4, .inl v0.1.1.2.2.1)), (a6, .inl (ca 0, 4, .inl v0.1.1.2.2.2.1)), (a7, .inr (2, [.ref a8, .int v0.1.2.1.2.1, .int v0.1.2.1.2.2.1, .int v0.1.2.1.2.2.2.1, .int v0.1.2.1.2.2.2.2])), (a8, .inl (ca 1, 17, .inr (.inl v0.1.2.1.1))), (a9, .inr (8, [.int v0.1.2.2.1.1, .int v0.1.2.2.1.2.1, .int v0.1.2.2.1.2.2])), (a10, .inr (1, [.int v0.1.2.2.2.1.1, .int v0.1.2.2.2.1.2.1, .int v0.1.2.2.2.1.2.2.1, .int v0.1.2.2.2.1.2.2.2.1, .int v0.1.2.2.2.1.2.2.2.2.1, .int v0.1.2.2.2.1.2.2.2.2.2])), (a11, .inr (3, [.ref a12, .int v0.1.2.2.2.2.1.2.1, .int v0.1.2.2.2.2.1.2.2.1, .int v0.1.2.2.2.2.1.2.2.2.1, .int v0.1.2.2.2.2.1.2.2.2.2.1, .int v0.1.2.2.2.2.1.2.2.2.2.2.1, .int v0.1.2.2.2.2.1.2.2.2.2.2.2])), (a12, .inr (4, [.ref a13, .int v0.1.2.2.2.2.1.1.2.1, .int v0.1.2.2.2.2.1.1.2.2])), (a14, .inr (4, [.ref a15, .int v0.1.2.2.2.2.2.1.2.1, .int v0.1.2.2.2.2.2.1.2.2])), (a16, .inr (6, [.ref a17, .ref a18, .int v0.1.2.2.2.2.2.2.1.2.2])), (a19, .inr (9, [.ref a20, .int v0.1.2.2.2.2.2.2.2.1.2.1, .int v0.1.2.2.2.2.2.2.2.1.2.2.1, .int v0.1.2.2.2.2.2.2.2.1.2.2.2])), (a20, .inl (ca 0, 300, .inl v0.1.2.2.2.2.2.2.2.1.1)), (a42, .inr (5, [.ref a43, .ref a48, .int v0.2.2.2.1.2.2.1, .int v0.2.2.2.1.2.2.2.1, .int v0.2.2.2.1.2.2.2.2.1, .int v0.2.2.2.1.2.2.2.2.2.1, .int v0.2.2.2.1.2.2.2.2.2.2.1, .int v0.2.2.2.1.2.2.2.2.2.2.2])), (a43, .inr (7, [.ref a44, .ref a45, .ref a46, .ref a47, .int v0.2.2.2.1.1.2.2.2.2])), (a44, .inl (ca 0, 9, .inl v0.2.2.2.1.1.1)), (a45, .inl (ca 0, 4, .inl v0.2.2.2.1.1.2.1)), (a46, .inl (ca 0, 4, .inl v0.2.2.2.1.1.2.2.1)), (a47, .inl (ca 0, 4, .inl v0.2.2.2.1.1.2.2.2.1))] sz)) 0 0 (va_A [(a0, .inr (11, [.ref a1, .ref a21, .ref a41, .ref a42, .ref a49, .ref a52, .ref a54, .ref a55])), (a1, .inr (10, [.ref a2, .ref a7, .ref a9, .ref a10, .ref a11, .ref a14, .ref a16, .ref a19, .int v0.1.2.2.2.2.2.2.2.2.1, .int v0.1.2.2.2.2.2.2.2.2.2.1, .int v0.1.2.2.2.2.2.2.2.2.2.2.1, .int v0.1.2.2.2.2.2.2.2.2.2.2.2.1, .int v0.1.2.2.2.2.2.2.2.2.2.2.2.2.1, .int v0.1.2.2.2.2.2.2.2.2.2.2.2.2.2])), (a2, .inr (7, [.ref a3, .ref a4, .ref a5, .ref a6, .int v0.1.1.2.2.2.2])), (a3, .inl (ca 0, 9, .inl v0.1.1.1)), (a4, .inl (ca 0, 4, .inl v0.1.1.2.1)), (a5, .inl (ca 0, 4, .inl v0.1.1.2.2.1)), (a6, .inl (ca 0, 4, .inl v0.1.1.2.2.2.1)), (a7, .inr (2, [.ref a8, .int v0.1.2.1.2.1, .int v0.1.2.1.2.2.1, .int v0.1.2.1.2.2.2.1, .int v0.1.2.1.2.2.2.2])), (a8, .inl (ca 1, 17, .inr (.inl v0.1.2.1.1))), (a9, .inr (8, [.int v0.1.2.2.1.1, .int v0.1.2.2.1.2.1, .int v0.1.2.2.1.2.2])), (a10, .inr (1, [.int v0.1.2.2.2.1.1, .int v0.1.2.2.2.1.2.1, .int v0.1.2.2.2.1.2.2.1, .int v0.1.2.2.2.1.2.2.2.1, .int v0.1.2.2.2.1.2.2.2.2.1, .int v0.1.2.2.2.1.2.2.2.2.2])), (a11, .inr (3, [.ref a12, .int v0.1.2.2.2.2.1.2.1, .int v0.1.2.2.2.2.1.2.2.1, .int v0.1.2.2.2.2.1.2.2.2.1, .int v0.1.2.2.2.2.1.2.2.2.2.1, .int v0.1.2.2.2.2.1.2.2.2.2.2.1, .int v0.1.2.2.2.2.1.2.2.2.2.2.2])), (a12, .inr (4, [.ref a13, .int v0.1.2.2.2.2.1.1.2.1, .int v0.1.2.2.2.2.1.1.2.2])), (a14, .inr (4, [.ref a15, .int v0.1.2.2.2.2.2.1.2.1, .int v0.1.2.2.2.2.2.1.2.2])), (a16, .inr (6, [.ref a17, .ref a18, .int v0.1.2.2.2.2.2.2.1.2.2])), (a19, .inr (9, [.ref a20, .int v0.1.2.2.2.2.2.2.2.1.2.1, .int v0.1.2.2.2.2.2.2.2.1.2.2.1, .int v0.1.2.2.2.2.2.2.2.1.2.2.2])), (a20, .inl (ca 0, 300, .inl v0.1.2.2.2.2.2.2.2.1.1)), (a42, .inr (5, [.ref a43, .ref a48, .int v0.2.2.2.1.2.2.1, .int v0.2.2.2.1.2.2.2.1, .int v0.2.2.2.1.2.2.2.2.1, .int v0.2.2.2.1.2.2.2.2.2.1, .int v0.2.2.2.1.2.2.2.2.2.2.1, .int v0.2.2.2.1.2.2.2.2.2.2.2])), (a43, .inr (7, [.ref a44, .ref a45, .ref a46, .ref a47, .int v0.2.2.2.1.1.2.2.2.2])), (a44, .inl (ca 0, 9, .inl v0.2.2.2.1.1.1)), (a45, .inl (ca 0, 4, .inl v0.2.2.2.1.1.2.1)), (a46, .inl (ca 0, 4, .inl v0.2.2.2.1.1.2.2.1)), (a47, .inl (ca 0, 4, .inl v0.2.2.2.1.1.2.2.2.1))] sz) := by
  refine en (y := yX11_settings) (wsm := wq_X11_settings) (av := [.ref a0]) (cc := cX11_settings) (maxL := 1) (ret := (some .int)) (Qf := fun A => QI D ca r [(a0, .inr (11, [.ref a1, .ref a21, .ref a41, .ref a42, .ref a49, .ref a52, .ref a54, .ref a55])), (a1, .inr (10, [.ref a2, .ref a7, .ref a9, .ref a10, .ref a11, .ref a14, .ref a16, .ref a19, .int v0'.1.2.2.2.2.2.2.2.2.1, .int v0'.1.2.2.2.2.2.2.2.2.2.1, .int v0'.1.2.2.2.2.2.2.2.2.2.2.1, .int v0'.1.2.2.2.2.2.2.2.2.2.2.2.1, .int v0'.1.2.2.2.2.2.2.2.2.2.2.2.2.1, .int v0'.1.2.2.2.2.2.2.2.2.2.2.2.2.2])), (a2, .inr (7, [.ref a3, .ref a4, .ref a5, .ref a6, .int v0'.1.1.2.2.2.2])), (a3, .inl (ca 0, 9, .inl v0'.1.1.1)), (a4, .inl (ca 0, 4, .inl v0'.1.1.2.1)), (a5, .inl (ca 0, 4, .inl v0'.1.1.2.2.1)), (a6, .inl (ca 0, 4, .inl v0'.1.1.2.2.2.1)), (a7, .inr (2, [.ref a8, .int v0'.1.2.1.2.1, .int v0'.1.2.1.2.2.1, .int v0'.1.2.1.2.2.2.1, .int v0'.1.2.1.2.2.2.2])), (a8, .inl (ca 1, 17, .inr (.inl v0'.1.2.1.1))), (a9, .inr (8, [.int v0'.1.2.2.1.1, .int v0'.1.2.2.1.2.1, .int v0'.1.2.2.1.2.2])), (a10, .inr (1, [.int v0'.1.2.2.2.1.1, .int v0'.1.2.2.2.1.2.1, .int v0'.1.2.2.2.1.2.2.1, .int v0'.1.2.2.2.1.2.2.2.1, .int v0'.1.2.2.2.1.2.2.2.2.1, .int v0'.1.2.2.2.1.2.2.2.2.2])), (a11, .inr (3, [.ref a12, .int v0'.1.2.2.2.2.1.2.1, .int v0'.1.2.2.2.2.1.2.2.1, .int v0'.1.2.2.2.2.1.2.2.2.1, .int v0'.1.2.2.2.2.1.2.2.2.2.1, .int v0'.1.2.2.2.2.1.2.2.2.2.2.1, .int v0'.1.2.2.2.2.1.2.2.2.2.2.2])), (a12, .inr (4, [.ref a13, .int v0'.1.2.2.2.2.1.1.2.1, .int v0'.1.2.2.2.2.1.1.2.2])), (a14, .inr (4, [.ref a15, .int v0'.1.2.2.2.2.2.1.2.1, .int v0'.1.2.2.2.2.2.1.2.2])), (a16, .inr (6, [.ref a17, .ref a18, .int v0'.1.2.2.2.2.2.2.1.2.2])), (a19, .inr (9, [.ref a20, .int v0'.1.2.2.2.2.2.2.2.1.2.1, .int v0'.1.2.2.2.2.2.2.2.1.2.2.1, .int v0'.1.2.2.2.2.2.2.2.1.2.2.2])), (a20, .inl (ca 0, 300, .inl v0'.1.2.2.2.2.2.2.2.1.1)), (a42, .inr (5, [.ref a43, .ref a48, .int v0'.2.2.2.1.2.2.1, .int v0'.2.2.2.1.2.2.2.1, .int v0'.2.2.2.1.2.2.2.2.1, .int v0'.2.2.2.1.2.2.2.2.2.1, .int v0'.2.2.2.1.2.2.2.2.2.2.1, .int v0'.2.2.2.1.2.2.2.2.2.2.2])), (a43, .inr (7, [.ref a44, .ref a45, .ref a46, .ref a47, .int v0'.2.2.2.1.1.2.2.2.2])), (a44, .inl (ca 0, 9, .inl v0'.2.2.2.1.1.1)), (a45, .inl (ca 0, 4, .inl v0'.2.2.2.1.1.2.1)), (a46, .inl (ca 0, 4, .inl v0'.2.2.2.1.1.2.2.1)), (a47, .inl (ca 0, 4, .inl v0'.2.2.2.1.1.2.2.2.1))] A) (by decide) rfl (Nat.le_of_ble_eq_true rfl) ?_
  intro p e s m args below meth c A Q ls hx hb hr hml hown hts hlocks hnm hA hN hZ hK hQ hP hD hS hl
  have w0 := hts _ (List.mem_cons_of_mem _ gw_2_190)
  have w1 := hts _ (List.mem_cons_of_mem _ gw_2_187)
  have nw39 := NW.use (args := args) (w := .fieldLinkNest RX11 54 "NoiseWatch$Watch" "text" "LNoiseWatch$Text;" "NoiseWatch") hN 39 rfl
  have nw34 := NW.use (args := args) (w := .fieldLinkNest RX11 79 "NoiseWatch$Watch" "settings" "LNoiseWatch$Settings;" "NoiseWatch") hN 34 rfl
  have nw42 := NW.use (args := args) (w := .fieldLinkNest RX11 83 "NoiseWatch$Reader" "draft" "LNoiseWatch$Settings;" "NoiseWatch") hN 42 rfl
  have nw2 := NW.use (args := args) (w := .fieldLinkNest RX11 95 "NoiseWatch$Settings" "stuckCount" "I" "NoiseWatch") hN 2 rfl
  have nw43 := NW.use (args := args) (w := .fieldLinkNest RX11 68 "NoiseWatch$Reader" "fault" "I" "NoiseWatch") hN 43 rfl
  have nw44 := NW.use (args := args) (w := .fieldLinkNest RX11 72 "NoiseWatch$Reader" "place" "I" "NoiseWatch") hN 44 rfl
  have i10 : ∀ w ∈ u_ws RX10 TX10 14, w ∈ wq_X11_settings := fun w h => List.mem_cons_of_mem _ (inX10 w h)
  have i11 : ∀ w ∈ u_ws RX11 TX11 8, w ∈ wq_X11_settings := fun w h => List.mem_cons_of_mem _ (inX11 w h)
  have i5 : ∀ w ∈ u_ws RX5 TX5 8, w ∈ wq_X11_settings := fun w h => List.mem_cons_of_mem _ (inX5 w h)
  have i7 : ∀ w ∈ u_ws RX7 TX7 5, w ∈ wq_X11_settings := fun w h => List.mem_cons_of_mem _ (inX7 w h)
  unfold f_X11_settings at hf
  refine lv_aload_n hx hb dX11_settings_0 rfl (lv_at hl 0 rfl) ?_
  refine va_get (C := RX11) (T := TX11) (N := 8) hx hb hts i11 hown hK hP 0 rfl rfl 3 (Nat.le_of_ble_eq_true rfl) w0 (fun _ h9 => h9) rfl dX11_settings_1 ?_
  refine lv_aload_n hx hb dX11_settings_4 rfl (lv_at hl 0 rfl) ?_
  refine va_get (C := RX11) (T := TX11) (N := 8) hx hb hts i11 hown hK hP 0 rfl rfl 0 (Nat.le_of_ble_eq_true rfl) w1 (fun _ h9 => h9) rfl dX11_settings_5 ?_
  refine va_getN (C := RX10) (T := TX10) (N := 14) hx hb hts i10 hown hK hP 1 rfl rfl 7 (Nat.le_of_ble_eq_true rfl) nw39 (fun _ h9 => h9) rfl dX11_settings_8 ?_
  obtain ⟨r_1, u_2, hc2, hf⟩ := bnd2_el hf
  refine xV_I (As := [.ref a19]) (wx := [(a0, .inr (11, [.ref a1, .ref a21, .ref a41, .ref a42, .ref a49, .ref a52, .ref a54, .ref a55])), (a1, .inr (10, [.ref a2, .ref a7, .ref a9, .ref a10, .ref a11, .ref a14, .ref a16, .ref a19, .int v0.1.2.2.2.2.2.2.2.2.1, .int v0.1.2.2.2.2.2.2.2.2.2.1, .int v0.1.2.2.2.2.2.2.2.2.2.2.1, .int v0.1.2.2.2.2.2.2.2.2.2.2.2.1, .int v0.1.2.2.2.2.2.2.2.2.2.2.2.2.1, .int v0.1.2.2.2.2.2.2.2.2.2.2.2.2.2])), (a2, .inr (7, [.ref a3, .ref a4, .ref a5, .ref a6, .int v0.1.1.2.2.2.2])), (a3, .inl (ca 0, 9, .inl v0.1.1.1)), (a4, .inl (ca 0, 4, .inl v0.1.1.2.1)), (a5, .inl (ca 0, 4, .inl v0.1.1.2.2.1)), (a6, .inl (ca 0, 4, .inl v0.1.1.2.2.2.1)), (a7, .inr (2, [.ref a8, .int v0.1.2.1.2.1, .int v0.1.2.1.2.2.1, .int v0.1.2.1.2.2.2.1, .int v0.1.2.1.2.2.2.2])), (a8, .inl (ca 1, 17, .inr (.inl v0.1.2.1.1))), (a9, .inr (8, [.int v0.1.2.2.1.1, .int v0.1.2.2.1.2.1, .int v0.1.2.2.1.2.2])), (a10, .inr (1, [.int v0.1.2.2.2.1.1, .int v0.1.2.2.2.1.2.1, .int v0.1.2.2.2.1.2.2.1, .int v0.1.2.2.2.1.2.2.2.1, .int v0.1.2.2.2.1.2.2.2.2.1, .int v0.1.2.2.2.1.2.2.2.2.2])), (a11, .inr (3, [.ref a12, .int v0.1.2.2.2.2.1.2.1, .int v0.1.2.2.2.2.1.2.2.1, .int v0.1.2.2.2.2.1.2.2.2.1, .int v0.1.2.2.2.2.1.2.2.2.2.1, .int v0.1.2.2.2.2.1.2.2.2.2.2.1, .int v0.1.2.2.2.2.1.2.2.2.2.2.2])), (a12, .inr (4, [.ref a13, .int v0.1.2.2.2.2.1.1.2.1, .int v0.1.2.2.2.2.1.1.2.2])), (a14, .inr (4, [.ref a15, .int v0.1.2.2.2.2.2.1.2.1, .int v0.1.2.2.2.2.2.1.2.2])), (a16, .inr (6, [.ref a17, .ref a18, .int v0.1.2.2.2.2.2.2.1.2.2])), (a19, .inr (9, [.ref a20, .int v0.1.2.2.2.2.2.2.2.1.2.1, .int v0.1.2.2.2.2.2.2.2.1.2.2.1, .int v0.1.2.2.2.2.2.2.2.1.2.2.2])), (a20, .inl (ca 0, 300, .inl v0.1.2.2.2.2.2.2.2.1.1)), (a42, .inr (5, [.ref a43, .ref a48, .int u_2.2.2.1, .int u_2.2.2.2.1, .int u_2.2.2.2.2.1, .int u_2.2.2.2.2.2.1, .int u_2.2.2.2.2.2.2.1, .int u_2.2.2.2.2.2.2.2])), (a43, .inr (7, [.ref a44, .ref a45, .ref a46, .ref a47, .int u_2.1.2.2.2.2])), (a44, .inl (ca 0, 9, .inl u_2.1.1)), (a45, .inl (ca 0, 4, .inl v0.2.2.2.1.1.2.1)), (a46, .inl (ca 0, 4, .inl v0.2.2.2.1.1.2.2.1)), (a47, .inl (ca 0, 4, .inl v0.2.2.2.1.1.2.2.2.1))]) ⟨hx, hb, hml, hown, hts⟩ (c_X5_read l D ca zz a42 a43 a44 a45 a46 a47 a48 a19 a20 _ v0.2.2.2.1 v0.1.2.2.2.2.2.2.2.1 r_1 u_2 hc2) (cwV 1 hts (gV gw_2_227 gw_2_228 gw_2_229 gw_1_13 gw_2_230) rfl rfl rfl (by decide +kernel) ⟨(Nat.le_of_ble_eq_true rfl), (Nat.le_of_ble_eq_true rfl)⟩) hK hN hZ hA hP hD hS [17, 18, 19, 15, 16] rfl rfl rfl rfl 17 rfl rfl hl.1 rfl (Nat.le_of_ble_eq_true rfl) dX11_settings_11 ⟨Nat.zero_le _, Nat.zero_le _⟩ rfl (fun H locs hP hD hS => ?_)
  refine xi_ne (tgt := 43) hx hb dX11_settings_14 (by decide) hf (fun hf => ?_) (fun hf => ?_)
  · refine lv_aload_n hx hb dX11_settings_43 rfl (lv_at hl 0 rfl) ?_
    refine va_get (C := RX11) (T := TX11) (N := 8) hx hb hts i11 hown hK hP 0 rfl rfl 0 (Nat.le_of_ble_eq_true rfl) w1 (fun _ h9 => h9) rfl dX11_settings_44 ?_
    refine va_getN (C := RX10) (T := TX10) (N := 14) hx hb hts i10 hown hK hP 1 rfl rfl 0 (Nat.le_of_ble_eq_true rfl) nw34 (fun _ h9 => h9) rfl dX11_settings_47 ?_
    refine lv_aload_n hx hb dX11_settings_50 rfl (lv_at hl 0 rfl) ?_
    refine va_get (C := RX11) (T := TX11) (N := 8) hx hb hts i11 hown hK hP 0 rfl rfl 3 (Nat.le_of_ble_eq_true rfl) w0 (fun _ h9 => h9) rfl dX11_settings_51 ?_
    refine va_getN (C := RX5) (T := TX5) (N := 8) hx hb hts i5 hown hK hP 17 rfl rfl 0 (Nat.le_of_ble_eq_true rfl) nw42 (fun _ h9 => h9) rfl dX11_settings_54 ?_
    obtain ⟨u_3, hc3, hf⟩ := bnd1_el hf
    refine xV_V (As := [.ref a43]) (wx := [(a0, .inr (11, [.ref a1, .ref a21, .ref a41, .ref a42, .ref a49, .ref a52, .ref a54, .ref a55])), (a1, .inr (10, [.ref a2, .ref a7, .ref a9, .ref a10, .ref a11, .ref a14, .ref a16, .ref a19, .int v0.1.2.2.2.2.2.2.2.2.1, .int v0.1.2.2.2.2.2.2.2.2.2.1, .int v0.1.2.2.2.2.2.2.2.2.2.2.1, .int v0.1.2.2.2.2.2.2.2.2.2.2.2.1, .int v0.1.2.2.2.2.2.2.2.2.2.2.2.2.1, .int v0.1.2.2.2.2.2.2.2.2.2.2.2.2.2])), (a2, .inr (7, [.ref a3, .ref a4, .ref a5, .ref a6, .int u_3.2.2.2.2])), (a3, .inl (ca 0, 9, .inl u_3.1)), (a4, .inl (ca 0, 4, .inl u_3.2.1)), (a5, .inl (ca 0, 4, .inl u_3.2.2.1)), (a6, .inl (ca 0, 4, .inl u_3.2.2.2.1)), (a7, .inr (2, [.ref a8, .int v0.1.2.1.2.1, .int v0.1.2.1.2.2.1, .int v0.1.2.1.2.2.2.1, .int v0.1.2.1.2.2.2.2])), (a8, .inl (ca 1, 17, .inr (.inl v0.1.2.1.1))), (a9, .inr (8, [.int v0.1.2.2.1.1, .int v0.1.2.2.1.2.1, .int v0.1.2.2.1.2.2])), (a10, .inr (1, [.int v0.1.2.2.2.1.1, .int v0.1.2.2.2.1.2.1, .int v0.1.2.2.2.1.2.2.1, .int v0.1.2.2.2.1.2.2.2.1, .int v0.1.2.2.2.1.2.2.2.2.1, .int v0.1.2.2.2.1.2.2.2.2.2])), (a11, .inr (3, [.ref a12, .int v0.1.2.2.2.2.1.2.1, .int v0.1.2.2.2.2.1.2.2.1, .int v0.1.2.2.2.2.1.2.2.2.1, .int v0.1.2.2.2.2.1.2.2.2.2.1, .int v0.1.2.2.2.2.1.2.2.2.2.2.1, .int v0.1.2.2.2.2.1.2.2.2.2.2.2])), (a12, .inr (4, [.ref a13, .int v0.1.2.2.2.2.1.1.2.1, .int v0.1.2.2.2.2.1.1.2.2])), (a14, .inr (4, [.ref a15, .int v0.1.2.2.2.2.2.1.2.1, .int v0.1.2.2.2.2.2.1.2.2])), (a16, .inr (6, [.ref a17, .ref a18, .int v0.1.2.2.2.2.2.2.1.2.2])), (a19, .inr (9, [.ref a20, .int v0.1.2.2.2.2.2.2.2.1.2.1, .int v0.1.2.2.2.2.2.2.2.1.2.2.1, .int v0.1.2.2.2.2.2.2.2.1.2.2.2])), (a20, .inl (ca 0, 300, .inl v0.1.2.2.2.2.2.2.2.1.1)), (a42, .inr (5, [.ref a43, .ref a48, .int u_2.2.2.1, .int u_2.2.2.2.1, .int u_2.2.2.2.2.1, .int u_2.2.2.2.2.2.1, .int u_2.2.2.2.2.2.2.1, .int u_2.2.2.2.2.2.2.2])), (a43, .inr (7, [.ref a44, .ref a45, .ref a46, .ref a47, .int u_2.1.2.2.2.2])), (a44, .inl (ca 0, 9, .inl u_2.1.1)), (a45, .inl (ca 0, 4, .inl v0.2.2.2.1.1.2.1)), (a46, .inl (ca 0, 4, .inl v0.2.2.2.1.1.2.2.1)), (a47, .inl (ca 0, 4, .inl v0.2.2.2.1.1.2.2.2.1))]) ⟨hx, hb, hml, hown, hts⟩ (c_X7_copyFrom l D ca zz a2 a3 a4 a5 a6 a43 a44 a45 a46 a47 _ v0.1.1 ((u_2.1.1, v0.2.2.2.1.1.2.1, v0.2.2.2.1.1.2.2.1, v0.2.2.2.1.1.2.2.2.1, u_2.1.2.2.2.2)) u_3 hc3) (cwV 1 hts (gV gw_3_123 gw_3_124 gw_3_125 gw_1_3 gw_3_126) rfl rfl rfl (by decide +kernel) ⟨(Nat.le_of_ble_eq_true rfl), (Nat.le_of_ble_eq_true rfl)⟩) hK hN hZ hA hP hD hS [2, 3, 4, 5, 6, 18, 19, 20, 21, 22] rfl rfl rfl rfl 2 rfl rfl hl.1 rfl (Nat.le_of_ble_eq_true rfl) dX11_settings_57 ⟨Nat.zero_le _, Nat.zero_le _⟩ rfl (fun H locs hP hD hS => ?_)
    refine lv_aload_n hx hb dX11_settings_60 rfl (lv_at hl 0 rfl) ?_
    refine va_get (C := RX11) (T := TX11) (N := 8) hx hb hts i11 hown hK hP 0 rfl rfl 0 (Nat.le_of_ble_eq_true rfl) w1 (fun _ h9 => h9) rfl dX11_settings_61 ?_
    obtain ⟨u_4, hc4, hf⟩ := bnd1_el hf
    refine xV_V (As := []) (wx := [(a0, .inr (11, [.ref a1, .ref a21, .ref a41, .ref a42, .ref a49, .ref a52, .ref a54, .ref a55])), (a1, .inr (10, [.ref a2, .ref a7, .ref a9, .ref a10, .ref a11, .ref a14, .ref a16, .ref a19, .int u_4.2.2.2.2.2.2.2.2.1, .int u_4.2.2.2.2.2.2.2.2.2.1, .int u_4.2.2.2.2.2.2.2.2.2.2.1, .int u_4.2.2.2.2.2.2.2.2.2.2.2.1, .int u_4.2.2.2.2.2.2.2.2.2.2.2.2.1, .int u_4.2.2.2.2.2.2.2.2.2.2.2.2.2])), (a2, .inr (7, [.ref a3, .ref a4, .ref a5, .ref a6, .int u_4.1.2.2.2.2])), (a3, .inl (ca 0, 9, .inl u_4.1.1)), (a4, .inl (ca 0, 4, .inl u_3.2.1)), (a5, .inl (ca 0, 4, .inl u_3.2.2.1)), (a6, .inl (ca 0, 4, .inl u_3.2.2.2.1)), (a7, .inr (2, [.ref a8, .int u_4.2.1.2.1, .int u_4.2.1.2.2.1, .int u_4.2.1.2.2.2.1, .int u_4.2.1.2.2.2.2])), (a8, .inl (ca 1, 17, .inr (.inl u_4.2.1.1))), (a9, .inr (8, [.int u_4.2.2.1.1, .int u_4.2.2.1.2.1, .int u_4.2.2.1.2.2])), (a10, .inr (1, [.int u_4.2.2.2.1.1, .int u_4.2.2.2.1.2.1, .int u_4.2.2.2.1.2.2.1, .int u_4.2.2.2.1.2.2.2.1, .int u_4.2.2.2.1.2.2.2.2.1, .int u_4.2.2.2.1.2.2.2.2.2])), (a11, .inr (3, [.ref a12, .int u_4.2.2.2.2.1.2.1, .int u_4.2.2.2.2.1.2.2.1, .int u_4.2.2.2.2.1.2.2.2.1, .int u_4.2.2.2.2.1.2.2.2.2.1, .int u_4.2.2.2.2.1.2.2.2.2.2.1, .int u_4.2.2.2.2.1.2.2.2.2.2.2])), (a12, .inr (4, [.ref a13, .int u_4.2.2.2.2.1.1.2.1, .int u_4.2.2.2.2.1.1.2.2])), (a14, .inr (4, [.ref a15, .int u_4.2.2.2.2.2.1.2.1, .int u_4.2.2.2.2.2.1.2.2])), (a16, .inr (6, [.ref a17, .ref a18, .int u_4.2.2.2.2.2.2.1.2.2])), (a19, .inr (9, [.ref a20, .int u_4.2.2.2.2.2.2.2.1.2.1, .int u_4.2.2.2.2.2.2.2.1.2.2.1, .int u_4.2.2.2.2.2.2.2.1.2.2.2])), (a20, .inl (ca 0, 300, .inl v0.1.2.2.2.2.2.2.2.1.1)), (a42, .inr (5, [.ref a43, .ref a48, .int u_2.2.2.1, .int u_2.2.2.2.1, .int u_2.2.2.2.2.1, .int u_2.2.2.2.2.2.1, .int u_2.2.2.2.2.2.2.1, .int u_2.2.2.2.2.2.2.2])), (a43, .inr (7, [.ref a44, .ref a45, .ref a46, .ref a47, .int u_2.1.2.2.2.2])), (a44, .inl (ca 0, 9, .inl u_2.1.1)), (a45, .inl (ca 0, 4, .inl v0.2.2.2.1.1.2.1)), (a46, .inl (ca 0, 4, .inl v0.2.2.2.1.1.2.2.1)), (a47, .inl (ca 0, 4, .inl v0.2.2.2.1.1.2.2.2.1))]) ⟨hx, hb, hml, hown, hts⟩ (c_X10_begin l D ca zz a1 a2 a3 a4 a5 a6 a7 a8 a9 a10 a11 a12 a13 a14 a15 a16 a17 a18 a19 a20 _ ((u_3, v0.1.2)) u_4 hc4) (cwV 0 hts (gV gw_3_127 gw_2_11 gw_2_12 gw_1_2 gw_2_13) rfl rfl rfl (by decide +kernel) ⟨(Nat.le_of_ble_eq_true rfl), (Nat.le_of_ble_eq_true rfl)⟩) hK hN hZ hA hP hD hS [1, 2, 3, 7, 8, 9, 10, 11, 12, 13, 14, 15] rfl rfl rfl rfl 1 rfl rfl hl.1 rfl (Nat.le_of_ble_eq_true rfl) dX11_settings_64 ⟨Nat.zero_le _, Nat.zero_le _⟩ rfl (fun H locs hP hD hS => ?_)
    refine lv_aload_n hx hb dX11_settings_67 rfl (lv_at hl 0 rfl) ?_
    refine va_get (C := RX11) (T := TX11) (N := 8) hx hb hts i11 hown hK hP 0 rfl rfl 0 (Nat.le_of_ble_eq_true rfl) w1 (fun _ h9 => h9) rfl dX11_settings_68 ?_
    refine va_getN (C := RX10) (T := TX10) (N := 14) hx hb hts i10 hown hK hP 1 rfl rfl 0 (Nat.le_of_ble_eq_true rfl) nw34 (fun _ h9 => h9) rfl dX11_settings_71 ?_
    refine va_getN (C := RX7) (T := TX7) (N := 5) hx hb hts i7 hown hK hP 2 rfl rfl 4 (Nat.le_of_ble_eq_true rfl) nw2 (fun _ h9 => h9) rfl dX11_settings_74 ?_
    cases hf
    exact rt_I hx hb hr hlocks hK hP hD hS hQ rfl rfl dX11_settings_77
  · refine lv_aload_n hx hb dX11_settings_17 rfl (lv_at hl 0 rfl) ?_
    refine va_get (C := RX11) (T := TX11) (N := 8) hx hb hts i11 hown hK hP 0 rfl rfl 0 (Nat.le_of_ble_eq_true rfl) w1 (fun _ h9 => h9) rfl dX11_settings_18 ?_
    refine va_getN (C := RX10) (T := TX10) (N := 14) hx hb hts i10 hown hK hP 1 rfl rfl 7 (Nat.le_of_ble_eq_true rfl) nw39 (fun _ h9 => h9) rfl dX11_settings_21 ?_
    refine lv_aload_n hx hb dX11_settings_24 rfl (lv_at hl 0 rfl) ?_
    refine va_get (C := RX11) (T := TX11) (N := 8) hx hb hts i11 hown hK hP 0 rfl rfl 3 (Nat.le_of_ble_eq_true rfl) w0 (fun _ h9 => h9) rfl dX11_settings_25 ?_
    refine va_getN (C := RX5) (T := TX5) (N := 8) hx hb hts i5 hown hK hP 17 rfl rfl 6 (Nat.le_of_ble_eq_true rfl) nw43 (fun _ h9 => h9) rfl dX11_settings_28 ?_
    refine lv_aload_n hx hb dX11_settings_31 rfl (lv_at hl 0 rfl) ?_
    refine va_get (C := RX11) (T := TX11) (N := 8) hx hb hts i11 hown hK hP 0 rfl rfl 3 (Nat.le_of_ble_eq_true rfl) w0 (fun _ h9 => h9) rfl dX11_settings_32 ?_
    refine va_getN (C := RX5) (T := TX5) (N := 8) hx hb hts i5 hown hK hP 17 rfl rfl 7 (Nat.le_of_ble_eq_true rfl) nw44 (fun _ h9 => h9) rfl dX11_settings_35 ?_
    obtain ⟨u_5, hc5, hf⟩ := bnd1_el hf
    refine xV_V (As := [.int u_2.2.2.2.2.2.2.1, .int u_2.2.2.2.2.2.2.2]) (wx := [(a0, .inr (11, [.ref a1, .ref a21, .ref a41, .ref a42, .ref a49, .ref a52, .ref a54, .ref a55])), (a1, .inr (10, [.ref a2, .ref a7, .ref a9, .ref a10, .ref a11, .ref a14, .ref a16, .ref a19, .int v0.1.2.2.2.2.2.2.2.2.1, .int v0.1.2.2.2.2.2.2.2.2.2.1, .int v0.1.2.2.2.2.2.2.2.2.2.2.1, .int v0.1.2.2.2.2.2.2.2.2.2.2.2.1, .int v0.1.2.2.2.2.2.2.2.2.2.2.2.2.1, .int v0.1.2.2.2.2.2.2.2.2.2.2.2.2.2])), (a2, .inr (7, [.ref a3, .ref a4, .ref a5, .ref a6, .int v0.1.1.2.2.2.2])), (a3, .inl (ca 0, 9, .inl v0.1.1.1)), (a4, .inl (ca 0, 4, .inl v0.1.1.2.1)), (a5, .inl (ca 0, 4, .inl v0.1.1.2.2.1)), (a6, .inl (ca 0, 4, .inl v0.1.1.2.2.2.1)), (a7, .inr (2, [.ref a8, .int v0.1.2.1.2.1, .int v0.1.2.1.2.2.1, .int v0.1.2.1.2.2.2.1, .int v0.1.2.1.2.2.2.2])), (a8, .inl (ca 1, 17, .inr (.inl v0.1.2.1.1))), (a9, .inr (8, [.int v0.1.2.2.1.1, .int v0.1.2.2.1.2.1, .int v0.1.2.2.1.2.2])), (a10, .inr (1, [.int v0.1.2.2.2.1.1, .int v0.1.2.2.2.1.2.1, .int v0.1.2.2.2.1.2.2.1, .int v0.1.2.2.2.1.2.2.2.1, .int v0.1.2.2.2.1.2.2.2.2.1, .int v0.1.2.2.2.1.2.2.2.2.2])), (a11, .inr (3, [.ref a12, .int v0.1.2.2.2.2.1.2.1, .int v0.1.2.2.2.2.1.2.2.1, .int v0.1.2.2.2.2.1.2.2.2.1, .int v0.1.2.2.2.2.1.2.2.2.2.1, .int v0.1.2.2.2.2.1.2.2.2.2.2.1, .int v0.1.2.2.2.2.1.2.2.2.2.2.2])), (a12, .inr (4, [.ref a13, .int v0.1.2.2.2.2.1.1.2.1, .int v0.1.2.2.2.2.1.1.2.2])), (a14, .inr (4, [.ref a15, .int v0.1.2.2.2.2.2.1.2.1, .int v0.1.2.2.2.2.2.1.2.2])), (a16, .inr (6, [.ref a17, .ref a18, .int v0.1.2.2.2.2.2.2.1.2.2])), (a19, .inr (9, [.ref a20, .int u_5.2.1, .int u_5.2.2.1, .int u_5.2.2.2])), (a20, .inl (ca 0, 300, .inl v0.1.2.2.2.2.2.2.2.1.1)), (a42, .inr (5, [.ref a43, .ref a48, .int u_2.2.2.1, .int u_2.2.2.2.1, .int u_2.2.2.2.2.1, .int u_2.2.2.2.2.2.1, .int u_2.2.2.2.2.2.2.1, .int u_2.2.2.2.2.2.2.2])), (a43, .inr (7, [.ref a44, .ref a45, .ref a46, .ref a47, .int u_2.1.2.2.2.2])), (a44, .inl (ca 0, 9, .inl u_2.1.1)), (a45, .inl (ca 0, 4, .inl v0.2.2.2.1.1.2.1)), (a46, .inl (ca 0, 4, .inl v0.2.2.2.1.1.2.2.1)), (a47, .inl (ca 0, 4, .inl v0.2.2.2.1.1.2.2.2.1))]) ⟨hx, hb, hml, hown, hts⟩ (c_X9_refuse l D ca zz a19 a20 _ v0.1.2.2.2.2.2.2.2.1 u_2.2.2.2.2.2.2.1 u_2.2.2.2.2.2.2.2 u_5 hc5) (cwV 2 hts (gV gw_3_122 gw_2_68 gw_2_69 gw_1_10 gw_2_70) rfl rfl rfl (by decide +kernel) ⟨(Nat.le_of_ble_eq_true rfl), (Nat.le_of_ble_eq_true rfl)⟩) hK hN hZ hA hP hD hS [15] rfl rfl rfl rfl 15 rfl rfl hl.1 rfl (Nat.le_of_ble_eq_true rfl) dX11_settings_38 ⟨Nat.zero_le _, Nat.zero_le _⟩ rfl (fun H locs hP hD hS => ?_)
    refine lv_iconst (v := -1) hx hb dX11_settings_41 rfl ?_
    cases hf
    exact rt_I hx hb hr hlocks hK hP hD hS hQ rfl rfl dX11_settings_42
abbrev wq_X11_fault : List Cond := Cond.code yX11_fault cX11_fault 2 (some .int) :: GL
set_option maxHeartbeats 4000000 in
set_option maxRecDepth 100000 in
theorem c_X11_fault (l : Launch) (D : va_G) (ca : Nat → ClassId) (zz : Nat → Nat) (a0 a1 a2 a7 a9 a10 a11 a14 a16 a19 a20 a21 a41 a42 a49 a52 a54 a55 : Nat) (sz : Nat) (v0 : V11) (p1 : Int32) (r : Int32) (hf : f_X11_fault v0 p1 = some r) : Met l yX11_fault wq_X11_fault ({ frames := 0, cells := 0, slots := 0, locals := 0 } : Room) (PR D ca zz [.ref a0, .int p1] sz [(a0, .inr (11, [.ref a1, .ref a21, .ref a41, .ref a42, .ref a49, .ref a52, .ref a54, .ref a55])), (a1, .inr (10, [.ref a2, .ref a7, .ref a9, .ref a10, .ref a11, .ref a14, .ref a16, .ref a19, .int v0.1.2.2.2.2.2.2.2.2.1, .int v0.1.2.2.2.2.2.2.2.2.2.1, .int v0.1.2.2.2.2.2.2.2.2.2.2.1, .int v0.1.2.2.2.2.2.2.2.2.2.2.2.1, .int v0.1.2.2.2.2.2.2.2.2.2.2.2.2.1, .int v0.1.2.2.2.2.2.2.2.2.2.2.2.2.2])), (a19, .inr (9, [.ref a20, .int v0.1.2.2.2.2.2.2.2.1.2.1, .int v0.1.2.2.2.2.2.2.2.1.2.2.1, .int v0.1.2.2.2.2.2.2.2.1.2.2.2]))]) (QI D ca r [(a0, .inr (11, [.ref a1, .ref a21, .ref a41, .ref a42, .ref a49, .ref a52, .ref a54, .ref a55])), (a1, .inr (10, [.ref a2, .ref a7, .ref a9, .ref a10, .ref a11, .ref a14, .ref a16, .ref a19, .int v0.1.2.2.2.2.2.2.2.2.1, .int v0.1.2.2.2.2.2.2.2.2.2.1, .int v0.1.2.2.2.2.2.2.2.2.2.2.1, .int v0.1.2.2.2.2.2.2.2.2.2.2.2.1, .int v0.1.2.2.2.2.2.2.2.2.2.2.2.2.1, .int v0.1.2.2.2.2.2.2.2.2.2.2.2.2.2])), (a19, .inr (9, [.ref a20, .int v0.1.2.2.2.2.2.2.2.1.2.1, .int v0.1.2.2.2.2.2.2.2.1.2.2.1, .int v0.1.2.2.2.2.2.2.2.1.2.2.2]))] (va_A [(a0, .inr (11, [.ref a1, .ref a21, .ref a41, .ref a42, .ref a49, .ref a52, .ref a54, .ref a55])), (a1, .inr (10, [.ref a2, .ref a7, .ref a9, .ref a10, .ref a11, .ref a14, .ref a16, .ref a19, .int v0.1.2.2.2.2.2.2.2.2.1, .int v0.1.2.2.2.2.2.2.2.2.2.1, .int v0.1.2.2.2.2.2.2.2.2.2.2.1, .int v0.1.2.2.2.2.2.2.2.2.2.2.2.1, .int v0.1.2.2.2.2.2.2.2.2.2.2.2.2.1, .int v0.1.2.2.2.2.2.2.2.2.2.2.2.2.2])), (a19, .inr (9, [.ref a20, .int v0.1.2.2.2.2.2.2.2.1.2.1, .int v0.1.2.2.2.2.2.2.2.1.2.2.1, .int v0.1.2.2.2.2.2.2.2.1.2.2.2]))] sz)) 0 0 (va_A [(a0, .inr (11, [.ref a1, .ref a21, .ref a41, .ref a42, .ref a49, .ref a52, .ref a54, .ref a55])), (a1, .inr (10, [.ref a2, .ref a7, .ref a9, .ref a10, .ref a11, .ref a14, .ref a16, .ref a19, .int v0.1.2.2.2.2.2.2.2.2.1, .int v0.1.2.2.2.2.2.2.2.2.2.1, .int v0.1.2.2.2.2.2.2.2.2.2.2.1, .int v0.1.2.2.2.2.2.2.2.2.2.2.2.1, .int v0.1.2.2.2.2.2.2.2.2.2.2.2.2.1, .int v0.1.2.2.2.2.2.2.2.2.2.2.2.2.2])), (a19, .inr (9, [.ref a20, .int v0.1.2.2.2.2.2.2.2.1.2.1, .int v0.1.2.2.2.2.2.2.2.1.2.2.1, .int v0.1.2.2.2.2.2.2.2.1.2.2.2]))] sz) := by
  refine en (y := yX11_fault) (wsm := wq_X11_fault) (av := [.ref a0, .int p1]) (cc := cX11_fault) (maxL := 2) (ret := (some .int)) (Qf := fun A => QI D ca r [(a0, .inr (11, [.ref a1, .ref a21, .ref a41, .ref a42, .ref a49, .ref a52, .ref a54, .ref a55])), (a1, .inr (10, [.ref a2, .ref a7, .ref a9, .ref a10, .ref a11, .ref a14, .ref a16, .ref a19, .int v0.1.2.2.2.2.2.2.2.2.1, .int v0.1.2.2.2.2.2.2.2.2.2.1, .int v0.1.2.2.2.2.2.2.2.2.2.2.1, .int v0.1.2.2.2.2.2.2.2.2.2.2.2.1, .int v0.1.2.2.2.2.2.2.2.2.2.2.2.2.1, .int v0.1.2.2.2.2.2.2.2.2.2.2.2.2.2])), (a19, .inr (9, [.ref a20, .int v0.1.2.2.2.2.2.2.2.1.2.1, .int v0.1.2.2.2.2.2.2.2.1.2.2.1, .int v0.1.2.2.2.2.2.2.2.1.2.2.2]))] A) (by decide) rfl (Nat.le_of_ble_eq_true rfl) ?_
  intro p e s m args below meth c A Q ls hx hb hr hml hown hts hlocks hnm hA hN hZ hK hQ hP hD hS hl
  have w0 := hts _ (List.mem_cons_of_mem _ gw_2_187)
  have nw39 := NW.use (args := args) (w := .fieldLinkNest RX11 54 "NoiseWatch$Watch" "text" "LNoiseWatch$Text;" "NoiseWatch") hN 39 rfl
  have nw32 := NW.use (args := args) (w := .fieldLinkNest RX11 99 "NoiseWatch$Text" "fault" "I" "NoiseWatch") hN 32 rfl
  have nw33 := NW.use (args := args) (w := .fieldLinkNest RX11 98 "NoiseWatch$Text" "place" "I" "NoiseWatch") hN 33 rfl
  have i10 : ∀ w ∈ u_ws RX10 TX10 14, w ∈ wq_X11_fault := fun w h => List.mem_cons_of_mem _ (inX10 w h)
  have i11 : ∀ w ∈ u_ws RX11 TX11 8, w ∈ wq_X11_fault := fun w h => List.mem_cons_of_mem _ (inX11 w h)
  have i9 : ∀ w ∈ u_ws RX9 TX9 4, w ∈ wq_X11_fault := fun w h => List.mem_cons_of_mem _ (inX9 w h)
  unfold f_X11_fault at hf
  refine lv_iload_n hx hb dX11_fault_0 rfl (lv_at hl 1 rfl) ?_
  refine xi_eq (tgt := 17) hx hb dX11_fault_1 (by decide) hf (fun hf => ?_) (fun hf => ?_)
  · refine lv_aload_n hx hb dX11_fault_17 rfl (lv_at hl 0 rfl) ?_
    refine va_get (C := RX11) (T := TX11) (N := 8) hx hb hts i11 hown hK hP 0 rfl rfl 0 (Nat.le_of_ble_eq_true rfl) w0 (fun _ h9 => h9) rfl dX11_fault_18 ?_
    refine va_getN (C := RX10) (T := TX10) (N := 14) hx hb hts i10 hown hK hP 1 rfl rfl 7 (Nat.le_of_ble_eq_true rfl) nw39 (fun _ h9 => h9) rfl dX11_fault_21 ?_
    refine va_getN (C := RX9) (T := TX9) (N := 4) hx hb hts i9 hown hK hP 2 rfl rfl 2 (Nat.le_of_ble_eq_true rfl) nw32 (fun _ h9 => h9) rfl dX11_fault_24 ?_
    cases hf
    exact rt_I hx hb hr hlocks hK hP hD hS hQ rfl rfl dX11_fault_27
  · refine lv_aload_n hx hb dX11_fault_4 rfl (lv_at hl 0 rfl) ?_
    refine va_get (C := RX11) (T := TX11) (N := 8) hx hb hts i11 hown hK hP 0 rfl rfl 0 (Nat.le_of_ble_eq_true rfl) w0 (fun _ h9 => h9) rfl dX11_fault_5 ?_
    refine va_getN (C := RX10) (T := TX10) (N := 14) hx hb hts i10 hown hK hP 1 rfl rfl 7 (Nat.le_of_ble_eq_true rfl) nw39 (fun _ h9 => h9) rfl dX11_fault_8 ?_
    refine va_getN (C := RX9) (T := TX9) (N := 4) hx hb hts i9 hown hK hP 2 rfl rfl 3 (Nat.le_of_ble_eq_true rfl) nw33 (fun _ h9 => h9) rfl dX11_fault_11 ?_
    refine lv_goto (tgt := 27) hx hb dX11_fault_14 (by decide) ?_
    cases hf
    exact rt_I hx hb hr hlocks hK hP hD hS hQ rfl rfl dX11_fault_27
abbrev wq_X3_lose : List Cond := Cond.code yX3_lose cX3_lose 1 none :: GL
set_option maxHeartbeats 4000000 in
set_option maxRecDepth 100000 in
theorem c_X3_lose (l : Launch) (D : va_G) (ca : Nat → ClassId) (zz : Nat → Nat) (a0 a1 a2 : Nat) (sz : Nat) (v0 : V3) (v0' : V3) (hf : f_X3_lose v0 = some v0') : Met l yX3_lose wq_X3_lose ({ frames := 1, cells := 0, slots := 0, locals := 20 } : Room) (PR D ca zz [.ref a0] sz [(a0, .inr (3, [.ref a1, .int v0.2.1, .int v0.2.2.1, .int v0.2.2.2.1, .int v0.2.2.2.2.1, .int v0.2.2.2.2.2.1, .int v0.2.2.2.2.2.2])), (a1, .inr (4, [.ref a2, .int v0.1.2.1, .int v0.1.2.2]))]) (QV D ca [(a0, .inr (3, [.ref a1, .int v0'.2.1, .int v0'.2.2.1, .int v0'.2.2.2.1, .int v0'.2.2.2.2.1, .int v0'.2.2.2.2.2.1, .int v0'.2.2.2.2.2.2])), (a1, .inr (4, [.ref a2, .int v0'.1.2.1, .int v0'.1.2.2]))] (va_A [(a0, .inr (3, [.ref a1, .int v0.2.1, .int v0.2.2.1, .int v0.2.2.2.1, .int v0.2.2.2.2.1, .int v0.2.2.2.2.2.1, .int v0.2.2.2.2.2.2])), (a1, .inr (4, [.ref a2, .int v0.1.2.1, .int v0.1.2.2]))] sz)) 0 0 (va_A [(a0, .inr (3, [.ref a1, .int v0.2.1, .int v0.2.2.1, .int v0.2.2.2.1, .int v0.2.2.2.2.1, .int v0.2.2.2.2.2.1, .int v0.2.2.2.2.2.2])), (a1, .inr (4, [.ref a2, .int v0.1.2.1, .int v0.1.2.2]))] sz) := by
  refine en (y := yX3_lose) (wsm := wq_X3_lose) (av := [.ref a0]) (cc := cX3_lose) (maxL := 1) (ret := none) (Qf := fun A => QV D ca [(a0, .inr (3, [.ref a1, .int v0'.2.1, .int v0'.2.2.1, .int v0'.2.2.2.1, .int v0'.2.2.2.2.1, .int v0'.2.2.2.2.2.1, .int v0'.2.2.2.2.2.2])), (a1, .inr (4, [.ref a2, .int v0'.1.2.1, .int v0'.1.2.2]))] A) (by decide) rfl (Nat.le_of_ble_eq_true rfl) ?_
  intro p e s m args below meth c A Q ls hx hb hr hml hown hts hlocks hnm hA hN hZ hK hQ hP hD hS hl
  have w0 := hts _ (List.mem_cons_of_mem _ gw_1_191)
  have w1 := hts _ (List.mem_cons_of_mem _ gw_1_179)
  have w2 := hts _ (List.mem_cons_of_mem _ gw_1_182)
  have w3 := hts _ (List.mem_cons_of_mem _ gw_1_183)
  have nw19 := NW.use (args := args) (w := .fieldLinkNest RX3 55 "NoiseWatch$Queue" "size" "I" "NoiseWatch") hN 19 rfl
  have i3 : ∀ w ∈ u_ws RX3 TX3 7, w ∈ wq_X3_lose := fun w h => List.mem_cons_of_mem _ (inX3 w h)
  have i4 : ∀ w ∈ u_ws RX4 TX4 3, w ∈ wq_X3_lose := fun w h => List.mem_cons_of_mem _ (inX4 w h)
  unfold f_X3_lose at hf
  refine lv_aload_n hx hb dX3_lose_0 rfl (lv_at hl 0 rfl) ?_
  refine lv_dup hx hb dX3_lose_1 rfl ?_
  refine va_get (C := RX3) (T := TX3) (N := 7) hx hb hts i3 hown hK hP 0 rfl rfl 6 (Nat.le_of_ble_eq_true rfl) w0 (fun _ h9 => h9) rfl dX3_lose_2 ?_
  refine lv_aload_n hx hb dX3_lose_5 rfl (lv_at hl 0 rfl) ?_
  refine va_get (C := RX3) (T := TX3) (N := 7) hx hb hts i3 hown hK hP 0 rfl rfl 0 (Nat.le_of_ble_eq_true rfl) w1 (fun _ h9 => h9) rfl dX3_lose_6 ?_
  refine va_getN (C := RX4) (T := TX4) (N := 3) hx hb hts i4 hown hK hP 1 rfl rfl 2 (Nat.le_of_ble_eq_true rfl) nw19 (fun _ h9 => h9) rfl dX3_lose_9 ?_
  refine lv_iadd hx hb dX3_lose_12 ?_
  refine xnm hf (fun x_1 hf => ?_)
  refine xput (C := RX3) (T := TX3) (N := 7) (wx := [(a0, .inr (3, [.ref a1, .int v0.2.1, .int v0.2.2.1, .int v0.2.2.2.1, .int v0.2.2.2.2.1, .int v0.2.2.2.2.2.1, .int x_1])), (a1, .inr (4, [.ref a2, .int v0.1.2.1, .int v0.1.2.2]))]) hx hb hts i3 tyX3 tyX3_ok nmX3 hown hK hP hD hS 0 rfl rfl 6 (Nat.le_of_ble_eq_true rfl) w0 (fun _ h9 => h9) rfl rfl rfl rfl (Nat.le_of_ble_eq_true rfl) dX3_lose_13 rfl (fun H locs hP hD hS => ?_)
  refine lv_aload_n hx hb dX3_lose_16 rfl (lv_at hl 0 rfl) ?_
  refine va_get (C := RX3) (T := TX3) (N := 7) hx hb hts i3 hown hK hP 0 rfl rfl 0 (Nat.le_of_ble_eq_true rfl) w1 (fun _ h9 => h9) rfl dX3_lose_17 ?_
  obtain ⟨u_2, hc2, hf⟩ := bnd1_el hf
  refine xV_V (As := []) (wx := [(a0, .inr (3, [.ref a1, .int v0.2.1, .int v0.2.2.1, .int v0.2.2.2.1, .int v0.2.2.2.2.1, .int v0.2.2.2.2.2.1, .int x_1])), (a1, .inr (4, [.ref a2, .int u_2.2.1, .int u_2.2.2]))]) ⟨hx, hb, hml, hown, hts⟩ (c_X4_clear l D ca zz a1 a2 _ v0.1 u_2 hc2) (cwV 0 hts (gV gw_2_54 gw_2_55 gw_2_56 gw_1_8 gw_2_57) rfl rfl rfl (by decide +kernel) ⟨(Nat.le_of_ble_eq_true rfl), (Nat.le_of_ble_eq_true rfl)⟩) hK hN hZ hA hP hD hS [1] rfl rfl rfl rfl 1 rfl rfl hl.1 rfl (Nat.le_of_ble_eq_true rfl) dX3_lose_20 ⟨Nat.zero_le _, Nat.zero_le _⟩ rfl (fun H locs hP hD hS => ?_)
  refine lv_aload_n hx hb dX3_lose_23 rfl (lv_at hl 0 rfl) ?_
  refine lv_iconst (v := 0) hx hb dX3_lose_24 rfl ?_
  refine xput (C := RX3) (T := TX3) (N := 7) (wx := [(a0, .inr (3, [.ref a1, .int (0 : Int32), .int v0.2.2.1, .int v0.2.2.2.1, .int v0.2.2.2.2.1, .int v0.2.2.2.2.2.1, .int x_1])), (a1, .inr (4, [.ref a2, .int u_2.2.1, .int u_2.2.2]))]) hx hb hts i3 tyX3 tyX3_ok nmX3 hown hK hP hD hS 0 rfl rfl 1 (Nat.le_of_ble_eq_true rfl) w2 (fun _ h9 => h9) rfl rfl rfl rfl (Nat.le_of_ble_eq_true rfl) dX3_lose_25 rfl (fun H locs hP hD hS => ?_)
  refine lv_aload_n hx hb dX3_lose_28 rfl (lv_at hl 0 rfl) ?_
  refine lv_iconst (v := 0) hx hb dX3_lose_29 rfl ?_
  refine xput (C := RX3) (T := TX3) (N := 7) (wx := [(a0, .inr (3, [.ref a1, .int (0 : Int32), .int (0 : Int32), .int v0.2.2.2.1, .int v0.2.2.2.2.1, .int v0.2.2.2.2.2.1, .int x_1])), (a1, .inr (4, [.ref a2, .int u_2.2.1, .int u_2.2.2]))]) hx hb hts i3 tyX3 tyX3_ok nmX3 hown hK hP hD hS 0 rfl rfl 2 (Nat.le_of_ble_eq_true rfl) w3 (fun _ h9 => h9) rfl rfl rfl rfl (Nat.le_of_ble_eq_true rfl) dX3_lose_30 rfl (fun H locs hP hD hS => ?_)
  cases hf
  exact rt_V hx hb hr hlocks hK hP hD hS hQ rfl dX3_lose_33
abbrev wq_X6_open : List Cond := Cond.code yX6_open cX6_open 1 none :: GL
set_option maxHeartbeats 4000000 in
set_option maxRecDepth 100000 in
theorem c_X6_open (l : Launch) (D : va_G) (ca : Nat → ClassId) (zz : Nat → Nat) (a0 a1 a2 : Nat) (sz : Nat) (v0 : V6) (v0' : V6) (hf : f_X6_open v0 = some v0') : Met l yX6_open wq_X6_open ({ frames := 1, cells := 0, slots := 0, locals := 60 } : Room) (PR D ca zz [.ref a0] sz [(a0, .inr (6, [.ref a1, .ref a2, .int v0.2.2])), (a1, .inl (ca 0, 15, .inl v0.1)), (a2, .inl (ca 0, 15, .inl v0.2.1))]) (QV D ca [(a0, .inr (6, [.ref a1, .ref a2, .int v0'.2.2])), (a1, .inl (ca 0, 15, .inl v0'.1)), (a2, .inl (ca 0, 15, .inl v0'.2.1))] (va_A [(a0, .inr (6, [.ref a1, .ref a2, .int v0.2.2])), (a1, .inl (ca 0, 15, .inl v0.1)), (a2, .inl (ca 0, 15, .inl v0.2.1))] sz)) 0 0 (va_A [(a0, .inr (6, [.ref a1, .ref a2, .int v0.2.2])), (a1, .inl (ca 0, 15, .inl v0.1)), (a2, .inl (ca 0, 15, .inl v0.2.1))] sz) := by
  refine en (y := yX6_open) (wsm := wq_X6_open) (av := [.ref a0]) (cc := cX6_open) (maxL := 1) (ret := none) (Qf := fun A => QV D ca [(a0, .inr (6, [.ref a1, .ref a2, .int v0'.2.2])), (a1, .inl (ca 0, 15, .inl v0'.1)), (a2, .inl (ca 0, 15, .inl v0'.2.1))] A) (by decide) rfl (Nat.le_of_ble_eq_true rfl) ?_
  intro p e s m args below meth c A Q ls hx hb hr hml hown hts hlocks hnm hA hN hZ hK hQ hP hD hS hl
  have w0 := hts _ (List.mem_cons_of_mem _ gw_1_218)
  have w1 := hts _ (List.mem_cons_of_mem _ gw_1_216)
  have w2 := hts _ (List.mem_cons_of_mem _ gw_1_217)
  have w3 := hts _ (List.mem_cons_of_mem _ gw_3_149)
  have w4 := hts _ (List.mem_cons_of_mem _ gw_2_238)
  have w5 := hts _ (List.mem_cons_of_mem _ gw_2_237)
  have w6 := hts _ (List.mem_cons_of_mem _ gw_1_16)
  have i6 : ∀ w ∈ u_ws RX6 TX6 3, w ∈ wq_X6_open := fun w h => List.mem_cons_of_mem _ (inX6 w h)
  have b45 : ∀ (v0 : V6), fc_X6_open_45 v0 = some v0' → ∀ (H : Heap) (locs : List Loc) (ls : Array Slot), va_P D vwCl [(a0, .inr (6, [.ref a1, .ref a2, .int v0.2.2])), (a1, .inl (ca 0, 15, .inl v0.1)), (a2, .inl (ca 0, 15, .inl v0.2.1))] H → va_D A [(a0, .inr (6, [.ref a1, .ref a2, .int v0.2.2])), (a1, .inl (ca 0, 15, .inl v0.1)), (a2, .inl (ca 0, 15, .inl v0.2.1))] → va_S A s.heap H locs → lv_has ls 1 [(0, .ref a0)] → W p l e ({ frames := 1, cells := 0, slots := 0, locals := 60 } : Room) s m args below meth c H locs 0 0 Q (F0 m 45 ls []) := by
    intro v0 hf H locs ls hP hD hS hl
    unfold fc_X6_open_45 at hf
    refine lv_aload_n hx hb dX6_open_45 rfl (lv_at hl 0 rfl) ?_
    refine va_get (C := RX6) (T := TX6) (N := 3) hx hb hts i6 hown hK hP 0 rfl rfl 2 (Nat.le_of_ble_eq_true rfl) w0 (fun _ h9 => h9) rfl dX6_open_46 ?_
    refine xi_lt (tgt := 82) hx hb dX6_open_49 (by decide) hf (fun hf => ?_) (fun hf => ?_)
    · cases hf
      exact rt_V hx hb hr hlocks hK hP hD hS hQ rfl dX6_open_82
    · refine lv_aload_n hx hb dX6_open_52 rfl (lv_at hl 0 rfl) ?_
      refine va_get (C := RX6) (T := TX6) (N := 3) hx hb hts i6 hown hK hP 0 rfl rfl 0 (Nat.le_of_ble_eq_true rfl) w1 (fun _ h9 => h9) rfl dX6_open_53 ?_
      refine lv_aload_n hx hb dX6_open_56 rfl (lv_at hl 0 rfl) ?_
      refine va_get (C := RX6) (T := TX6) (N := 3) hx hb hts i6 hown hK hP 0 rfl rfl 2 (Nat.le_of_ble_eq_true rfl) w0 (fun _ h9 => h9) rfl dX6_open_57 ?_
      refine lv_iconst (v := 0) hx hb dX6_open_60 rfl ?_
      refine xiast (wx := [(a0, .inr (6, [.ref a1, .ref a2, .int v0.2.2])), (a1, .inl (ca 0, 15, .inl ((upd v0.1 (v0.2.2).toNatClampNeg (0 : Int32))))), (a2, .inl (ca 0, 15, .inl v0.2.1))]) hx hb hK hP hD hS 1 rfl hf dX6_open_61 rfl (fun H locs hf hP hD hS => ?_)
      obtain ⟨y_1, ey_1, hf⟩ := bnd_el hf
      rw [← ey_1] at hP hD
      refine lv_aload_n hx hb dX6_open_62 rfl (lv_at hl 0 rfl) ?_
      refine va_get (C := RX6) (T := TX6) (N := 3) hx hb hts i6 hown hK hP 0 rfl rfl 1 (Nat.le_of_ble_eq_true rfl) w2 (fun _ h9 => h9) rfl dX6_open_63 ?_
      refine lv_aload_n hx hb dX6_open_66 rfl (lv_at hl 0 rfl) ?_
      refine va_get (C := RX6) (T := TX6) (N := 3) hx hb hts i6 hown hK hP 0 rfl rfl 2 (Nat.le_of_ble_eq_true rfl) w0 (fun _ h9 => h9) rfl dX6_open_67 ?_
      refine lv_iconst (v := 0) hx hb dX6_open_70 rfl ?_
      refine xiast (wx := [(a0, .inr (6, [.ref a1, .ref a2, .int v0.2.2])), (a1, .inl (ca 0, 15, .inl y_1)), (a2, .inl (ca 0, 15, .inl ((upd v0.2.1 (v0.2.2).toNatClampNeg (0 : Int32)))))]) hx hb hK hP hD hS 2 rfl hf dX6_open_71 rfl (fun H locs hf hP hD hS => ?_)
      obtain ⟨y_2, ey_2, hf⟩ := bnd_el hf
      rw [← ey_2] at hP hD
      refine lv_aload_n hx hb dX6_open_72 rfl (lv_at hl 0 rfl) ?_
      refine lv_dup hx hb dX6_open_73 rfl ?_
      refine va_get (C := RX6) (T := TX6) (N := 3) hx hb hts i6 hown hK hP 0 rfl rfl 2 (Nat.le_of_ble_eq_true rfl) w0 (fun _ h9 => h9) rfl dX6_open_74 ?_
      refine lv_iconst (v := 1) hx hb dX6_open_77 rfl ?_
      refine lv_iadd hx hb dX6_open_78 ?_
      refine xnm hf (fun x_3 hf => ?_)
      refine xput (C := RX6) (T := TX6) (N := 3) (wx := [(a0, .inr (6, [.ref a1, .ref a2, .int x_3])), (a1, .inl (ca 0, 15, .inl y_1)), (a2, .inl (ca 0, 15, .inl y_2))]) hx hb hts i6 tyX6 tyX6_ok nmX6 hown hK hP hD hS 0 rfl rfl 2 (Nat.le_of_ble_eq_true rfl) w0 (fun _ h9 => h9) rfl rfl rfl rfl (Nat.le_of_ble_eq_true rfl) dX6_open_79 rfl (fun H locs hP hD hS => ?_)
      cases hf
      exact rt_V hx hb hr hlocks hK hP hD hS hQ rfl dX6_open_82
  unfold f_X6_open at hf
  refine lv_aload_n hx hb dX6_open_0 rfl (lv_at hl 0 rfl) ?_
  refine va_get (C := RX6) (T := TX6) (N := 3) hx hb hts i6 hown hK hP 0 rfl rfl 2 (Nat.le_of_ble_eq_true rfl) w0 (fun _ h9 => h9) rfl dX6_open_1 ?_
  refine lv_bipush (v := 15) hx hb dX6_open_4 rfl ?_
  refine xc_lt (tgt := 45) hx hb dX6_open_6 (by decide) hf (fun hf => ?_) (fun hf => ?_)
  · exact b45 v0 hf _ _ _ hP hD hS (lv_sub hl [0] rfl)
  · refine lv_aload_n hx hb dX6_open_9 rfl (lv_at hl 0 rfl) ?_
    refine va_get (C := RX6) (T := TX6) (N := 3) hx hb hts i6 hown hK hP 0 rfl rfl 0 (Nat.le_of_ble_eq_true rfl) w1 (fun _ h9 => h9) rfl dX6_open_10 ?_
    refine lv_iconst (v := 1) hx hb dX6_open_13 rfl ?_
    refine lv_aload_n hx hb dX6_open_14 rfl (lv_at hl 0 rfl) ?_
    refine va_get (C := RX6) (T := TX6) (N := 3) hx hb hts i6 hown hK hP 0 rfl rfl 0 (Nat.le_of_ble_eq_true rfl) w1 (fun _ h9 => h9) rfl dX6_open_15 ?_
    refine lv_iconst (v := 0) hx hb dX6_open_18 rfl ?_
    refine lv_bipush (v := 14) hx hb dX6_open_19 rfl ?_
    refine xcopyi (wx := [(a0, .inr (6, [.ref a1, .ref a2, .int v0.2.2])), (a1, .inl (ca 0, 15, .inl ((va_cpy v0.1 v0.1 ((1 : Int32)).toNatClampNeg ((0 : Int32)).toNatClampNeg ((14 : Int32)).toNatClampNeg)))), (a2, .inl (ca 0, 15, .inl v0.2.1))]) hx hb (hml.trans hl.1.symm) hown w3 w4 w5 w6 hK hP hD hS 1 1 rfl rfl hf (Nat.le_of_ble_eq_true rfl) (Nat.le_of_ble_eq_true rfl) dX6_open_21 rfl (fun H locs hf hP hD hS => ?_)
    obtain ⟨y_4, ey_4, hf⟩ := bnd_el hf
    rw [← ey_4] at hP hD
    refine lv_aload_n hx hb dX6_open_24 rfl (lv_at hl 0 rfl) ?_
    refine va_get (C := RX6) (T := TX6) (N := 3) hx hb hts i6 hown hK hP 0 rfl rfl 1 (Nat.le_of_ble_eq_true rfl) w2 (fun _ h9 => h9) rfl dX6_open_25 ?_
    refine lv_iconst (v := 1) hx hb dX6_open_28 rfl ?_
    refine lv_aload_n hx hb dX6_open_29 rfl (lv_at hl 0 rfl) ?_
    refine va_get (C := RX6) (T := TX6) (N := 3) hx hb hts i6 hown hK hP 0 rfl rfl 1 (Nat.le_of_ble_eq_true rfl) w2 (fun _ h9 => h9) rfl dX6_open_30 ?_
    refine lv_iconst (v := 0) hx hb dX6_open_33 rfl ?_
    refine lv_bipush (v := 14) hx hb dX6_open_34 rfl ?_
    refine xcopyi (wx := [(a0, .inr (6, [.ref a1, .ref a2, .int v0.2.2])), (a1, .inl (ca 0, 15, .inl y_4)), (a2, .inl (ca 0, 15, .inl ((va_cpy v0.2.1 v0.2.1 ((1 : Int32)).toNatClampNeg ((0 : Int32)).toNatClampNeg ((14 : Int32)).toNatClampNeg))))]) hx hb (hml.trans hl.1.symm) hown w3 w4 w5 w6 hK hP hD hS 2 2 rfl rfl hf (Nat.le_of_ble_eq_true rfl) (Nat.le_of_ble_eq_true rfl) dX6_open_36 rfl (fun H locs hf hP hD hS => ?_)
    obtain ⟨y_5, ey_5, hf⟩ := bnd_el hf
    rw [← ey_5] at hP hD
    refine lv_aload_n hx hb dX6_open_39 rfl (lv_at hl 0 rfl) ?_
    refine lv_bipush (v := 14) hx hb dX6_open_40 rfl ?_
    refine xput (C := RX6) (T := TX6) (N := 3) (wx := [(a0, .inr (6, [.ref a1, .ref a2, .int (14 : Int32)])), (a1, .inl (ca 0, 15, .inl y_4)), (a2, .inl (ca 0, 15, .inl y_5))]) hx hb hts i6 tyX6 tyX6_ok nmX6 hown hK hP hD hS 0 rfl rfl 2 (Nat.le_of_ble_eq_true rfl) w0 (fun _ h9 => h9) rfl rfl rfl rfl (Nat.le_of_ble_eq_true rfl) dX6_open_42 rfl (fun H locs hP hD hS => ?_)
    exact b45 ((y_4, y_5, (14 : Int32))) hf _ _ _ hP hD hS (lv_sub hl [0] rfl)
abbrev wq_X10_beginStart : List Cond := Cond.code yX10_beginStart cX10_beginStart 1 none :: GL
set_option maxHeartbeats 4000000 in
set_option maxRecDepth 100000 in
theorem c_X10_beginStart (l : Launch) (D : va_G) (ca : Nat → ClassId) (zz : Nat → Nat) (a0 a1 a2 a3 a4 a5 a6 a8 a9 a10 a11 a12 a13 a15 a16 a17 a18 : Nat) (sz : Nat) (v0 : V10) (v0' : V10) (hf : f_X10_beginStart v0 = some v0') : Met l yX10_beginStart wq_X10_beginStart ({ frames := 2, cells := 0, slots := 0, locals := 80 } : Room) (PR D ca zz [.ref a0] sz [(a0, .inr (10, [.ref a1, .ref a6, .ref a8, .ref a9, .ref a10, .ref a13, .ref a15, .ref a18, .int v0.2.2.2.2.2.2.2.2.1, .int v0.2.2.2.2.2.2.2.2.2.1, .int v0.2.2.2.2.2.2.2.2.2.2.1, .int v0.2.2.2.2.2.2.2.2.2.2.2.1, .int v0.2.2.2.2.2.2.2.2.2.2.2.2.1, .int v0.2.2.2.2.2.2.2.2.2.2.2.2.2])), (a1, .inr (7, [.ref a2, .ref a3, .ref a4, .ref a5, .int v0.1.2.2.2.2])), (a2, .inl (ca 0, 9, .inl v0.1.1)), (a9, .inr (1, [.int v0.2.2.2.1.1, .int v0.2.2.2.1.2.1, .int v0.2.2.2.1.2.2.1, .int v0.2.2.2.1.2.2.2.1, .int v0.2.2.2.1.2.2.2.2.1, .int v0.2.2.2.1.2.2.2.2.2])), (a10, .inr (3, [.ref a11, .int v0.2.2.2.2.1.2.1, .int v0.2.2.2.2.1.2.2.1, .int v0.2.2.2.2.1.2.2.2.1, .int v0.2.2.2.2.1.2.2.2.2.1, .int v0.2.2.2.2.1.2.2.2.2.2.1, .int v0.2.2.2.2.1.2.2.2.2.2.2])), (a11, .inr (4, [.ref a12, .int v0.2.2.2.2.1.1.2.1, .int v0.2.2.2.2.1.1.2.2])), (a15, .inr (6, [.ref a16, .ref a17, .int v0.2.2.2.2.2.2.1.2.2])), (a16, .inl (ca 0, 15, .inl v0.2.2.2.2.2.2.1.1)), (a17, .inl (ca 0, 15, .inl v0.2.2.2.2.2.2.1.2.1))]) (QV D ca [(a0, .inr (10, [.ref a1, .ref a6, .ref a8, .ref a9, .ref a10, .ref a13, .ref a15, .ref a18, .int v0'.2.2.2.2.2.2.2.2.1, .int v0'.2.2.2.2.2.2.2.2.2.1, .int v0'.2.2.2.2.2.2.2.2.2.2.1, .int v0'.2.2.2.2.2.2.2.2.2.2.2.1, .int v0'.2.2.2.2.2.2.2.2.2.2.2.2.1, .int v0'.2.2.2.2.2.2.2.2.2.2.2.2.2])), (a1, .inr (7, [.ref a2, .ref a3, .ref a4, .ref a5, .int v0'.1.2.2.2.2])), (a2, .inl (ca 0, 9, .inl v0'.1.1)), (a9, .inr (1, [.int v0'.2.2.2.1.1, .int v0'.2.2.2.1.2.1, .int v0'.2.2.2.1.2.2.1, .int v0'.2.2.2.1.2.2.2.1, .int v0'.2.2.2.1.2.2.2.2.1, .int v0'.2.2.2.1.2.2.2.2.2])), (a10, .inr (3, [.ref a11, .int v0'.2.2.2.2.1.2.1, .int v0'.2.2.2.2.1.2.2.1, .int v0'.2.2.2.2.1.2.2.2.1, .int v0'.2.2.2.2.1.2.2.2.2.1, .int v0'.2.2.2.2.1.2.2.2.2.2.1, .int v0'.2.2.2.2.1.2.2.2.2.2.2])), (a11, .inr (4, [.ref a12, .int v0'.2.2.2.2.1.1.2.1, .int v0'.2.2.2.2.1.1.2.2])), (a15, .inr (6, [.ref a16, .ref a17, .int v0'.2.2.2.2.2.2.1.2.2])), (a16, .inl (ca 0, 15, .inl v0'.2.2.2.2.2.2.1.1)), (a17, .inl (ca 0, 15, .inl v0'.2.2.2.2.2.2.1.2.1))] (va_A [(a0, .inr (10, [.ref a1, .ref a6, .ref a8, .ref a9, .ref a10, .ref a13, .ref a15, .ref a18, .int v0.2.2.2.2.2.2.2.2.1, .int v0.2.2.2.2.2.2.2.2.2.1, .int v0.2.2.2.2.2.2.2.2.2.2.1, .int v0.2.2.2.2.2.2.2.2.2.2.2.1, .int v0.2.2.2.2.2.2.2.2.2.2.2.2.1, .int v0.2.2.2.2.2.2.2.2.2.2.2.2.2])), (a1, .inr (7, [.ref a2, .ref a3, .ref a4, .ref a5, .int v0.1.2.2.2.2])), (a2, .inl (ca 0, 9, .inl v0.1.1)), (a9, .inr (1, [.int v0.2.2.2.1.1, .int v0.2.2.2.1.2.1, .int v0.2.2.2.1.2.2.1, .int v0.2.2.2.1.2.2.2.1, .int v0.2.2.2.1.2.2.2.2.1, .int v0.2.2.2.1.2.2.2.2.2])), (a10, .inr (3, [.ref a11, .int v0.2.2.2.2.1.2.1, .int v0.2.2.2.2.1.2.2.1, .int v0.2.2.2.2.1.2.2.2.1, .int v0.2.2.2.2.1.2.2.2.2.1, .int v0.2.2.2.2.1.2.2.2.2.2.1, .int v0.2.2.2.2.1.2.2.2.2.2.2])), (a11, .inr (4, [.ref a12, .int v0.2.2.2.2.1.1.2.1, .int v0.2.2.2.2.1.1.2.2])), (a15, .inr (6, [.ref a16, .ref a17, .int v0.2.2.2.2.2.2.1.2.2])), (a16, .inl (ca 0, 15, .inl v0.2.2.2.2.2.2.1.1)), (a17, .inl (ca 0, 15, .inl v0.2.2.2.2.2.2.1.2.1))] sz)) 0 0 (va_A [(a0, .inr (10, [.ref a1, .ref a6, .ref a8, .ref a9, .ref a10, .ref a13, .ref a15, .ref a18, .int v0.2.2.2.2.2.2.2.2.1, .int v0.2.2.2.2.2.2.2.2.2.1, .int v0.2.2.2.2.2.2.2.2.2.2.1, .int v0.2.2.2.2.2.2.2.2.2.2.2.1, .int v0.2.2.2.2.2.2.2.2.2.2.2.2.1, .int v0.2.2.2.2.2.2.2.2.2.2.2.2.2])), (a1, .inr (7, [.ref a2, .ref a3, .ref a4, .ref a5, .int v0.1.2.2.2.2])), (a2, .inl (ca 0, 9, .inl v0.1.1)), (a9, .inr (1, [.int v0.2.2.2.1.1, .int v0.2.2.2.1.2.1, .int v0.2.2.2.1.2.2.1, .int v0.2.2.2.1.2.2.2.1, .int v0.2.2.2.1.2.2.2.2.1, .int v0.2.2.2.1.2.2.2.2.2])), (a10, .inr (3, [.ref a11, .int v0.2.2.2.2.1.2.1, .int v0.2.2.2.2.1.2.2.1, .int v0.2.2.2.2.1.2.2.2.1, .int v0.2.2.2.2.1.2.2.2.2.1, .int v0.2.2.2.2.1.2.2.2.2.2.1, .int v0.2.2.2.2.1.2.2.2.2.2.2])), (a11, .inr (4, [.ref a12, .int v0.2.2.2.2.1.1.2.1, .int v0.2.2.2.2.1.1.2.2])), (a15, .inr (6, [.ref a16, .ref a17, .int v0.2.2.2.2.2.2.1.2.2])), (a16, .inl (ca 0, 15, .inl v0.2.2.2.2.2.2.1.1)), (a17, .inl (ca 0, 15, .inl v0.2.2.2.2.2.2.1.2.1))] sz) := by
  refine en (y := yX10_beginStart) (wsm := wq_X10_beginStart) (av := [.ref a0]) (cc := cX10_beginStart) (maxL := 1) (ret := none) (Qf := fun A => QV D ca [(a0, .inr (10, [.ref a1, .ref a6, .ref a8, .ref a9, .ref a10, .ref a13, .ref a15, .ref a18, .int v0'.2.2.2.2.2.2.2.2.1, .int v0'.2.2.2.2.2.2.2.2.2.1, .int v0'.2.2.2.2.2.2.2.2.2.2.1, .int v0'.2.2.2.2.2.2.2.2.2.2.2.1, .int v0'.2.2.2.2.2.2.2.2.2.2.2.2.1, .int v0'.2.2.2.2.2.2.2.2.2.2.2.2.2])), (a1, .inr (7, [.ref a2, .ref a3, .ref a4, .ref a5, .int v0'.1.2.2.2.2])), (a2, .inl (ca 0, 9, .inl v0'.1.1)), (a9, .inr (1, [.int v0'.2.2.2.1.1, .int v0'.2.2.2.1.2.1, .int v0'.2.2.2.1.2.2.1, .int v0'.2.2.2.1.2.2.2.1, .int v0'.2.2.2.1.2.2.2.2.1, .int v0'.2.2.2.1.2.2.2.2.2])), (a10, .inr (3, [.ref a11, .int v0'.2.2.2.2.1.2.1, .int v0'.2.2.2.2.1.2.2.1, .int v0'.2.2.2.2.1.2.2.2.1, .int v0'.2.2.2.2.1.2.2.2.2.1, .int v0'.2.2.2.2.1.2.2.2.2.2.1, .int v0'.2.2.2.2.1.2.2.2.2.2.2])), (a11, .inr (4, [.ref a12, .int v0'.2.2.2.2.1.1.2.1, .int v0'.2.2.2.2.1.1.2.2])), (a15, .inr (6, [.ref a16, .ref a17, .int v0'.2.2.2.2.2.2.1.2.2])), (a16, .inl (ca 0, 15, .inl v0'.2.2.2.2.2.2.1.1)), (a17, .inl (ca 0, 15, .inl v0'.2.2.2.2.2.2.1.2.1))] A) (by decide) rfl (Nat.le_of_ble_eq_true rfl) ?_
  intro p e s m args below meth c A Q ls hx hb hr hml hown hts hlocks hnm hA hN hZ hK hQ hP hD hS hl
  have w0 := hts _ (List.mem_cons_of_mem _ gw_2_77)
  have w1 := hts _ (List.mem_cons_of_mem _ gw_2_76)
  have w2 := hts _ (List.mem_cons_of_mem _ gw_2_81)
  have w3 := hts _ (List.mem_cons_of_mem _ gw_2_92)
  have w4 := hts _ (List.mem_cons_of_mem _ gw_2_89)
  have w5 := hts _ (List.mem_cons_of_mem _ gw_2_71)
  have w6 := hts _ (List.mem_cons_of_mem _ gw_2_85)
  have i10 : ∀ w ∈ u_ws RX10 TX10 14, w ∈ wq_X10_beginStart := fun w h => List.mem_cons_of_mem _ (inX10 w h)
  unfold f_X10_beginStart at hf
  refine lv_aload_n hx hb dX10_beginStart_0 rfl (lv_at hl 0 rfl) ?_
  refine va_get (C := RX10) (T := TX10) (N := 14) hx hb hts i10 hown hK hP 0 rfl rfl 4 (Nat.le_of_ble_eq_true rfl) w0 (fun _ h9 => h9) rfl dX10_beginStart_1 ?_
  obtain ⟨u_1, hc1, hf⟩ := bnd1_el hf
  refine xV_V (As := []) (wx := [(a0, .inr (10, [.ref a1, .ref a6, .ref a8, .ref a9, .ref a10, .ref a13, .ref a15, .ref a18, .int v0.2.2.2.2.2.2.2.2.1, .int v0.2.2.2.2.2.2.2.2.2.1, .int v0.2.2.2.2.2.2.2.2.2.2.1, .int v0.2.2.2.2.2.2.2.2.2.2.2.1, .int v0.2.2.2.2.2.2.2.2.2.2.2.2.1, .int v0.2.2.2.2.2.2.2.2.2.2.2.2.2])), (a1, .inr (7, [.ref a2, .ref a3, .ref a4, .ref a5, .int v0.1.2.2.2.2])), (a2, .inl (ca 0, 9, .inl v0.1.1)), (a9, .inr (1, [.int v0.2.2.2.1.1, .int v0.2.2.2.1.2.1, .int v0.2.2.2.1.2.2.1, .int v0.2.2.2.1.2.2.2.1, .int v0.2.2.2.1.2.2.2.2.1, .int v0.2.2.2.1.2.2.2.2.2])), (a10, .inr (3, [.ref a11, .int u_1.2.1, .int u_1.2.2.1, .int u_1.2.2.2.1, .int u_1.2.2.2.2.1, .int u_1.2.2.2.2.2.1, .int u_1.2.2.2.2.2.2])), (a11, .inr (4, [.ref a12, .int u_1.1.2.1, .int u_1.1.2.2])), (a15, .inr (6, [.ref a16, .ref a17, .int v0.2.2.2.2.2.2.1.2.2])), (a16, .inl (ca 0, 15, .inl v0.2.2.2.2.2.2.1.1)), (a17, .inl (ca 0, 15, .inl v0.2.2.2.2.2.2.1.2.1))]) ⟨hx, hb, hml, hown, hts⟩ (c_X3_lose l D ca zz a10 a11 a12 _ v0.2.2.2.2.1 u_1 hc1) (cwV 0 hts (gV gw_3_141 gw_3_142 gw_3_143 gw_1_7 gw_3_144) rfl rfl rfl (by decide +kernel) ⟨(Nat.le_of_ble_eq_true rfl), (Nat.le_of_ble_eq_true rfl)⟩) hK hN hZ hA hP hD hS [4, 5] rfl rfl rfl rfl 4 rfl rfl hl.1 rfl (Nat.le_of_ble_eq_true rfl) dX10_beginStart_4 ⟨Nat.zero_le _, Nat.zero_le _⟩ rfl (fun H locs hP hD hS => ?_)
  refine lv_aload_n hx hb dX10_beginStart_7 rfl (lv_at hl 0 rfl) ?_
  refine va_get (C := RX10) (T := TX10) (N := 14) hx hb hts i10 hown hK hP 0 rfl rfl 3 (Nat.le_of_ble_eq_true rfl) w1 (fun _ h9 => h9) rfl dX10_beginStart_8 ?_
  obtain ⟨u_2, hc2, hf⟩ := bnd1_el hf
  refine xV_V (As := []) (wx := [(a0, .inr (10, [.ref a1, .ref a6, .ref a8, .ref a9, .ref a10, .ref a13, .ref a15, .ref a18, .int v0.2.2.2.2.2.2.2.2.1, .int v0.2.2.2.2.2.2.2.2.2.1, .int v0.2.2.2.2.2.2.2.2.2.2.1, .int v0.2.2.2.2.2.2.2.2.2.2.2.1, .int v0.2.2.2.2.2.2.2.2.2.2.2.2.1, .int v0.2.2.2.2.2.2.2.2.2.2.2.2.2])), (a1, .inr (7, [.ref a2, .ref a3, .ref a4, .ref a5, .int v0.1.2.2.2.2])), (a2, .inl (ca 0, 9, .inl v0.1.1)), (a9, .inr (1, [.int u_2.1, .int u_2.2.1, .int u_2.2.2.1, .int u_2.2.2.2.1, .int u_2.2.2.2.2.1, .int u_2.2.2.2.2.2])), (a10, .inr (3, [.ref a11, .int u_1.2.1, .int u_1.2.2.1, .int u_1.2.2.2.1, .int u_1.2.2.2.2.1, .int u_1.2.2.2.2.2.1, .int u_1.2.2.2.2.2.2])), (a11, .inr (4, [.ref a12, .int u_1.1.2.1, .int u_1.1.2.2])), (a15, .inr (6, [.ref a16, .ref a17, .int v0.2.2.2.2.2.2.1.2.2])), (a16, .inl (ca 0, 15, .inl v0.2.2.2.2.2.2.1.1)), (a17, .inl (ca 0, 15, .inl v0.2.2.2.2.2.2.1.2.1))]) ⟨hx, hb, hml, hown, hts⟩ (c_X1_clear l D ca zz a9 _ v0.2.2.2.1 u_2 hc2) (cwV 0 hts (gV gw_2_46 gw_2_47 gw_2_48 gw_1_6 gw_2_49) rfl rfl rfl (by decide +kernel) ⟨(Nat.le_of_ble_eq_true rfl), (Nat.le_of_ble_eq_true rfl)⟩) hK hN hZ hA hP hD hS [3] rfl rfl rfl rfl 3 rfl rfl hl.1 rfl (Nat.le_of_ble_eq_true rfl) dX10_beginStart_11 ⟨Nat.zero_le _, Nat.zero_le _⟩ rfl (fun H locs hP hD hS => ?_)
  refine lv_aload_n hx hb dX10_beginStart_14 rfl (lv_at hl 0 rfl) ?_
  refine va_get (C := RX10) (T := TX10) (N := 14) hx hb hts i10 hown hK hP 0 rfl rfl 6 (Nat.le_of_ble_eq_true rfl) w2 (fun _ h9 => h9) rfl dX10_beginStart_15 ?_
  obtain ⟨u_3, hc3, hf⟩ := bnd1_el hf
  refine xV_V (As := []) (wx := [(a0, .inr (10, [.ref a1, .ref a6, .ref a8, .ref a9, .ref a10, .ref a13, .ref a15, .ref a18, .int v0.2.2.2.2.2.2.2.2.1, .int v0.2.2.2.2.2.2.2.2.2.1, .int v0.2.2.2.2.2.2.2.2.2.2.1, .int v0.2.2.2.2.2.2.2.2.2.2.2.1, .int v0.2.2.2.2.2.2.2.2.2.2.2.2.1, .int v0.2.2.2.2.2.2.2.2.2.2.2.2.2])), (a1, .inr (7, [.ref a2, .ref a3, .ref a4, .ref a5, .int v0.1.2.2.2.2])), (a2, .inl (ca 0, 9, .inl v0.1.1)), (a9, .inr (1, [.int u_2.1, .int u_2.2.1, .int u_2.2.2.1, .int u_2.2.2.2.1, .int u_2.2.2.2.2.1, .int u_2.2.2.2.2.2])), (a10, .inr (3, [.ref a11, .int u_1.2.1, .int u_1.2.2.1, .int u_1.2.2.2.1, .int u_1.2.2.2.2.1, .int u_1.2.2.2.2.2.1, .int u_1.2.2.2.2.2.2])), (a11, .inr (4, [.ref a12, .int u_1.1.2.1, .int u_1.1.2.2])), (a15, .inr (6, [.ref a16, .ref a17, .int u_3.2.2])), (a16, .inl (ca 0, 15, .inl u_3.1)), (a17, .inl (ca 0, 15, .inl u_3.2.1))]) ⟨hx, hb, hml, hown, hts⟩ (c_X6_open l D ca zz a15 a16 a17 _ v0.2.2.2.2.2.2.1 u_3 hc3) (cwV 0 hts (gV gw_3_145 gw_3_146 gw_3_147 gw_1_9 gw_3_148) rfl rfl rfl (by decide +kernel) ⟨(Nat.le_of_ble_eq_true rfl), (Nat.le_of_ble_eq_true rfl)⟩) hK hN hZ hA hP hD hS [6, 7, 8] rfl rfl rfl rfl 6 rfl rfl hl.1 rfl (Nat.le_of_ble_eq_true rfl) dX10_beginStart_18 ⟨Nat.zero_le _, Nat.zero_le _⟩ rfl (fun H locs hP hD hS => ?_)
  refine lv_aload_n hx hb dX10_beginStart_21 rfl (lv_at hl 0 rfl) ?_
  refine lv_iconst (v := 0) hx hb dX10_beginStart_22 rfl ?_
  refine xput (C := RX10) (T := TX10) (N := 14) (wx := [(a0, .inr (10, [.ref a1, .ref a6, .ref a8, .ref a9, .ref a10, .ref a13, .ref a15, .ref a18, .int v0.2.2.2.2.2.2.2.2.1, .int v0.2.2.2.2.2.2.2.2.2.1, .int v0.2.2.2.2.2.2.2.2.2.2.1, .int v0.2.2.2.2.2.2.2.2.2.2.2.1, .int v0.2.2.2.2.2.2.2.2.2.2.2.2.1, .int (0 : Int32)])), (a1, .inr (7, [.ref a2, .ref a3, .ref a4, .ref a5, .int v0.1.2.2.2.2])), (a2, .inl (ca 0, 9, .inl v0.1.1)), (a9, .inr (1, [.int u_2.1, .int u_2.2.1, .int u_2.2.2.1, .int u_2.2.2.2.1, .int u_2.2.2.2.2.1, .int u_2.2.2.2.2.2])), (a10, .inr (3, [.ref a11, .int u_1.2.1, .int u_1.2.2.1, .int u_1.2.2.2.1, .int u_1.2.2.2.2.1, .int u_1.2.2.2.2.2.1, .int u_1.2.2.2.2.2.2])), (a11, .inr (4, [.ref a12, .int u_1.1.2.1, .int u_1.1.2.2])), (a15, .inr (6, [.ref a16, .ref a17, .int u_3.2.2])), (a16, .inl (ca 0, 15, .inl u_3.1)), (a17, .inl (ca 0, 15, .inl u_3.2.1))]) hx hb hts i10 tyX10 tyX10_ok nmX10 hown hK hP hD hS 0 rfl rfl 13 (Nat.le_of_ble_eq_true rfl) w3 (fun _ h9 => h9) rfl rfl rfl rfl (Nat.le_of_ble_eq_true rfl) dX10_beginStart_23 rfl (fun H locs hP hD hS => ?_)
  refine lv_aload_n hx hb dX10_beginStart_26 rfl (lv_at hl 0 rfl) ?_
  refine lv_dup hx hb dX10_beginStart_27 rfl ?_
  refine va_get (C := RX10) (T := TX10) (N := 14) hx hb hts i10 hown hK hP 0 rfl rfl 11 (Nat.le_of_ble_eq_true rfl) w4 (fun _ h9 => h9) rfl dX10_beginStart_28 ?_
  refine lv_iconst (v := 1) hx hb dX10_beginStart_31 rfl ?_
  refine lv_iadd hx hb dX10_beginStart_32 ?_
  refine xnm hf (fun x_4 hf => ?_)
  refine xput (C := RX10) (T := TX10) (N := 14) (wx := [(a0, .inr (10, [.ref a1, .ref a6, .ref a8, .ref a9, .ref a10, .ref a13, .ref a15, .ref a18, .int v0.2.2.2.2.2.2.2.2.1, .int v0.2.2.2.2.2.2.2.2.2.1, .int v0.2.2.2.2.2.2.2.2.2.2.1, .int x_4, .int v0.2.2.2.2.2.2.2.2.2.2.2.2.1, .int (0 : Int32)])), (a1, .inr (7, [.ref a2, .ref a3, .ref a4, .ref a5, .int v0.1.2.2.2.2])), (a2, .inl (ca 0, 9, .inl v0.1.1)), (a9, .inr (1, [.int u_2.1, .int u_2.2.1, .int u_2.2.2.1, .int u_2.2.2.2.1, .int u_2.2.2.2.2.1, .int u_2.2.2.2.2.2])), (a10, .inr (3, [.ref a11, .int u_1.2.1, .int u_1.2.2.1, .int u_1.2.2.2.1, .int u_1.2.2.2.2.1, .int u_1.2.2.2.2.2.1, .int u_1.2.2.2.2.2.2])), (a11, .inr (4, [.ref a12, .int u_1.1.2.1, .int u_1.1.2.2])), (a15, .inr (6, [.ref a16, .ref a17, .int u_3.2.2])), (a16, .inl (ca 0, 15, .inl u_3.1)), (a17, .inl (ca 0, 15, .inl u_3.2.1))]) hx hb hts i10 tyX10 tyX10_ok nmX10 hown hK hP hD hS 0 rfl rfl 11 (Nat.le_of_ble_eq_true rfl) w4 (fun _ h9 => h9) rfl rfl rfl rfl (Nat.le_of_ble_eq_true rfl) dX10_beginStart_33 rfl (fun H locs hP hD hS => ?_)
  refine lv_aload_n hx hb dX10_beginStart_36 rfl (lv_at hl 0 rfl) ?_
  refine lv_aload_n hx hb dX10_beginStart_37 rfl (lv_at hl 0 rfl) ?_
  refine va_get (C := RX10) (T := TX10) (N := 14) hx hb hts i10 hown hK hP 0 rfl rfl 0 (Nat.le_of_ble_eq_true rfl) w5 (fun _ h9 => h9) rfl dX10_beginStart_38 ?_
  refine lv_iconst (v := 3) hx hb dX10_beginStart_41 rfl ?_
  obtain ⟨r_5, hc5, hf⟩ := bnd1_el hf
  refine xV_I (As := [.int (3 : Int32)]) (wx := [(a0, .inr (10, [.ref a1, .ref a6, .ref a8, .ref a9, .ref a10, .ref a13, .ref a15, .ref a18, .int v0.2.2.2.2.2.2.2.2.1, .int v0.2.2.2.2.2.2.2.2.2.1, .int v0.2.2.2.2.2.2.2.2.2.2.1, .int x_4, .int v0.2.2.2.2.2.2.2.2.2.2.2.2.1, .int (0 : Int32)])), (a1, .inr (7, [.ref a2, .ref a3, .ref a4, .ref a5, .int v0.1.2.2.2.2])), (a2, .inl (ca 0, 9, .inl v0.1.1)), (a9, .inr (1, [.int u_2.1, .int u_2.2.1, .int u_2.2.2.1, .int u_2.2.2.2.1, .int u_2.2.2.2.2.1, .int u_2.2.2.2.2.2])), (a10, .inr (3, [.ref a11, .int u_1.2.1, .int u_1.2.2.1, .int u_1.2.2.2.1, .int u_1.2.2.2.2.1, .int u_1.2.2.2.2.2.1, .int u_1.2.2.2.2.2.2])), (a11, .inr (4, [.ref a12, .int u_1.1.2.1, .int u_1.1.2.2])), (a15, .inr (6, [.ref a16, .ref a17, .int u_3.2.2])), (a16, .inl (ca 0, 15, .inl u_3.1)), (a17, .inl (ca 0, 15, .inl u_3.2.1))]) ⟨hx, hb, hml, hown, hts⟩ (c_X7_valueOf l D ca zz a1 a2 a3 a4 a5 _ v0.1 (3 : Int32) r_5 hc5) (cwV 1 hts (gV gw_2_14 gw_2_15 gw_2_16 gw_1_3 gw_2_17) rfl rfl rfl (by decide +kernel) ⟨(Nat.le_of_ble_eq_true rfl), (Nat.le_of_ble_eq_true rfl)⟩) hK hN hZ hA hP hD hS [1, 2] rfl rfl rfl rfl 1 rfl rfl hl.1 rfl (Nat.le_of_ble_eq_true rfl) dX10_beginStart_42 ⟨Nat.zero_le _, Nat.zero_le _⟩ rfl (fun H locs hP hD hS => ?_)
  refine xi_ne (tgt := 52) hx hb dX10_beginStart_45 (by decide) hf (fun hf => ?_) (fun hf => ?_)
  · refine lv_iconst (v := 1) hx hb dX10_beginStart_52 rfl ?_
    refine xput (C := RX10) (T := TX10) (N := 14) (wx := [(a0, .inr (10, [.ref a1, .ref a6, .ref a8, .ref a9, .ref a10, .ref a13, .ref a15, .ref a18, .int (1 : Int32), .int v0.2.2.2.2.2.2.2.2.2.1, .int v0.2.2.2.2.2.2.2.2.2.2.1, .int x_4, .int v0.2.2.2.2.2.2.2.2.2.2.2.2.1, .int (0 : Int32)])), (a1, .inr (7, [.ref a2, .ref a3, .ref a4, .ref a5, .int v0.1.2.2.2.2])), (a2, .inl (ca 0, 9, .inl v0.1.1)), (a9, .inr (1, [.int u_2.1, .int u_2.2.1, .int u_2.2.2.1, .int u_2.2.2.2.1, .int u_2.2.2.2.2.1, .int u_2.2.2.2.2.2])), (a10, .inr (3, [.ref a11, .int u_1.2.1, .int u_1.2.2.1, .int u_1.2.2.2.1, .int u_1.2.2.2.2.1, .int u_1.2.2.2.2.2.1, .int u_1.2.2.2.2.2.2])), (a11, .inr (4, [.ref a12, .int u_1.1.2.1, .int u_1.1.2.2])), (a15, .inr (6, [.ref a16, .ref a17, .int u_3.2.2])), (a16, .inl (ca 0, 15, .inl u_3.1)), (a17, .inl (ca 0, 15, .inl u_3.2.1))]) hx hb hts i10 tyX10 tyX10_ok nmX10 hown hK hP hD hS 0 rfl rfl 8 (Nat.le_of_ble_eq_true rfl) w6 (fun _ h9 => h9) rfl rfl rfl rfl (Nat.le_of_ble_eq_true rfl) dX10_beginStart_53 rfl (fun H locs hP hD hS => ?_)
    cases hf
    exact rt_V hx hb hr hlocks hK hP hD hS hQ rfl dX10_beginStart_56
  · refine lv_iconst (v := 2) hx hb dX10_beginStart_48 rfl ?_
    refine lv_goto (tgt := 53) hx hb dX10_beginStart_49 (by decide) ?_
    refine xput (C := RX10) (T := TX10) (N := 14) (wx := [(a0, .inr (10, [.ref a1, .ref a6, .ref a8, .ref a9, .ref a10, .ref a13, .ref a15, .ref a18, .int (2 : Int32), .int v0.2.2.2.2.2.2.2.2.2.1, .int v0.2.2.2.2.2.2.2.2.2.2.1, .int x_4, .int v0.2.2.2.2.2.2.2.2.2.2.2.2.1, .int (0 : Int32)])), (a1, .inr (7, [.ref a2, .ref a3, .ref a4, .ref a5, .int v0.1.2.2.2.2])), (a2, .inl (ca 0, 9, .inl v0.1.1)), (a9, .inr (1, [.int u_2.1, .int u_2.2.1, .int u_2.2.2.1, .int u_2.2.2.2.1, .int u_2.2.2.2.2.1, .int u_2.2.2.2.2.2])), (a10, .inr (3, [.ref a11, .int u_1.2.1, .int u_1.2.2.1, .int u_1.2.2.2.1, .int u_1.2.2.2.2.1, .int u_1.2.2.2.2.2.1, .int u_1.2.2.2.2.2.2])), (a11, .inr (4, [.ref a12, .int u_1.1.2.1, .int u_1.1.2.2])), (a15, .inr (6, [.ref a16, .ref a17, .int u_3.2.2])), (a16, .inl (ca 0, 15, .inl u_3.1)), (a17, .inl (ca 0, 15, .inl u_3.2.1))]) hx hb hts i10 tyX10 tyX10_ok nmX10 hown hK hP hD hS 0 rfl rfl 8 (Nat.le_of_ble_eq_true rfl) w6 (fun _ h9 => h9) rfl rfl rfl rfl (Nat.le_of_ble_eq_true rfl) dX10_beginStart_53 rfl (fun H locs hP hD hS => ?_)
    cases hf
    exact rt_V hx hb hr hlocks hK hP hD hS hQ rfl dX10_beginStart_56
abbrev wq_X11_start : List Cond := Cond.code yX11_start cX11_start 1 (some .int) :: GL
set_option maxHeartbeats 4000000 in
set_option maxRecDepth 100000 in
theorem c_X11_start (l : Launch) (D : va_G) (ca : Nat → ClassId) (zz : Nat → Nat) (a0 a1 a2 a3 a4 a5 a6 a7 a9 a10 a11 a12 a13 a14 a16 a17 a18 a19 a21 a41 a42 a49 a52 a54 a55 : Nat) (sz : Nat) (v0 : V11) (r : Int32) (v0' : V11) (hf : f_X11_start v0 = some (r, v0')) : Met l yX11_start wq_X11_start ({ frames := 3, cells := 0, slots := 0, locals := 100 } : Room) (PR D ca zz [.ref a0] sz [(a0, .inr (11, [.ref a1, .ref a21, .ref a41, .ref a42, .ref a49, .ref a52, .ref a54, .ref a55])), (a1, .inr (10, [.ref a2, .ref a7, .ref a9, .ref a10, .ref a11, .ref a14, .ref a16, .ref a19, .int v0.1.2.2.2.2.2.2.2.2.1, .int v0.1.2.2.2.2.2.2.2.2.2.1, .int v0.1.2.2.2.2.2.2.2.2.2.2.1, .int v0.1.2.2.2.2.2.2.2.2.2.2.2.1, .int v0.1.2.2.2.2.2.2.2.2.2.2.2.2.1, .int v0.1.2.2.2.2.2.2.2.2.2.2.2.2.2])), (a2, .inr (7, [.ref a3, .ref a4, .ref a5, .ref a6, .int v0.1.1.2.2.2.2])), (a3, .inl (ca 0, 9, .inl v0.1.1.1)), (a10, .inr (1, [.int v0.1.2.2.2.1.1, .int v0.1.2.2.2.1.2.1, .int v0.1.2.2.2.1.2.2.1, .int v0.1.2.2.2.1.2.2.2.1, .int v0.1.2.2.2.1.2.2.2.2.1, .int v0.1.2.2.2.1.2.2.2.2.2])), (a11, .inr (3, [.ref a12, .int v0.1.2.2.2.2.1.2.1, .int v0.1.2.2.2.2.1.2.2.1, .int v0.1.2.2.2.2.1.2.2.2.1, .int v0.1.2.2.2.2.1.2.2.2.2.1, .int v0.1.2.2.2.2.1.2.2.2.2.2.1, .int v0.1.2.2.2.2.1.2.2.2.2.2.2])), (a12, .inr (4, [.ref a13, .int v0.1.2.2.2.2.1.1.2.1, .int v0.1.2.2.2.2.1.1.2.2])), (a16, .inr (6, [.ref a17, .ref a18, .int v0.1.2.2.2.2.2.2.1.2.2])), (a17, .inl (ca 0, 15, .inl v0.1.2.2.2.2.2.2.1.1)), (a18, .inl (ca 0, 15, .inl v0.1.2.2.2.2.2.2.1.2.1))]) (QI D ca r [(a0, .inr (11, [.ref a1, .ref a21, .ref a41, .ref a42, .ref a49, .ref a52, .ref a54, .ref a55])), (a1, .inr (10, [.ref a2, .ref a7, .ref a9, .ref a10, .ref a11, .ref a14, .ref a16, .ref a19, .int v0'.1.2.2.2.2.2.2.2.2.1, .int v0'.1.2.2.2.2.2.2.2.2.2.1, .int v0'.1.2.2.2.2.2.2.2.2.2.2.1, .int v0'.1.2.2.2.2.2.2.2.2.2.2.2.1, .int v0'.1.2.2.2.2.2.2.2.2.2.2.2.2.1, .int v0'.1.2.2.2.2.2.2.2.2.2.2.2.2.2])), (a2, .inr (7, [.ref a3, .ref a4, .ref a5, .ref a6, .int v0'.1.1.2.2.2.2])), (a3, .inl (ca 0, 9, .inl v0'.1.1.1)), (a10, .inr (1, [.int v0'.1.2.2.2.1.1, .int v0'.1.2.2.2.1.2.1, .int v0'.1.2.2.2.1.2.2.1, .int v0'.1.2.2.2.1.2.2.2.1, .int v0'.1.2.2.2.1.2.2.2.2.1, .int v0'.1.2.2.2.1.2.2.2.2.2])), (a11, .inr (3, [.ref a12, .int v0'.1.2.2.2.2.1.2.1, .int v0'.1.2.2.2.2.1.2.2.1, .int v0'.1.2.2.2.2.1.2.2.2.1, .int v0'.1.2.2.2.2.1.2.2.2.2.1, .int v0'.1.2.2.2.2.1.2.2.2.2.2.1, .int v0'.1.2.2.2.2.1.2.2.2.2.2.2])), (a12, .inr (4, [.ref a13, .int v0'.1.2.2.2.2.1.1.2.1, .int v0'.1.2.2.2.2.1.1.2.2])), (a16, .inr (6, [.ref a17, .ref a18, .int v0'.1.2.2.2.2.2.2.1.2.2])), (a17, .inl (ca 0, 15, .inl v0'.1.2.2.2.2.2.2.1.1)), (a18, .inl (ca 0, 15, .inl v0'.1.2.2.2.2.2.2.1.2.1))] (va_A [(a0, .inr (11, [.ref a1, .ref a21, .ref a41, .ref a42, .ref a49, .ref a52, .ref a54, .ref a55])), (a1, .inr (10, [.ref a2, .ref a7, .ref a9, .ref a10, .ref a11, .ref a14, .ref a16, .ref a19, .int v0.1.2.2.2.2.2.2.2.2.1, .int v0.1.2.2.2.2.2.2.2.2.2.1, .int v0.1.2.2.2.2.2.2.2.2.2.2.1, .int v0.1.2.2.2.2.2.2.2.2.2.2.2.1, .int v0.1.2.2.2.2.2.2.2.2.2.2.2.2.1, .int v0.1.2.2.2.2.2.2.2.2.2.2.2.2.2])), (a2, .inr (7, [.ref a3, .ref a4, .ref a5, .ref a6, .int v0.1.1.2.2.2.2])), (a3, .inl (ca 0, 9, .inl v0.1.1.1)), (a10, .inr (1, [.int v0.1.2.2.2.1.1, .int v0.1.2.2.2.1.2.1, .int v0.1.2.2.2.1.2.2.1, .int v0.1.2.2.2.1.2.2.2.1, .int v0.1.2.2.2.1.2.2.2.2.1, .int v0.1.2.2.2.1.2.2.2.2.2])), (a11, .inr (3, [.ref a12, .int v0.1.2.2.2.2.1.2.1, .int v0.1.2.2.2.2.1.2.2.1, .int v0.1.2.2.2.2.1.2.2.2.1, .int v0.1.2.2.2.2.1.2.2.2.2.1, .int v0.1.2.2.2.2.1.2.2.2.2.2.1, .int v0.1.2.2.2.2.1.2.2.2.2.2.2])), (a12, .inr (4, [.ref a13, .int v0.1.2.2.2.2.1.1.2.1, .int v0.1.2.2.2.2.1.1.2.2])), (a16, .inr (6, [.ref a17, .ref a18, .int v0.1.2.2.2.2.2.2.1.2.2])), (a17, .inl (ca 0, 15, .inl v0.1.2.2.2.2.2.2.1.1)), (a18, .inl (ca 0, 15, .inl v0.1.2.2.2.2.2.2.1.2.1))] sz)) 0 0 (va_A [(a0, .inr (11, [.ref a1, .ref a21, .ref a41, .ref a42, .ref a49, .ref a52, .ref a54, .ref a55])), (a1, .inr (10, [.ref a2, .ref a7, .ref a9, .ref a10, .ref a11, .ref a14, .ref a16, .ref a19, .int v0.1.2.2.2.2.2.2.2.2.1, .int v0.1.2.2.2.2.2.2.2.2.2.1, .int v0.1.2.2.2.2.2.2.2.2.2.2.1, .int v0.1.2.2.2.2.2.2.2.2.2.2.2.1, .int v0.1.2.2.2.2.2.2.2.2.2.2.2.2.1, .int v0.1.2.2.2.2.2.2.2.2.2.2.2.2.2])), (a2, .inr (7, [.ref a3, .ref a4, .ref a5, .ref a6, .int v0.1.1.2.2.2.2])), (a3, .inl (ca 0, 9, .inl v0.1.1.1)), (a10, .inr (1, [.int v0.1.2.2.2.1.1, .int v0.1.2.2.2.1.2.1, .int v0.1.2.2.2.1.2.2.1, .int v0.1.2.2.2.1.2.2.2.1, .int v0.1.2.2.2.1.2.2.2.2.1, .int v0.1.2.2.2.1.2.2.2.2.2])), (a11, .inr (3, [.ref a12, .int v0.1.2.2.2.2.1.2.1, .int v0.1.2.2.2.2.1.2.2.1, .int v0.1.2.2.2.2.1.2.2.2.1, .int v0.1.2.2.2.2.1.2.2.2.2.1, .int v0.1.2.2.2.2.1.2.2.2.2.2.1, .int v0.1.2.2.2.2.1.2.2.2.2.2.2])), (a12, .inr (4, [.ref a13, .int v0.1.2.2.2.2.1.1.2.1, .int v0.1.2.2.2.2.1.1.2.2])), (a16, .inr (6, [.ref a17, .ref a18, .int v0.1.2.2.2.2.2.2.1.2.2])), (a17, .inl (ca 0, 15, .inl v0.1.2.2.2.2.2.2.1.1)), (a18, .inl (ca 0, 15, .inl v0.1.2.2.2.2.2.2.1.2.1))] sz) := by
  refine en (y := yX11_start) (wsm := wq_X11_start) (av := [.ref a0]) (cc := cX11_start) (maxL := 1) (ret := (some .int)) (Qf := fun A => QI D ca r [(a0, .inr (11, [.ref a1, .ref a21, .ref a41, .ref a42, .ref a49, .ref a52, .ref a54, .ref a55])), (a1, .inr (10, [.ref a2, .ref a7, .ref a9, .ref a10, .ref a11, .ref a14, .ref a16, .ref a19, .int v0'.1.2.2.2.2.2.2.2.2.1, .int v0'.1.2.2.2.2.2.2.2.2.2.1, .int v0'.1.2.2.2.2.2.2.2.2.2.2.1, .int v0'.1.2.2.2.2.2.2.2.2.2.2.2.1, .int v0'.1.2.2.2.2.2.2.2.2.2.2.2.2.1, .int v0'.1.2.2.2.2.2.2.2.2.2.2.2.2.2])), (a2, .inr (7, [.ref a3, .ref a4, .ref a5, .ref a6, .int v0'.1.1.2.2.2.2])), (a3, .inl (ca 0, 9, .inl v0'.1.1.1)), (a10, .inr (1, [.int v0'.1.2.2.2.1.1, .int v0'.1.2.2.2.1.2.1, .int v0'.1.2.2.2.1.2.2.1, .int v0'.1.2.2.2.1.2.2.2.1, .int v0'.1.2.2.2.1.2.2.2.2.1, .int v0'.1.2.2.2.1.2.2.2.2.2])), (a11, .inr (3, [.ref a12, .int v0'.1.2.2.2.2.1.2.1, .int v0'.1.2.2.2.2.1.2.2.1, .int v0'.1.2.2.2.2.1.2.2.2.1, .int v0'.1.2.2.2.2.1.2.2.2.2.1, .int v0'.1.2.2.2.2.1.2.2.2.2.2.1, .int v0'.1.2.2.2.2.1.2.2.2.2.2.2])), (a12, .inr (4, [.ref a13, .int v0'.1.2.2.2.2.1.1.2.1, .int v0'.1.2.2.2.2.1.1.2.2])), (a16, .inr (6, [.ref a17, .ref a18, .int v0'.1.2.2.2.2.2.2.1.2.2])), (a17, .inl (ca 0, 15, .inl v0'.1.2.2.2.2.2.2.1.1)), (a18, .inl (ca 0, 15, .inl v0'.1.2.2.2.2.2.2.1.2.1))] A) (by decide) rfl (Nat.le_of_ble_eq_true rfl) ?_
  intro p e s m args below meth c A Q ls hx hb hr hml hown hts hlocks hnm hA hN hZ hK hQ hP hD hS hl
  have w0 := hts _ (List.mem_cons_of_mem _ gw_2_187)
  have nw41 := NW.use (args := args) (w := .fieldLinkNest RX11 103 "NoiseWatch$Watch" "starts" "I" "NoiseWatch") hN 41 rfl
  have i10 : ∀ w ∈ u_ws RX10 TX10 14, w ∈ wq_X11_start := fun w h => List.mem_cons_of_mem _ (inX10 w h)
  have i11 : ∀ w ∈ u_ws RX11 TX11 8, w ∈ wq_X11_start := fun w h => List.mem_cons_of_mem _ (inX11 w h)
  unfold f_X11_start at hf
  refine lv_aload_n hx hb dX11_start_0 rfl (lv_at hl 0 rfl) ?_
  refine va_get (C := RX11) (T := TX11) (N := 8) hx hb hts i11 hown hK hP 0 rfl rfl 0 (Nat.le_of_ble_eq_true rfl) w0 (fun _ h9 => h9) rfl dX11_start_1 ?_
  obtain ⟨u_1, hc1, hf⟩ := bnd1_el hf
  refine xV_V (As := []) (wx := [(a0, .inr (11, [.ref a1, .ref a21, .ref a41, .ref a42, .ref a49, .ref a52, .ref a54, .ref a55])), (a1, .inr (10, [.ref a2, .ref a7, .ref a9, .ref a10, .ref a11, .ref a14, .ref a16, .ref a19, .int u_1.2.2.2.2.2.2.2.2.1, .int u_1.2.2.2.2.2.2.2.2.2.1, .int u_1.2.2.2.2.2.2.2.2.2.2.1, .int u_1.2.2.2.2.2.2.2.2.2.2.2.1, .int u_1.2.2.2.2.2.2.2.2.2.2.2.2.1, .int u_1.2.2.2.2.2.2.2.2.2.2.2.2.2])), (a2, .inr (7, [.ref a3, .ref a4, .ref a5, .ref a6, .int u_1.1.2.2.2.2])), (a3, .inl (ca 0, 9, .inl u_1.1.1)), (a10, .inr (1, [.int u_1.2.2.2.1.1, .int u_1.2.2.2.1.2.1, .int u_1.2.2.2.1.2.2.1, .int u_1.2.2.2.1.2.2.2.1, .int u_1.2.2.2.1.2.2.2.2.1, .int u_1.2.2.2.1.2.2.2.2.2])), (a11, .inr (3, [.ref a12, .int u_1.2.2.2.2.1.2.1, .int u_1.2.2.2.2.1.2.2.1, .int u_1.2.2.2.2.1.2.2.2.1, .int u_1.2.2.2.2.1.2.2.2.2.1, .int u_1.2.2.2.2.1.2.2.2.2.2.1, .int u_1.2.2.2.2.1.2.2.2.2.2.2])), (a12, .inr (4, [.ref a13, .int u_1.2.2.2.2.1.1.2.1, .int u_1.2.2.2.2.1.1.2.2])), (a16, .inr (6, [.ref a17, .ref a18, .int u_1.2.2.2.2.2.2.1.2.2])), (a17, .inl (ca 0, 15, .inl u_1.2.2.2.2.2.2.1.1)), (a18, .inl (ca 0, 15, .inl u_1.2.2.2.2.2.2.1.2.1))]) ⟨hx, hb, hml, hown, hts⟩ (c_X10_beginStart l D ca zz a1 a2 a3 a4 a5 a6 a7 a9 a10 a11 a12 a13 a14 a16 a17 a18 a19 _ v0.1 u_1 hc1) (cwV 0 hts (gV gw_3_137 gw_3_138 gw_3_139 gw_1_2 gw_3_140) rfl rfl rfl (by decide +kernel) ⟨(Nat.le_of_ble_eq_true rfl), (Nat.le_of_ble_eq_true rfl)⟩) hK hN hZ hA hP hD hS [1, 2, 3, 4, 5, 6, 7, 8, 9] rfl rfl rfl rfl 1 rfl rfl hl.1 rfl (Nat.le_of_ble_eq_true rfl) dX11_start_4 ⟨Nat.zero_le _, Nat.zero_le _⟩ rfl (fun H locs hP hD hS => ?_)
  refine lv_aload_n hx hb dX11_start_7 rfl (lv_at hl 0 rfl) ?_
  refine va_get (C := RX11) (T := TX11) (N := 8) hx hb hts i11 hown hK hP 0 rfl rfl 0 (Nat.le_of_ble_eq_true rfl) w0 (fun _ h9 => h9) rfl dX11_start_8 ?_
  refine va_getN (C := RX10) (T := TX10) (N := 14) hx hb hts i10 hown hK hP 1 rfl rfl 11 (Nat.le_of_ble_eq_true rfl) nw41 (fun _ h9 => h9) rfl dX11_start_11 ?_
  cases hf
  exact rt_I hx hb hr hlocks hK hP hD hS hQ rfl rfl dX11_start_14
abbrev wq_X10_turnOff : List Cond := Cond.code yX10_turnOff cX10_turnOff 1 none :: GL
set_option maxHeartbeats 4000000 in
set_option maxRecDepth 100000 in
theorem c_X10_turnOff (l : Launch) (D : va_G) (ca : Nat → ClassId) (zz : Nat → Nat) (a0 a1 a6 a8 a9 a10 a11 a12 a13 a15 a18 : Nat) (sz : Nat) (v0 : V10) (v0' : V10) (hf : f_X10_turnOff v0 = some v0') : Met l yX10_turnOff wq_X10_turnOff ({ frames := 2, cells := 0, slots := 0, locals := 40 } : Room) (PR D ca zz [.ref a0] sz [(a0, .inr (10, [.ref a1, .ref a6, .ref a8, .ref a9, .ref a10, .ref a13, .ref a15, .ref a18, .int v0.2.2.2.2.2.2.2.2.1, .int v0.2.2.2.2.2.2.2.2.2.1, .int v0.2.2.2.2.2.2.2.2.2.2.1, .int v0.2.2.2.2.2.2.2.2.2.2.2.1, .int v0.2.2.2.2.2.2.2.2.2.2.2.2.1, .int v0.2.2.2.2.2.2.2.2.2.2.2.2.2])), (a9, .inr (1, [.int v0.2.2.2.1.1, .int v0.2.2.2.1.2.1, .int v0.2.2.2.1.2.2.1, .int v0.2.2.2.1.2.2.2.1, .int v0.2.2.2.1.2.2.2.2.1, .int v0.2.2.2.1.2.2.2.2.2])), (a10, .inr (3, [.ref a11, .int v0.2.2.2.2.1.2.1, .int v0.2.2.2.2.1.2.2.1, .int v0.2.2.2.2.1.2.2.2.1, .int v0.2.2.2.2.1.2.2.2.2.1, .int v0.2.2.2.2.1.2.2.2.2.2.1, .int v0.2.2.2.2.1.2.2.2.2.2.2])), (a11, .inr (4, [.ref a12, .int v0.2.2.2.2.1.1.2.1, .int v0.2.2.2.2.1.1.2.2]))]) (QV D ca [(a0, .inr (10, [.ref a1, .ref a6, .ref a8, .ref a9, .ref a10, .ref a13, .ref a15, .ref a18, .int v0'.2.2.2.2.2.2.2.2.1, .int v0'.2.2.2.2.2.2.2.2.2.1, .int v0'.2.2.2.2.2.2.2.2.2.2.1, .int v0'.2.2.2.2.2.2.2.2.2.2.2.1, .int v0'.2.2.2.2.2.2.2.2.2.2.2.2.1, .int v0'.2.2.2.2.2.2.2.2.2.2.2.2.2])), (a9, .inr (1, [.int v0'.2.2.2.1.1, .int v0'.2.2.2.1.2.1, .int v0'.2.2.2.1.2.2.1, .int v0'.2.2.2.1.2.2.2.1, .int v0'.2.2.2.1.2.2.2.2.1, .int v0'.2.2.2.1.2.2.2.2.2])), (a10, .inr (3, [.ref a11, .int v0'.2.2.2.2.1.2.1, .int v0'.2.2.2.2.1.2.2.1, .int v0'.2.2.2.2.1.2.2.2.1, .int v0'.2.2.2.2.1.2.2.2.2.1, .int v0'.2.2.2.2.1.2.2.2.2.2.1, .int v0'.2.2.2.2.1.2.2.2.2.2.2])), (a11, .inr (4, [.ref a12, .int v0'.2.2.2.2.1.1.2.1, .int v0'.2.2.2.2.1.1.2.2]))] (va_A [(a0, .inr (10, [.ref a1, .ref a6, .ref a8, .ref a9, .ref a10, .ref a13, .ref a15, .ref a18, .int v0.2.2.2.2.2.2.2.2.1, .int v0.2.2.2.2.2.2.2.2.2.1, .int v0.2.2.2.2.2.2.2.2.2.2.1, .int v0.2.2.2.2.2.2.2.2.2.2.2.1, .int v0.2.2.2.2.2.2.2.2.2.2.2.2.1, .int v0.2.2.2.2.2.2.2.2.2.2.2.2.2])), (a9, .inr (1, [.int v0.2.2.2.1.1, .int v0.2.2.2.1.2.1, .int v0.2.2.2.1.2.2.1, .int v0.2.2.2.1.2.2.2.1, .int v0.2.2.2.1.2.2.2.2.1, .int v0.2.2.2.1.2.2.2.2.2])), (a10, .inr (3, [.ref a11, .int v0.2.2.2.2.1.2.1, .int v0.2.2.2.2.1.2.2.1, .int v0.2.2.2.2.1.2.2.2.1, .int v0.2.2.2.2.1.2.2.2.2.1, .int v0.2.2.2.2.1.2.2.2.2.2.1, .int v0.2.2.2.2.1.2.2.2.2.2.2])), (a11, .inr (4, [.ref a12, .int v0.2.2.2.2.1.1.2.1, .int v0.2.2.2.2.1.1.2.2]))] sz)) 0 0 (va_A [(a0, .inr (10, [.ref a1, .ref a6, .ref a8, .ref a9, .ref a10, .ref a13, .ref a15, .ref a18, .int v0.2.2.2.2.2.2.2.2.1, .int v0.2.2.2.2.2.2.2.2.2.1, .int v0.2.2.2.2.2.2.2.2.2.2.1, .int v0.2.2.2.2.2.2.2.2.2.2.2.1, .int v0.2.2.2.2.2.2.2.2.2.2.2.2.1, .int v0.2.2.2.2.2.2.2.2.2.2.2.2.2])), (a9, .inr (1, [.int v0.2.2.2.1.1, .int v0.2.2.2.1.2.1, .int v0.2.2.2.1.2.2.1, .int v0.2.2.2.1.2.2.2.1, .int v0.2.2.2.1.2.2.2.2.1, .int v0.2.2.2.1.2.2.2.2.2])), (a10, .inr (3, [.ref a11, .int v0.2.2.2.2.1.2.1, .int v0.2.2.2.2.1.2.2.1, .int v0.2.2.2.2.1.2.2.2.1, .int v0.2.2.2.2.1.2.2.2.2.1, .int v0.2.2.2.2.1.2.2.2.2.2.1, .int v0.2.2.2.2.1.2.2.2.2.2.2])), (a11, .inr (4, [.ref a12, .int v0.2.2.2.2.1.1.2.1, .int v0.2.2.2.2.1.1.2.2]))] sz) := by
  refine en (y := yX10_turnOff) (wsm := wq_X10_turnOff) (av := [.ref a0]) (cc := cX10_turnOff) (maxL := 1) (ret := none) (Qf := fun A => QV D ca [(a0, .inr (10, [.ref a1, .ref a6, .ref a8, .ref a9, .ref a10, .ref a13, .ref a15, .ref a18, .int v0'.2.2.2.2.2.2.2.2.1, .int v0'.2.2.2.2.2.2.2.2.2.1, .int v0'.2.2.2.2.2.2.2.2.2.2.1, .int v0'.2.2.2.2.2.2.2.2.2.2.2.1, .int v0'.2.2.2.2.2.2.2.2.2.2.2.2.1, .int v0'.2.2.2.2.2.2.2.2.2.2.2.2.2])), (a9, .inr (1, [.int v0'.2.2.2.1.1, .int v0'.2.2.2.1.2.1, .int v0'.2.2.2.1.2.2.1, .int v0'.2.2.2.1.2.2.2.1, .int v0'.2.2.2.1.2.2.2.2.1, .int v0'.2.2.2.1.2.2.2.2.2])), (a10, .inr (3, [.ref a11, .int v0'.2.2.2.2.1.2.1, .int v0'.2.2.2.2.1.2.2.1, .int v0'.2.2.2.2.1.2.2.2.1, .int v0'.2.2.2.2.1.2.2.2.2.1, .int v0'.2.2.2.2.1.2.2.2.2.2.1, .int v0'.2.2.2.2.1.2.2.2.2.2.2])), (a11, .inr (4, [.ref a12, .int v0'.2.2.2.2.1.1.2.1, .int v0'.2.2.2.2.1.1.2.2]))] A) (by decide) rfl (Nat.le_of_ble_eq_true rfl) ?_
  intro p e s m args below meth c A Q ls hx hb hr hml hown hts hlocks hnm hA hN hZ hK hQ hP hD hS hl
  have w0 := hts _ (List.mem_cons_of_mem _ gw_2_77)
  have w1 := hts _ (List.mem_cons_of_mem _ gw_2_76)
  have w2 := hts _ (List.mem_cons_of_mem _ gw_2_85)
  have i10 : ∀ w ∈ u_ws RX10 TX10 14, w ∈ wq_X10_turnOff := fun w h => List.mem_cons_of_mem _ (inX10 w h)
  unfold f_X10_turnOff at hf
  refine lv_aload_n hx hb dX10_turnOff_0 rfl (lv_at hl 0 rfl) ?_
  refine va_get (C := RX10) (T := TX10) (N := 14) hx hb hts i10 hown hK hP 0 rfl rfl 4 (Nat.le_of_ble_eq_true rfl) w0 (fun _ h9 => h9) rfl dX10_turnOff_1 ?_
  obtain ⟨u_1, hc1, hf⟩ := bnd1_el hf
  refine xV_V (As := []) (wx := [(a0, .inr (10, [.ref a1, .ref a6, .ref a8, .ref a9, .ref a10, .ref a13, .ref a15, .ref a18, .int v0.2.2.2.2.2.2.2.2.1, .int v0.2.2.2.2.2.2.2.2.2.1, .int v0.2.2.2.2.2.2.2.2.2.2.1, .int v0.2.2.2.2.2.2.2.2.2.2.2.1, .int v0.2.2.2.2.2.2.2.2.2.2.2.2.1, .int v0.2.2.2.2.2.2.2.2.2.2.2.2.2])), (a9, .inr (1, [.int v0.2.2.2.1.1, .int v0.2.2.2.1.2.1, .int v0.2.2.2.1.2.2.1, .int v0.2.2.2.1.2.2.2.1, .int v0.2.2.2.1.2.2.2.2.1, .int v0.2.2.2.1.2.2.2.2.2])), (a10, .inr (3, [.ref a11, .int u_1.2.1, .int u_1.2.2.1, .int u_1.2.2.2.1, .int u_1.2.2.2.2.1, .int u_1.2.2.2.2.2.1, .int u_1.2.2.2.2.2.2])), (a11, .inr (4, [.ref a12, .int u_1.1.2.1, .int u_1.1.2.2]))]) ⟨hx, hb, hml, hown, hts⟩ (c_X3_lose l D ca zz a10 a11 a12 _ v0.2.2.2.2.1 u_1 hc1) (cwV 0 hts (gV gw_3_141 gw_3_142 gw_3_143 gw_1_7 gw_3_144) rfl rfl rfl (by decide +kernel) ⟨(Nat.le_of_ble_eq_true rfl), (Nat.le_of_ble_eq_true rfl)⟩) hK hN hZ hA hP hD hS [2, 3] rfl rfl rfl rfl 2 rfl rfl hl.1 rfl (Nat.le_of_ble_eq_true rfl) dX10_turnOff_4 ⟨Nat.zero_le _, Nat.zero_le _⟩ rfl (fun H locs hP hD hS => ?_)
  refine lv_aload_n hx hb dX10_turnOff_7 rfl (lv_at hl 0 rfl) ?_
  refine va_get (C := RX10) (T := TX10) (N := 14) hx hb hts i10 hown hK hP 0 rfl rfl 3 (Nat.le_of_ble_eq_true rfl) w1 (fun _ h9 => h9) rfl dX10_turnOff_8 ?_
  obtain ⟨u_2, hc2, hf⟩ := bnd1_el hf
  refine xV_V (As := []) (wx := [(a0, .inr (10, [.ref a1, .ref a6, .ref a8, .ref a9, .ref a10, .ref a13, .ref a15, .ref a18, .int v0.2.2.2.2.2.2.2.2.1, .int v0.2.2.2.2.2.2.2.2.2.1, .int v0.2.2.2.2.2.2.2.2.2.2.1, .int v0.2.2.2.2.2.2.2.2.2.2.2.1, .int v0.2.2.2.2.2.2.2.2.2.2.2.2.1, .int v0.2.2.2.2.2.2.2.2.2.2.2.2.2])), (a9, .inr (1, [.int u_2.1, .int u_2.2.1, .int u_2.2.2.1, .int u_2.2.2.2.1, .int u_2.2.2.2.2.1, .int u_2.2.2.2.2.2])), (a10, .inr (3, [.ref a11, .int u_1.2.1, .int u_1.2.2.1, .int u_1.2.2.2.1, .int u_1.2.2.2.2.1, .int u_1.2.2.2.2.2.1, .int u_1.2.2.2.2.2.2])), (a11, .inr (4, [.ref a12, .int u_1.1.2.1, .int u_1.1.2.2]))]) ⟨hx, hb, hml, hown, hts⟩ (c_X1_clear l D ca zz a9 _ v0.2.2.2.1 u_2 hc2) (cwV 0 hts (gV gw_2_46 gw_2_47 gw_2_48 gw_1_6 gw_2_49) rfl rfl rfl (by decide +kernel) ⟨(Nat.le_of_ble_eq_true rfl), (Nat.le_of_ble_eq_true rfl)⟩) hK hN hZ hA hP hD hS [1] rfl rfl rfl rfl 1 rfl rfl hl.1 rfl (Nat.le_of_ble_eq_true rfl) dX10_turnOff_11 ⟨Nat.zero_le _, Nat.zero_le _⟩ rfl (fun H locs hP hD hS => ?_)
  refine lv_aload_n hx hb dX10_turnOff_14 rfl (lv_at hl 0 rfl) ?_
  refine lv_iconst (v := 0) hx hb dX10_turnOff_15 rfl ?_
  refine xput (C := RX10) (T := TX10) (N := 14) (wx := [(a0, .inr (10, [.ref a1, .ref a6, .ref a8, .ref a9, .ref a10, .ref a13, .ref a15, .ref a18, .int (0 : Int32), .int v0.2.2.2.2.2.2.2.2.2.1, .int v0.2.2.2.2.2.2.2.2.2.2.1, .int v0.2.2.2.2.2.2.2.2.2.2.2.1, .int v0.2.2.2.2.2.2.2.2.2.2.2.2.1, .int v0.2.2.2.2.2.2.2.2.2.2.2.2.2])), (a9, .inr (1, [.int u_2.1, .int u_2.2.1, .int u_2.2.2.1, .int u_2.2.2.2.1, .int u_2.2.2.2.2.1, .int u_2.2.2.2.2.2])), (a10, .inr (3, [.ref a11, .int u_1.2.1, .int u_1.2.2.1, .int u_1.2.2.2.1, .int u_1.2.2.2.2.1, .int u_1.2.2.2.2.2.1, .int u_1.2.2.2.2.2.2])), (a11, .inr (4, [.ref a12, .int u_1.1.2.1, .int u_1.1.2.2]))]) hx hb hts i10 tyX10 tyX10_ok nmX10 hown hK hP hD hS 0 rfl rfl 8 (Nat.le_of_ble_eq_true rfl) w2 (fun _ h9 => h9) rfl rfl rfl rfl (Nat.le_of_ble_eq_true rfl) dX10_turnOff_16 rfl (fun H locs hP hD hS => ?_)
  cases hf
  exact rt_V hx hb hr hlocks hK hP hD hS hQ rfl dX10_turnOff_19
abbrev wq_X11_stop : List Cond := Cond.code yX11_stop cX11_stop 1 (some .boolean) :: GL
set_option maxHeartbeats 4000000 in
set_option maxRecDepth 100000 in
theorem c_X11_stop (l : Launch) (D : va_G) (ca : Nat → ClassId) (zz : Nat → Nat) (a0 a1 a2 a7 a9 a10 a11 a12 a13 a14 a16 a19 a21 a41 a42 a49 a52 a54 a55 : Nat) (sz : Nat) (v0 : V11) (r : Int32) (v0' : V11) (hf : f_X11_stop v0 = some (r, v0')) : Met l yX11_stop wq_X11_stop ({ frames := 3, cells := 0, slots := 0, locals := 60 } : Room) (PR D ca zz [.ref a0] sz [(a0, .inr (11, [.ref a1, .ref a21, .ref a41, .ref a42, .ref a49, .ref a52, .ref a54, .ref a55])), (a1, .inr (10, [.ref a2, .ref a7, .ref a9, .ref a10, .ref a11, .ref a14, .ref a16, .ref a19, .int v0.1.2.2.2.2.2.2.2.2.1, .int v0.1.2.2.2.2.2.2.2.2.2.1, .int v0.1.2.2.2.2.2.2.2.2.2.2.1, .int v0.1.2.2.2.2.2.2.2.2.2.2.2.1, .int v0.1.2.2.2.2.2.2.2.2.2.2.2.2.1, .int v0.1.2.2.2.2.2.2.2.2.2.2.2.2.2])), (a10, .inr (1, [.int v0.1.2.2.2.1.1, .int v0.1.2.2.2.1.2.1, .int v0.1.2.2.2.1.2.2.1, .int v0.1.2.2.2.1.2.2.2.1, .int v0.1.2.2.2.1.2.2.2.2.1, .int v0.1.2.2.2.1.2.2.2.2.2])), (a11, .inr (3, [.ref a12, .int v0.1.2.2.2.2.1.2.1, .int v0.1.2.2.2.2.1.2.2.1, .int v0.1.2.2.2.2.1.2.2.2.1, .int v0.1.2.2.2.2.1.2.2.2.2.1, .int v0.1.2.2.2.2.1.2.2.2.2.2.1, .int v0.1.2.2.2.2.1.2.2.2.2.2.2])), (a12, .inr (4, [.ref a13, .int v0.1.2.2.2.2.1.1.2.1, .int v0.1.2.2.2.2.1.1.2.2]))]) (QI D ca r [(a0, .inr (11, [.ref a1, .ref a21, .ref a41, .ref a42, .ref a49, .ref a52, .ref a54, .ref a55])), (a1, .inr (10, [.ref a2, .ref a7, .ref a9, .ref a10, .ref a11, .ref a14, .ref a16, .ref a19, .int v0'.1.2.2.2.2.2.2.2.2.1, .int v0'.1.2.2.2.2.2.2.2.2.2.1, .int v0'.1.2.2.2.2.2.2.2.2.2.2.1, .int v0'.1.2.2.2.2.2.2.2.2.2.2.2.1, .int v0'.1.2.2.2.2.2.2.2.2.2.2.2.2.1, .int v0'.1.2.2.2.2.2.2.2.2.2.2.2.2.2])), (a10, .inr (1, [.int v0'.1.2.2.2.1.1, .int v0'.1.2.2.2.1.2.1, .int v0'.1.2.2.2.1.2.2.1, .int v0'.1.2.2.2.1.2.2.2.1, .int v0'.1.2.2.2.1.2.2.2.2.1, .int v0'.1.2.2.2.1.2.2.2.2.2])), (a11, .inr (3, [.ref a12, .int v0'.1.2.2.2.2.1.2.1, .int v0'.1.2.2.2.2.1.2.2.1, .int v0'.1.2.2.2.2.1.2.2.2.1, .int v0'.1.2.2.2.2.1.2.2.2.2.1, .int v0'.1.2.2.2.2.1.2.2.2.2.2.1, .int v0'.1.2.2.2.2.1.2.2.2.2.2.2])), (a12, .inr (4, [.ref a13, .int v0'.1.2.2.2.2.1.1.2.1, .int v0'.1.2.2.2.2.1.1.2.2]))] (va_A [(a0, .inr (11, [.ref a1, .ref a21, .ref a41, .ref a42, .ref a49, .ref a52, .ref a54, .ref a55])), (a1, .inr (10, [.ref a2, .ref a7, .ref a9, .ref a10, .ref a11, .ref a14, .ref a16, .ref a19, .int v0.1.2.2.2.2.2.2.2.2.1, .int v0.1.2.2.2.2.2.2.2.2.2.1, .int v0.1.2.2.2.2.2.2.2.2.2.2.1, .int v0.1.2.2.2.2.2.2.2.2.2.2.2.1, .int v0.1.2.2.2.2.2.2.2.2.2.2.2.2.1, .int v0.1.2.2.2.2.2.2.2.2.2.2.2.2.2])), (a10, .inr (1, [.int v0.1.2.2.2.1.1, .int v0.1.2.2.2.1.2.1, .int v0.1.2.2.2.1.2.2.1, .int v0.1.2.2.2.1.2.2.2.1, .int v0.1.2.2.2.1.2.2.2.2.1, .int v0.1.2.2.2.1.2.2.2.2.2])), (a11, .inr (3, [.ref a12, .int v0.1.2.2.2.2.1.2.1, .int v0.1.2.2.2.2.1.2.2.1, .int v0.1.2.2.2.2.1.2.2.2.1, .int v0.1.2.2.2.2.1.2.2.2.2.1, .int v0.1.2.2.2.2.1.2.2.2.2.2.1, .int v0.1.2.2.2.2.1.2.2.2.2.2.2])), (a12, .inr (4, [.ref a13, .int v0.1.2.2.2.2.1.1.2.1, .int v0.1.2.2.2.2.1.1.2.2]))] sz)) 0 0 (va_A [(a0, .inr (11, [.ref a1, .ref a21, .ref a41, .ref a42, .ref a49, .ref a52, .ref a54, .ref a55])), (a1, .inr (10, [.ref a2, .ref a7, .ref a9, .ref a10, .ref a11, .ref a14, .ref a16, .ref a19, .int v0.1.2.2.2.2.2.2.2.2.1, .int v0.1.2.2.2.2.2.2.2.2.2.1, .int v0.1.2.2.2.2.2.2.2.2.2.2.1, .int v0.1.2.2.2.2.2.2.2.2.2.2.2.1, .int v0.1.2.2.2.2.2.2.2.2.2.2.2.2.1, .int v0.1.2.2.2.2.2.2.2.2.2.2.2.2.2])), (a10, .inr (1, [.int v0.1.2.2.2.1.1, .int v0.1.2.2.2.1.2.1, .int v0.1.2.2.2.1.2.2.1, .int v0.1.2.2.2.1.2.2.2.1, .int v0.1.2.2.2.1.2.2.2.2.1, .int v0.1.2.2.2.1.2.2.2.2.2])), (a11, .inr (3, [.ref a12, .int v0.1.2.2.2.2.1.2.1, .int v0.1.2.2.2.2.1.2.2.1, .int v0.1.2.2.2.2.1.2.2.2.1, .int v0.1.2.2.2.2.1.2.2.2.2.1, .int v0.1.2.2.2.2.1.2.2.2.2.2.1, .int v0.1.2.2.2.2.1.2.2.2.2.2.2])), (a12, .inr (4, [.ref a13, .int v0.1.2.2.2.2.1.1.2.1, .int v0.1.2.2.2.2.1.1.2.2]))] sz) := by
  refine en (y := yX11_stop) (wsm := wq_X11_stop) (av := [.ref a0]) (cc := cX11_stop) (maxL := 1) (ret := (some .boolean)) (Qf := fun A => QI D ca r [(a0, .inr (11, [.ref a1, .ref a21, .ref a41, .ref a42, .ref a49, .ref a52, .ref a54, .ref a55])), (a1, .inr (10, [.ref a2, .ref a7, .ref a9, .ref a10, .ref a11, .ref a14, .ref a16, .ref a19, .int v0'.1.2.2.2.2.2.2.2.2.1, .int v0'.1.2.2.2.2.2.2.2.2.2.1, .int v0'.1.2.2.2.2.2.2.2.2.2.2.1, .int v0'.1.2.2.2.2.2.2.2.2.2.2.2.1, .int v0'.1.2.2.2.2.2.2.2.2.2.2.2.2.1, .int v0'.1.2.2.2.2.2.2.2.2.2.2.2.2.2])), (a10, .inr (1, [.int v0'.1.2.2.2.1.1, .int v0'.1.2.2.2.1.2.1, .int v0'.1.2.2.2.1.2.2.1, .int v0'.1.2.2.2.1.2.2.2.1, .int v0'.1.2.2.2.1.2.2.2.2.1, .int v0'.1.2.2.2.1.2.2.2.2.2])), (a11, .inr (3, [.ref a12, .int v0'.1.2.2.2.2.1.2.1, .int v0'.1.2.2.2.2.1.2.2.1, .int v0'.1.2.2.2.2.1.2.2.2.1, .int v0'.1.2.2.2.2.1.2.2.2.2.1, .int v0'.1.2.2.2.2.1.2.2.2.2.2.1, .int v0'.1.2.2.2.2.1.2.2.2.2.2.2])), (a12, .inr (4, [.ref a13, .int v0'.1.2.2.2.2.1.1.2.1, .int v0'.1.2.2.2.2.1.1.2.2]))] A) (by decide) rfl (Nat.le_of_ble_eq_true rfl) ?_
  intro p e s m args below meth c A Q ls hx hb hr hml hown hts hlocks hnm hA hN hZ hK hQ hP hD hS hl
  have w0 := hts _ (List.mem_cons_of_mem _ gw_2_187)
  have nw40 := NW.use (args := args) (w := .fieldLinkNest RX11 106 "NoiseWatch$Watch" "status" "I" "NoiseWatch") hN 40 rfl
  have i10 : ∀ w ∈ u_ws RX10 TX10 14, w ∈ wq_X11_stop := fun w h => List.mem_cons_of_mem _ (inX10 w h)
  have i11 : ∀ w ∈ u_ws RX11 TX11 8, w ∈ wq_X11_stop := fun w h => List.mem_cons_of_mem _ (inX11 w h)
  unfold f_X11_stop at hf
  refine lv_aload_n hx hb dX11_stop_0 rfl (lv_at hl 0 rfl) ?_
  refine va_get (C := RX11) (T := TX11) (N := 8) hx hb hts i11 hown hK hP 0 rfl rfl 0 (Nat.le_of_ble_eq_true rfl) w0 (fun _ h9 => h9) rfl dX11_stop_1 ?_
  refine va_getN (C := RX10) (T := TX10) (N := 14) hx hb hts i10 hown hK hP 1 rfl rfl 8 (Nat.le_of_ble_eq_true rfl) nw40 (fun _ h9 => h9) rfl dX11_stop_4 ?_
  refine xi_ne (tgt := 12) hx hb dX11_stop_7 (by decide) hf (fun hf => ?_) (fun hf => ?_)
  · refine lv_aload_n hx hb dX11_stop_12 rfl (lv_at hl 0 rfl) ?_
    refine va_get (C := RX11) (T := TX11) (N := 8) hx hb hts i11 hown hK hP 0 rfl rfl 0 (Nat.le_of_ble_eq_true rfl) w0 (fun _ h9 => h9) rfl dX11_stop_13 ?_
    obtain ⟨u_1, hc1, hf⟩ := bnd1_el hf
    refine xV_V (As := []) (wx := [(a0, .inr (11, [.ref a1, .ref a21, .ref a41, .ref a42, .ref a49, .ref a52, .ref a54, .ref a55])), (a1, .inr (10, [.ref a2, .ref a7, .ref a9, .ref a10, .ref a11, .ref a14, .ref a16, .ref a19, .int u_1.2.2.2.2.2.2.2.2.1, .int u_1.2.2.2.2.2.2.2.2.2.1, .int u_1.2.2.2.2.2.2.2.2.2.2.1, .int u_1.2.2.2.2.2.2.2.2.2.2.2.1, .int u_1.2.2.2.2.2.2.2.2.2.2.2.2.1, .int u_1.2.2.2.2.2.2.2.2.2.2.2.2.2])), (a10, .inr (1, [.int u_1.2.2.2.1.1, .int u_1.2.2.2.1.2.1, .int u_1.2.2.2.1.2.2.1, .int u_1.2.2.2.1.2.2.2.1, .int u_1.2.2.2.1.2.2.2.2.1, .int u_1.2.2.2.1.2.2.2.2.2])), (a11, .inr (3, [.ref a12, .int u_1.2.2.2.2.1.2.1, .int u_1.2.2.2.2.1.2.2.1, .int u_1.2.2.2.2.1.2.2.2.1, .int u_1.2.2.2.2.1.2.2.2.2.1, .int u_1.2.2.2.2.1.2.2.2.2.2.1, .int u_1.2.2.2.2.1.2.2.2.2.2.2])), (a12, .inr (4, [.ref a13, .int u_1.2.2.2.2.1.1.2.1, .int u_1.2.2.2.2.1.1.2.2]))]) ⟨hx, hb, hml, hown, hts⟩ (c_X10_turnOff l D ca zz a1 a2 a7 a9 a10 a11 a12 a13 a14 a16 a19 _ v0.1 u_1 hc1) (cwV 0 hts (gV gw_3_154 gw_3_155 gw_3_156 gw_1_2 gw_3_157) rfl rfl rfl (by decide +kernel) ⟨(Nat.le_of_ble_eq_true rfl), (Nat.le_of_ble_eq_true rfl)⟩) hK hN hZ hA hP hD hS [1, 2, 3, 4] rfl rfl rfl rfl 1 rfl rfl hl.1 rfl (Nat.le_of_ble_eq_true rfl) dX11_stop_16 ⟨Nat.zero_le _, Nat.zero_le _⟩ rfl (fun H locs hP hD hS => ?_)
    refine lv_iconst (v := 1) hx hb dX11_stop_19 rfl ?_
    cases hf
    exact rt_Z hx hb hr hlocks hK hP hD hS hQ (Or.inr rfl) rfl rfl dX11_stop_20
  · refine lv_iconst (v := 0) hx hb dX11_stop_10 rfl ?_
    cases hf
    exact rt_Z hx hb hr hlocks hK hP hD hS hQ (Or.inl rfl) rfl rfl dX11_stop_11
abbrev wq_X8_belowSixteen : List Cond := Cond.code yX8_belowSixteen cX8_belowSixteen 1 (some .int) :: GL
set_option maxHeartbeats 4000000 in
set_option maxRecDepth 100000 in
theorem c_X8_belowSixteen (l : Launch) (D : va_G) (ca : Nat → ClassId) (zz : Nat → Nat) (a0 : Nat) (sz : Nat) (v0 : V8) (r : Int32) (v0' : V8) (hf : f_X8_belowSixteen v0 = some (r, v0')) : Met l yX8_belowSixteen wq_X8_belowSixteen ({ frames := 0, cells := 0, slots := 0, locals := 0 } : Room) (PR D ca zz [.ref a0] sz [(a0, .inr (8, [.int v0.1, .int v0.2.1, .int v0.2.2]))]) (QI D ca r [(a0, .inr (8, [.int v0'.1, .int v0'.2.1, .int v0'.2.2]))] (va_A [(a0, .inr (8, [.int v0.1, .int v0.2.1, .int v0.2.2]))] sz)) 0 0 (va_A [(a0, .inr (8, [.int v0.1, .int v0.2.1, .int v0.2.2]))] sz) := by
  refine en (y := yX8_belowSixteen) (wsm := wq_X8_belowSixteen) (av := [.ref a0]) (cc := cX8_belowSixteen) (maxL := 1) (ret := (some .int)) (Qf := fun A => QI D ca r [(a0, .inr (8, [.int v0'.1, .int v0'.2.1, .int v0'.2.2]))] A) (by decide) rfl (Nat.le_of_ble_eq_true rfl) ?_
  intro p e s m args below meth c A Q ls hx hb hr hml hown hts hlocks hnm hA hN hZ hK hQ hP hD hS hl
  have w0 := hts _ (List.mem_cons_of_mem _ gw_1_110)
  have w1 := hts _ (List.mem_cons_of_mem _ gw_3_174)
  have i8 : ∀ w ∈ u_ws RX8 TX8 3, w ∈ wq_X8_belowSixteen := fun w h => List.mem_cons_of_mem _ (inX8 w h)
  unfold f_X8_belowSixteen at hf
  refine lv_aload_n hx hb dX8_belowSixteen_0 rfl (lv_at hl 0 rfl) ?_
  refine lv_aload_n hx hb dX8_belowSixteen_1 rfl (lv_at hl 0 rfl) ?_
  refine va_get (C := RX8) (T := TX8) (N := 3) hx hb hts i8 hown hK hP 0 rfl rfl 0 (Nat.le_of_ble_eq_true rfl) w0 (fun _ h9 => h9) rfl dX8_belowSixteen_2 ?_
  refine lv_ldc hx hb hown w1 dX8_belowSixteen_5 ?_
  refine lv_imul hx hb dX8_belowSixteen_7 ?_
  refine lv_sipush (v := 12345) hx hb dX8_belowSixteen_8 rfl ?_
  refine lv_iadd hx hb dX8_belowSixteen_11 ?_
  refine xnm hf (fun x_1 hf => ?_)
  refine xput (C := RX8) (T := TX8) (N := 3) (wx := [(a0, .inr (8, [.int x_1, .int v0.2.1, .int v0.2.2]))]) hx hb hts i8 tyX8 tyX8_ok nmX8 hown hK hP hD hS 0 rfl rfl 0 (Nat.le_of_ble_eq_true rfl) w0 (fun _ h9 => h9) rfl rfl rfl rfl (Nat.le_of_ble_eq_true rfl) dX8_belowSixteen_12 rfl (fun H locs hP hD hS => ?_)
  refine lv_aload_n hx hb dX8_belowSixteen_15 rfl (lv_at hl 0 rfl) ?_
  refine va_get (C := RX8) (T := TX8) (N := 3) hx hb hts i8 hown hK hP 0 rfl rfl 0 (Nat.le_of_ble_eq_true rfl) w0 (fun _ h9 => h9) rfl dX8_belowSixteen_16 ?_
  refine lv_bipush (v := 16) hx hb dX8_belowSixteen_19 rfl ?_
  refine lv_iushr (v := jushr x_1 (16 : Int32)) hx hb dX8_belowSixteen_21 rfl ?_
  refine lv_bipush (v := 16) hx hb dX8_belowSixteen_22 rfl ?_
  refine xirem hx hb dX8_belowSixteen_24 hf (fun hf => ?_)
  cases hf
  exact rt_I hx hb hr hlocks hK hP hD hS hQ rfl rfl dX8_belowSixteen_25
abbrev wq_X7_stuckAt : List Cond := Cond.code yX7_stuckAt cX7_stuckAt 4 (some .int) :: GL
set_option maxHeartbeats 4000000 in
set_option maxRecDepth 100000 in
theorem c_X7_stuckAt (l : Launch) (D : va_G) (ca : Nat → ClassId) (zz : Nat → Nat) (a0 a1 a2 a3 a4 : Nat) (sz : Nat) (v0 : V7) (p1 : Int32) (p2 : Int32) (r : Int32) (hf : f_X7_stuckAt v0 p1 p2 = some r) : Met l yX7_stuckAt wq_X7_stuckAt ({ frames := 1, cells := 0, slots := 0, locals := 21 } : Room) (PR D ca zz [.ref a0, .int p1, .int p2] sz [(a0, .inr (7, [.ref a1, .ref a2, .ref a3, .ref a4, .int v0.2.2.2.2])), (a2, .inl (ca 0, 4, .inl v0.2.1)), (a3, .inl (ca 0, 4, .inl v0.2.2.1)), (a4, .inl (ca 0, 4, .inl v0.2.2.2.1))]) (QI D ca r [(a0, .inr (7, [.ref a1, .ref a2, .ref a3, .ref a4, .int v0.2.2.2.2])), (a2, .inl (ca 0, 4, .inl v0.2.1)), (a3, .inl (ca 0, 4, .inl v0.2.2.1)), (a4, .inl (ca 0, 4, .inl v0.2.2.2.1))] (va_A [(a0, .inr (7, [.ref a1, .ref a2, .ref a3, .ref a4, .int v0.2.2.2.2])), (a2, .inl (ca 0, 4, .inl v0.2.1)), (a3, .inl (ca 0, 4, .inl v0.2.2.1)), (a4, .inl (ca 0, 4, .inl v0.2.2.2.1))] sz)) 0 0 (va_A [(a0, .inr (7, [.ref a1, .ref a2, .ref a3, .ref a4, .int v0.2.2.2.2])), (a2, .inl (ca 0, 4, .inl v0.2.1)), (a3, .inl (ca 0, 4, .inl v0.2.2.1)), (a4, .inl (ca 0, 4, .inl v0.2.2.2.1))] sz) := by
  refine en (y := yX7_stuckAt) (wsm := wq_X7_stuckAt) (av := [.ref a0, .int p1, .int p2]) (cc := cX7_stuckAt) (maxL := 4) (ret := (some .int)) (Qf := fun A => QI D ca r [(a0, .inr (7, [.ref a1, .ref a2, .ref a3, .ref a4, .int v0.2.2.2.2])), (a2, .inl (ca 0, 4, .inl v0.2.1)), (a3, .inl (ca 0, 4, .inl v0.2.2.1)), (a4, .inl (ca 0, 4, .inl v0.2.2.2.1))] A) (by decide) rfl (Nat.le_of_ble_eq_true rfl) ?_
  intro p e s m args below meth c A Q ls hx hb hr hml hown hts hlocks hnm hA hN hZ hK hQ hP hD hS hl
  have w0 := hts _ (List.mem_cons_of_mem _ gw_1_59)
  have w1 := hts _ (List.mem_cons_of_mem _ gw_2_235)
  have w2 := hts _ (List.mem_cons_of_mem _ gw_2_30)
  have w3 := hts _ (List.mem_cons_of_mem _ gw_1_11)
  have w4 := hts _ (List.mem_cons_of_mem _ gw_2_31)
  have w5 := hts _ (List.mem_cons_of_mem _ gw_1_56)
  have w6 := hts _ (List.mem_cons_of_mem _ gw_1_57)
  have w7 := hts _ (List.mem_cons_of_mem _ gw_1_58)
  have i7 : ∀ w ∈ u_ws RX7 TX7 5, w ∈ wq_X7_stuckAt := fun w h => List.mem_cons_of_mem _ (inX7 w h)
  have bl11 : ∀ (k11 : Int32 → Int32 → Int32 → Option (Int32)) (q11 : ∀ (x1 : Int32) (x2 : Int32) (x3 : Int32), k11 x1 x2 x3 = some r → ∀ (H : Heap) (locs : List Loc) (ls : Array Slot), va_P D vwCl [(a0, .inr (7, [.ref a1, .ref a2, .ref a3, .ref a4, .int v0.2.2.2.2])), (a2, .inl (ca 0, 4, .inl v0.2.1)), (a3, .inl (ca 0, 4, .inl v0.2.2.1)), (a4, .inl (ca 0, 4, .inl v0.2.2.2.1))] H → va_D A [(a0, .inr (7, [.ref a1, .ref a2, .ref a3, .ref a4, .int v0.2.2.2.2])), (a2, .inl (ca 0, 4, .inl v0.2.1)), (a3, .inl (ca 0, 4, .inl v0.2.2.1)), (a4, .inl (ca 0, 4, .inl v0.2.2.2.1))] → va_S A s.heap H locs → lv_has ls 4 [(0, .ref a0), (1, .int x1), (2, .int x2), (3, .int x3)] → W p l e ({ frames := 1, cells := 0, slots := 0, locals := 21 } : Room) s m args below meth c H locs 0 0 Q (F0 m 11 ls [])) (x1 : Int32) (x2 : Int32) (x3 : Int32), fl_X7_stuckAt_11 v0 k11 x1 x2 x3 = some r → ∀ (H : Heap) (locs : List Loc) (ls : Array Slot), va_P D vwCl [(a0, .inr (7, [.ref a1, .ref a2, .ref a3, .ref a4, .int v0.2.2.2.2])), (a2, .inl (ca 0, 4, .inl v0.2.1)), (a3, .inl (ca 0, 4, .inl v0.2.2.1)), (a4, .inl (ca 0, 4, .inl v0.2.2.2.1))] H → va_D A [(a0, .inr (7, [.ref a1, .ref a2, .ref a3, .ref a4, .int v0.2.2.2.2])), (a2, .inl (ca 0, 4, .inl v0.2.1)), (a3, .inl (ca 0, 4, .inl v0.2.2.1)), (a4, .inl (ca 0, 4, .inl v0.2.2.2.1))] → va_S A s.heap H locs → lv_has ls 4 [(0, .ref a0), (1, .int x1), (2, .int x2), (3, .int x3)] → W p l e ({ frames := 1, cells := 0, slots := 0, locals := 21 } : Room) s m args below meth c H locs 0 0 Q (F0 m 11 ls []) := by
    intro k11 q11 x1 x2 x3 hf H locs ls hP hD hS hl
    unfold fl_X7_stuckAt_11 at hf
    refine lv_iload_n hx hb dX7_stuckAt_11 rfl (lv_at hl 3 rfl) ?_
    refine xi_lt (tgt := 48) hx hb dX7_stuckAt_12 (by decide) hf (fun hf => ?_) (fun hf => ?_)
    · refine lv_iload_n hx hb dX7_stuckAt_48 rfl (lv_at hl 2 rfl) ?_
      cases hf
      exact rt_I hx hb hr hlocks hK hP hD hS hQ rfl rfl dX7_stuckAt_49
    · refine lv_iload_n hx hb dX7_stuckAt_15 rfl (lv_at hl 1 rfl) ?_
      refine lv_aload_n hx hb dX7_stuckAt_16 rfl (lv_at hl 0 rfl) ?_
      refine va_get (C := RX7) (T := TX7) (N := 5) hx hb hts i7 hown hK hP 0 rfl rfl 1 (Nat.le_of_ble_eq_true rfl) w5 (fun _ h9 => h9) rfl dX7_stuckAt_17 ?_
      refine lv_iload_n hx hb dX7_stuckAt_20 rfl (lv_at hl 3 rfl) ?_
      refine xiald hx hb hK hP 1 rfl hf dX7_stuckAt_21 (fun hf => ?_)
      refine xc_lt (tgt := 42) hx hb dX7_stuckAt_22 (by decide) hf (fun hf => ?_) (fun hf => ?_)
      · obtain ⟨x_3, ex_3, hf⟩ := bnd_el hf
        refine lv_iinc (v := x_3) (lv' := [(3, .int x_3), (0, .ref a0), (1, .int x1), (2, .int x2)]) hx hb dX7_stuckAt_42 hl (k := 3) rfl (by rw [ex_3]; rfl) (Nat.le_of_ble_eq_true rfl) rfl (fun ls hl => ?_)
        refine lv_goto (tgt := 11) hx hb dX7_stuckAt_45 (by decide) ?_
        exact q11 x1 x2 x_3 hf _ _ _ hP hD hS (lv_sub hl [1, 2, 3, 0] rfl)
      · refine lv_iload_n hx hb dX7_stuckAt_25 rfl (lv_at hl 1 rfl) ?_
        refine lv_aload_n hx hb dX7_stuckAt_26 rfl (lv_at hl 0 rfl) ?_
        refine va_get (C := RX7) (T := TX7) (N := 5) hx hb hts i7 hown hK hP 0 rfl rfl 2 (Nat.le_of_ble_eq_true rfl) w6 (fun _ h9 => h9) rfl dX7_stuckAt_27 ?_
        refine lv_iload_n hx hb dX7_stuckAt_30 rfl (lv_at hl 3 rfl) ?_
        refine xiald hx hb hK hP 2 rfl hf dX7_stuckAt_31 (fun hf => ?_)
        refine xc_gt (tgt := 42) hx hb dX7_stuckAt_32 (by decide) hf (fun hf => ?_) (fun hf => ?_)
        · obtain ⟨x_4, ex_4, hf⟩ := bnd_el hf
          refine lv_iinc (v := x_4) (lv' := [(3, .int x_4), (0, .ref a0), (1, .int x1), (2, .int x2)]) hx hb dX7_stuckAt_42 hl (k := 3) rfl (by rw [ex_4]; rfl) (Nat.le_of_ble_eq_true rfl) rfl (fun ls hl => ?_)
          refine lv_goto (tgt := 11) hx hb dX7_stuckAt_45 (by decide) ?_
          exact q11 x1 x2 x_4 hf _ _ _ hP hD hS (lv_sub hl [1, 2, 3, 0] rfl)
        · refine lv_aload_n hx hb dX7_stuckAt_35 rfl (lv_at hl 0 rfl) ?_
          refine va_get (C := RX7) (T := TX7) (N := 5) hx hb hts i7 hown hK hP 0 rfl rfl 3 (Nat.le_of_ble_eq_true rfl) w7 (fun _ h9 => h9) rfl dX7_stuckAt_36 ?_
          refine lv_iload_n hx hb dX7_stuckAt_39 rfl (lv_at hl 3 rfl) ?_
          refine xiald hx hb hK hP 3 rfl hf dX7_stuckAt_40 (fun hf => ?_)
          cases hf
          exact rt_I hx hb hr hlocks hK hP hD hS hQ rfl rfl dX7_stuckAt_41
  have b11 : ∀ (n : Nat) (x1 : Int32) (x2 : Int32) (x3 : Int32), fb_X7_stuckAt_11 v0 n x1 x2 x3 = some r → ∀ (H : Heap) (locs : List Loc) (ls : Array Slot), va_P D vwCl [(a0, .inr (7, [.ref a1, .ref a2, .ref a3, .ref a4, .int v0.2.2.2.2])), (a2, .inl (ca 0, 4, .inl v0.2.1)), (a3, .inl (ca 0, 4, .inl v0.2.2.1)), (a4, .inl (ca 0, 4, .inl v0.2.2.2.1))] H → va_D A [(a0, .inr (7, [.ref a1, .ref a2, .ref a3, .ref a4, .int v0.2.2.2.2])), (a2, .inl (ca 0, 4, .inl v0.2.1)), (a3, .inl (ca 0, 4, .inl v0.2.2.1)), (a4, .inl (ca 0, 4, .inl v0.2.2.2.1))] → va_S A s.heap H locs → lv_has ls 4 [(0, .ref a0), (1, .int x1), (2, .int x2), (3, .int x3)] → W p l e ({ frames := 1, cells := 0, slots := 0, locals := 21 } : Room) s m args below meth c H locs 0 0 Q (F0 m 11 ls []) := by
    intro n
    induction n with
    | zero => intro x1 x2 x3 hf; exact no_el hf
    | succ n ih => exact bl11 (fb_X7_stuckAt_11 v0 n) ih
  unfold f_X7_stuckAt at hf
  refine lv_aload_n hx hb dX7_stuckAt_0 rfl (lv_at hl 0 rfl) ?_
  refine va_get (C := RX7) (T := TX7) (N := 5) hx hb hts i7 hown hK hP 0 rfl rfl 4 (Nat.le_of_ble_eq_true rfl) w0 (fun _ h9 => h9) rfl dX7_stuckAt_1 ?_
  refine lv_iconst (v := 4) hx hb dX7_stuckAt_4 rfl ?_
  refine va_mmin hx hb (hml.trans hl.1.symm) hown w1 w2 w3 w4 (Nat.le_of_ble_eq_true rfl) (Nat.le_of_ble_eq_true rfl) (Nat.zero_le _) (Nat.zero_le _) dX7_stuckAt_5 ?_
  refine xnm hf (fun x_1 hf => ?_)
  refine lv_iconst (v := 1) hx hb dX7_stuckAt_8 rfl ?_
  refine lv_isub hx hb dX7_stuckAt_9 ?_
  refine xnm hf (fun x_2 hf => ?_)
  refine lv_istore_n (lv' := [(3, .int x_2), (0, .ref a0), (1, .int p1), (2, .int p2)]) hx hb dX7_stuckAt_10 rfl hl (Nat.le_of_ble_eq_true rfl) rfl (fun ls hl => ?_)
  exact b11 FU p1 p2 x_2 hf _ _ _ hP hD hS (lv_sub hl [1, 2, 3, 0] rfl)
abbrev wq_X8_next : List Cond := Cond.code yX8_next cX8_next 3 (some .int) :: GL
set_option maxHeartbeats 4000000 in
set_option maxRecDepth 100000 in
theorem c_X8_next (l : Launch) (D : va_G) (ca : Nat → ClassId) (zz : Nat → Nat) (a0 b0 b1 b2 b3 b4 : Nat) (sz : Nat) (v0 : V8) (v1 : V7) (r : Int32) (v0' : V8) (hf : f_X8_next v0 v1 = some (r, v0')) : Met l yX8_next wq_X8_next ({ frames := 2, cells := 0, slots := 0, locals := 44 } : Room) (PR D ca zz [.ref a0, .ref b0] sz [(a0, .inr (8, [.int v0.1, .int v0.2.1, .int v0.2.2])), (b0, .inr (7, [.ref b1, .ref b2, .ref b3, .ref b4, .int v1.2.2.2.2])), (b1, .inl (ca 0, 9, .inl v1.1)), (b2, .inl (ca 0, 4, .inl v1.2.1)), (b3, .inl (ca 0, 4, .inl v1.2.2.1)), (b4, .inl (ca 0, 4, .inl v1.2.2.2.1))]) (QI D ca r [(a0, .inr (8, [.int v0'.1, .int v0'.2.1, .int v0'.2.2])), (b0, .inr (7, [.ref b1, .ref b2, .ref b3, .ref b4, .int v1.2.2.2.2])), (b1, .inl (ca 0, 9, .inl v1.1)), (b2, .inl (ca 0, 4, .inl v1.2.1)), (b3, .inl (ca 0, 4, .inl v1.2.2.1)), (b4, .inl (ca 0, 4, .inl v1.2.2.2.1))] (va_A [(a0, .inr (8, [.int v0.1, .int v0.2.1, .int v0.2.2])), (b0, .inr (7, [.ref b1, .ref b2, .ref b3, .ref b4, .int v1.2.2.2.2])), (b1, .inl (ca 0, 9, .inl v1.1)), (b2, .inl (ca 0, 4, .inl v1.2.1)), (b3, .inl (ca 0, 4, .inl v1.2.2.1)), (b4, .inl (ca 0, 4, .inl v1.2.2.2.1))] sz)) 0 0 (va_A [(a0, .inr (8, [.int v0.1, .int v0.2.1, .int v0.2.2])), (b0, .inr (7, [.ref b1, .ref b2, .ref b3, .ref b4, .int v1.2.2.2.2])), (b1, .inl (ca 0, 9, .inl v1.1)), (b2, .inl (ca 0, 4, .inl v1.2.1)), (b3, .inl (ca 0, 4, .inl v1.2.2.1)), (b4, .inl (ca 0, 4, .inl v1.2.2.2.1))] sz) := by
  refine en (y := yX8_next) (wsm := wq_X8_next) (av := [.ref a0, .ref b0]) (cc := cX8_next) (maxL := 3) (ret := (some .int)) (Qf := fun A => QI D ca r [(a0, .inr (8, [.int v0'.1, .int v0'.2.1, .int v0'.2.2])), (b0, .inr (7, [.ref b1, .ref b2, .ref b3, .ref b4, .int v1.2.2.2.2])), (b1, .inl (ca 0, 9, .inl v1.1)), (b2, .inl (ca 0, 4, .inl v1.2.1)), (b3, .inl (ca 0, 4, .inl v1.2.2.1)), (b4, .inl (ca 0, 4, .inl v1.2.2.2.1))] A) (by decide) rfl (Nat.le_of_ble_eq_true rfl) ?_
  intro p e s m args below meth c A Q ls hx hb hr hml hown hts hlocks hnm hA hN hZ hK hQ hP hD hS hl
  have w0 := hts _ (List.mem_cons_of_mem _ gw_1_113)
  have w1 := hts _ (List.mem_cons_of_mem _ gw_1_111)
  have i8 : ∀ w ∈ u_ws RX8 TX8 3, w ∈ wq_X8_next := fun w h => List.mem_cons_of_mem _ (inX8 w h)
  have b37 : ∀ (v0 : V8) (x2 : Int32), fc_X8_next_37 v1 v0 x2 = some (r, v0') → ∀ (H : Heap) (locs : List Loc) (ls : Array Slot), va_P D vwCl [(a0, .inr (8, [.int v0.1, .int v0.2.1, .int v0.2.2])), (b0, .inr (7, [.ref b1, .ref b2, .ref b3, .ref b4, .int v1.2.2.2.2])), (b1, .inl (ca 0, 9, .inl v1.1)), (b2, .inl (ca 0, 4, .inl v1.2.1)), (b3, .inl (ca 0, 4, .inl v1.2.2.1)), (b4, .inl (ca 0, 4, .inl v1.2.2.2.1))] H → va_D A [(a0, .inr (8, [.int v0.1, .int v0.2.1, .int v0.2.2])), (b0, .inr (7, [.ref b1, .ref b2, .ref b3, .ref b4, .int v1.2.2.2.2])), (b1, .inl (ca 0, 9, .inl v1.1)), (b2, .inl (ca 0, 4, .inl v1.2.1)), (b3, .inl (ca 0, 4, .inl v1.2.2.1)), (b4, .inl (ca 0, 4, .inl v1.2.2.2.1))] → va_S A s.heap H locs → lv_has ls 3 [(0, .ref a0), (1, .ref b0), (2, .int x2)] → W p l e ({ frames := 2, cells := 0, slots := 0, locals := 44 } : Room) s m args below meth c H locs 0 0 Q (F0 m 37 ls []) := by
    intro v0 x2 hf H locs ls hP hD hS hl
    unfold fc_X8_next_37 at hf
    refine lv_aload_n hx hb dX8_next_37 rfl (lv_at hl 0 rfl) ?_
    refine lv_aload_n hx hb dX8_next_38 rfl (lv_at hl 1 rfl) ?_
    refine lv_aload_n hx hb dX8_next_39 rfl (lv_at hl 0 rfl) ?_
    refine va_get (C := RX8) (T := TX8) (N := 3) hx hb hts i8 hown hK hP 0 rfl rfl 1 (Nat.le_of_ble_eq_true rfl) w1 (fun _ h9 => h9) rfl dX8_next_40 ?_
    refine lv_iload_n hx hb dX8_next_43 rfl (lv_at hl 2 rfl) ?_
    obtain ⟨r_4, hc4, hf⟩ := bnd1_el hf
    refine xV_I (As := [.int v0.2.1, .int x2]) (wx := [(a0, .inr (8, [.int v0.1, .int v0.2.1, .int v0.2.2])), (b0, .inr (7, [.ref b1, .ref b2, .ref b3, .ref b4, .int v1.2.2.2.2])), (b1, .inl (ca 0, 9, .inl v1.1)), (b2, .inl (ca 0, 4, .inl v1.2.1)), (b3, .inl (ca 0, 4, .inl v1.2.2.1)), (b4, .inl (ca 0, 4, .inl v1.2.2.2.1))]) ⟨hx, hb, hml, hown, hts⟩ (c_X7_stuckAt l D ca zz b0 b1 b2 b3 b4 _ v1 v0.2.1 x2 r_4 hc4) (cwV 2 hts (gV gw_3_176 gw_3_177 gw_3_178 gw_1_3 gw_3_179) rfl rfl rfl (by decide +kernel) ⟨(Nat.le_of_ble_eq_true rfl), (Nat.le_of_ble_eq_true rfl)⟩) hK hN hZ hA hP hD hS [1, 3, 4, 5] rfl rfl rfl rfl 1 rfl rfl hl.1 rfl (Nat.le_of_ble_eq_true rfl) dX8_next_44 ⟨Nat.zero_le _, Nat.zero_le _⟩ rfl (fun H locs hP hD hS => ?_)
    refine xput (C := RX8) (T := TX8) (N := 3) (wx := [(a0, .inr (8, [.int v0.1, .int v0.2.1, .int r_4])), (b0, .inr (7, [.ref b1, .ref b2, .ref b3, .ref b4, .int v1.2.2.2.2])), (b1, .inl (ca 0, 9, .inl v1.1)), (b2, .inl (ca 0, 4, .inl v1.2.1)), (b3, .inl (ca 0, 4, .inl v1.2.2.1)), (b4, .inl (ca 0, 4, .inl v1.2.2.2.1))]) hx hb hts i8 tyX8 tyX8_ok nmX8 hown hK hP hD hS 0 rfl rfl 2 (Nat.le_of_ble_eq_true rfl) w0 (fun _ h9 => h9) rfl rfl rfl rfl (Nat.le_of_ble_eq_true rfl) dX8_next_47 rfl (fun H locs hP hD hS => ?_)
    refine lv_aload_n hx hb dX8_next_50 rfl (lv_at hl 0 rfl) ?_
    refine lv_dup hx hb dX8_next_51 rfl ?_
    refine va_get (C := RX8) (T := TX8) (N := 3) hx hb hts i8 hown hK hP 0 rfl rfl 1 (Nat.le_of_ble_eq_true rfl) w1 (fun _ h9 => h9) rfl dX8_next_52 ?_
    refine lv_iconst (v := 1) hx hb dX8_next_55 rfl ?_
    refine lv_iadd hx hb dX8_next_56 ?_
    refine xnm hf (fun x_5 hf => ?_)
    refine xput (C := RX8) (T := TX8) (N := 3) (wx := [(a0, .inr (8, [.int v0.1, .int x_5, .int r_4])), (b0, .inr (7, [.ref b1, .ref b2, .ref b3, .ref b4, .int v1.2.2.2.2])), (b1, .inl (ca 0, 9, .inl v1.1)), (b2, .inl (ca 0, 4, .inl v1.2.1)), (b3, .inl (ca 0, 4, .inl v1.2.2.1)), (b4, .inl (ca 0, 4, .inl v1.2.2.2.1))]) hx hb hts i8 tyX8 tyX8_ok nmX8 hown hK hP hD hS 0 rfl rfl 1 (Nat.le_of_ble_eq_true rfl) w1 (fun _ h9 => h9) rfl rfl rfl rfl (Nat.le_of_ble_eq_true rfl) dX8_next_57 rfl (fun H locs hP hD hS => ?_)
    refine lv_aload_n hx hb dX8_next_60 rfl (lv_at hl 0 rfl) ?_
    refine va_get (C := RX8) (T := TX8) (N := 3) hx hb hts i8 hown hK hP 0 rfl rfl 2 (Nat.le_of_ble_eq_true rfl) w0 (fun _ h9 => h9) rfl dX8_next_61 ?_
    cases hf
    exact rt_I hx hb hr hlocks hK hP hD hS hQ rfl rfl dX8_next_64
  have b36 : ∀ (v0 : V8) (t0 : Int32), fc_X8_next_36 v1 v0 t0 = some (r, v0') → ∀ (H : Heap) (locs : List Loc) (ls : Array Slot), va_P D vwCl [(a0, .inr (8, [.int v0.1, .int v0.2.1, .int v0.2.2])), (b0, .inr (7, [.ref b1, .ref b2, .ref b3, .ref b4, .int v1.2.2.2.2])), (b1, .inl (ca 0, 9, .inl v1.1)), (b2, .inl (ca 0, 4, .inl v1.2.1)), (b3, .inl (ca 0, 4, .inl v1.2.2.1)), (b4, .inl (ca 0, 4, .inl v1.2.2.2.1))] H → va_D A [(a0, .inr (8, [.int v0.1, .int v0.2.1, .int v0.2.2])), (b0, .inr (7, [.ref b1, .ref b2, .ref b3, .ref b4, .int v1.2.2.2.2])), (b1, .inl (ca 0, 9, .inl v1.1)), (b2, .inl (ca 0, 4, .inl v1.2.1)), (b3, .inl (ca 0, 4, .inl v1.2.2.1)), (b4, .inl (ca 0, 4, .inl v1.2.2.2.1))] → va_S A s.heap H locs → lv_has ls 3 [(0, .ref a0), (1, .ref b0)] → W p l e ({ frames := 2, cells := 0, slots := 0, locals := 44 } : Room) s m args below meth c H locs 0 0 Q (F0 m 36 ls [.int t0]) := by
    intro v0 t0 hf H locs ls hP hD hS hl
    unfold fc_X8_next_36 at hf
    refine lv_istore_n (lv' := [(2, .int t0), (0, .ref a0), (1, .ref b0)]) hx hb dX8_next_36 rfl hl (Nat.le_of_ble_eq_true rfl) rfl (fun ls hl => ?_)
    exact b37 v0 t0 hf _ _ _ hP hD hS (lv_sub hl [1, 2, 0] rfl)
  unfold f_X8_next at hf
  refine lv_aload_n hx hb dX8_next_0 rfl (lv_at hl 0 rfl) ?_
  refine va_get (C := RX8) (T := TX8) (N := 3) hx hb hts i8 hown hK hP 0 rfl rfl 2 (Nat.le_of_ble_eq_true rfl) w0 (fun _ h9 => h9) rfl dX8_next_1 ?_
  refine lv_istore_n (lv' := [(2, .int v0.2.2), (0, .ref a0), (1, .ref b0)]) hx hb dX8_next_4 rfl hl (Nat.le_of_ble_eq_true rfl) rfl (fun ls hl => ?_)
  refine lv_aload_n hx hb dX8_next_5 rfl (lv_at hl 1 rfl) ?_
  obtain ⟨r_1, u_2, hc2, hf⟩ := bnd2_el hf
  refine xV_I (As := []) (wx := [(a0, .inr (8, [.int u_2.1, .int u_2.2.1, .int u_2.2.2])), (b0, .inr (7, [.ref b1, .ref b2, .ref b3, .ref b4, .int v1.2.2.2.2])), (b1, .inl (ca 0, 9, .inl v1.1)), (b2, .inl (ca 0, 4, .inl v1.2.1)), (b3, .inl (ca 0, 4, .inl v1.2.2.1)), (b4, .inl (ca 0, 4, .inl v1.2.2.2.1))]) ⟨hx, hb, hml, hown, hts⟩ (c_X8_belowSixteen l D ca zz a0 _ v0 r_1 u_2 hc2) (cwV 0 hts (gV gw_3_170 gw_3_172 gw_s_1_8 gw_1_5 gw_3_173) rfl rfl rfl (by decide +kernel) ⟨(Nat.le_of_ble_eq_true rfl), (Nat.le_of_ble_eq_true rfl)⟩) hK hN hZ hA hP hD hS [0] rfl rfl rfl rfl 0 rfl rfl hl.1 rfl (Nat.le_of_ble_eq_true rfl) dX8_next_6 ⟨Nat.zero_le _, Nat.zero_le _⟩ rfl (fun H locs hP hD hS => ?_)
  refine lv_aload_n hx hb dX8_next_9 rfl (lv_at hl 2 rfl) ?_
  refine lv_bipush (v := 7) hx hb dX8_next_10 rfl ?_
  obtain ⟨r_3, hc3, hf⟩ := bnd1_el hf
  refine xV_I (As := [.int (7 : Int32)]) (wx := [(a0, .inr (8, [.int u_2.1, .int u_2.2.1, .int u_2.2.2])), (b0, .inr (7, [.ref b1, .ref b2, .ref b3, .ref b4, .int v1.2.2.2.2])), (b1, .inl (ca 0, 9, .inl v1.1)), (b2, .inl (ca 0, 4, .inl v1.2.1)), (b3, .inl (ca 0, 4, .inl v1.2.2.1)), (b4, .inl (ca 0, 4, .inl v1.2.2.2.1))]) ⟨hx, hb, hml, hown, hts⟩ (c_X7_valueOf l D ca zz b0 b1 b2 b3 b4 _ v1 (7 : Int32) r_3 hc3) (cwV 1 hts (gV gw_3_175 gw_2_15 gw_2_16 gw_1_3 gw_2_17) rfl rfl rfl (by decide +kernel) ⟨(Nat.le_of_ble_eq_true rfl), (Nat.le_of_ble_eq_true rfl)⟩) hK hN hZ hA hP hD hS [1, 2] rfl rfl rfl rfl 1 rfl rfl hl.1 rfl (Nat.le_of_ble_eq_true rfl) dX8_next_12 ⟨Nat.zero_le _, Nat.zero_le _⟩ rfl (fun H locs hP hD hS => ?_)
  refine xc_lt (tgt := 37) hx hb dX8_next_15 (by decide) hf (fun hf => ?_) (fun hf => ?_)
  · exact b37 u_2 v0.2.2 hf _ _ _ hP hD hS (lv_sub hl [1, 2, 0] rfl)
  · refine lv_aload_n hx hb dX8_next_18 rfl (lv_at hl 1 rfl) ?_
    obtain ⟨r_6, u_7, hc7, hf⟩ := bnd2_el hf
    refine xV_I (As := []) (wx := [(a0, .inr (8, [.int u_7.1, .int u_7.2.1, .int u_7.2.2])), (b0, .inr (7, [.ref b1, .ref b2, .ref b3, .ref b4, .int v1.2.2.2.2])), (b1, .inl (ca 0, 9, .inl v1.1)), (b2, .inl (ca 0, 4, .inl v1.2.1)), (b3, .inl (ca 0, 4, .inl v1.2.2.1)), (b4, .inl (ca 0, 4, .inl v1.2.2.2.1))]) ⟨hx, hb, hml, hown, hts⟩ (c_X8_belowSixteen l D ca zz a0 _ u_2 r_6 u_7 hc7) (cwV 0 hts (gV gw_3_170 gw_3_172 gw_s_1_8 gw_1_5 gw_3_173) rfl rfl rfl (by decide +kernel) ⟨(Nat.le_of_ble_eq_true rfl), (Nat.le_of_ble_eq_true rfl)⟩) hK hN hZ hA hP hD hS [0] rfl rfl rfl rfl 0 rfl rfl hl.1 rfl (Nat.le_of_ble_eq_true rfl) dX8_next_19 ⟨Nat.zero_le _, Nat.zero_le _⟩ rfl (fun H locs hP hD hS => ?_)
    refine lv_aload_n hx hb dX8_next_22 rfl (lv_at hl 2 rfl) ?_
    refine lv_bipush (v := 6) hx hb dX8_next_23 rfl ?_
    obtain ⟨r_8, hc8, hf⟩ := bnd1_el hf
    refine xV_I (As := [.int (6 : Int32)]) (wx := [(a0, .inr (8, [.int u_7.1, .int u_7.2.1, .int u_7.2.2])), (b0, .inr (7, [.ref b1, .ref b2, .ref b3, .ref b4, .int v1.2.2.2.2])), (b1, .inl (ca 0, 9, .inl v1.1)), (b2, .inl (ca 0, 4, .inl v1.2.1)), (b3, .inl (ca 0, 4, .inl v1.2.2.1)), (b4, .inl (ca 0, 4, .inl v1.2.2.2.1))]) ⟨hx, hb, hml, hown, hts⟩ (c_X7_valueOf l D ca zz b0 b1 b2 b3 b4 _ v1 (6 : Int32) r_8 hc8) (cwV 1 hts (gV gw_3_175 gw_2_15 gw_2_16 gw_1_3 gw_2_17) rfl rfl rfl (by decide +kernel) ⟨(Nat.le_of_ble_eq_true rfl), (Nat.le_of_ble_eq_true rfl)⟩) hK hN hZ hA hP hD hS [1, 2] rfl rfl rfl rfl 1 rfl rfl hl.1 rfl (Nat.le_of_ble_eq_true rfl) dX8_next_25 ⟨Nat.zero_le _, Nat.zero_le _⟩ rfl (fun H locs hP hD hS => ?_)
    refine xc_ge (tgt := 35) hx hb dX8_next_28 (by decide) hf (fun hf => ?_) (fun hf => ?_)
    · refine lv_iconst (v := 0) hx hb dX8_next_35 rfl ?_
      exact b36 u_7 (0 : Int32) hf _ _ _ hP hD hS (lv_sub hl [1, 2] rfl)
    · refine lv_iconst (v := 1) hx hb dX8_next_31 rfl ?_
      refine lv_goto (tgt := 36) hx hb dX8_next_32 (by decide) ?_
      exact b36 u_7 (1 : Int32) hf _ _ _ hP hD hS (lv_sub hl [1, 2] rfl)
abbrev wq_X4_dropFirst : List Cond := Cond.code yX4_dropFirst cX4_dropFirst 2 (some .int) :: GL
set_option maxHeartbeats 4000000 in
set_option maxRecDepth 100000 in
theorem c_X4_dropFirst (l : Launch) (D : va_G) (ca : Nat → ClassId) (zz : Nat → Nat) (a0 a1 : Nat) (sz : Nat) (v0 : V4) (r : Int32) (v0' : V4) (hf : f_X4_dropFirst v0 = some (r, v0')) : Met l yX4_dropFirst wq_X4_dropFirst ({ frames := 0, cells := 0, slots := 0, locals := 0 } : Room) (PR D ca zz [.ref a0] sz [(a0, .inr (4, [.ref a1, .int v0.2.1, .int v0.2.2])), (a1, .inl (ca 0, 512, .inl v0.1))]) (QI D ca r [(a0, .inr (4, [.ref a1, .int v0'.2.1, .int v0'.2.2])), (a1, .inl (ca 0, 512, .inl v0'.1))] (va_A [(a0, .inr (4, [.ref a1, .int v0.2.1, .int v0.2.2])), (a1, .inl (ca 0, 512, .inl v0.1))] sz)) 0 0 (va_A [(a0, .inr (4, [.ref a1, .int v0.2.1, .int v0.2.2])), (a1, .inl (ca 0, 512, .inl v0.1))] sz) := by
  refine en (y := yX4_dropFirst) (wsm := wq_X4_dropFirst) (av := [.ref a0]) (cc := cX4_dropFirst) (maxL := 2) (ret := (some .int)) (Qf := fun A => QI D ca r [(a0, .inr (4, [.ref a1, .int v0'.2.1, .int v0'.2.2])), (a1, .inl (ca 0, 512, .inl v0'.1))] A) (by decide) rfl (Nat.le_of_ble_eq_true rfl) ?_
  intro p e s m args below meth c A Q ls hx hb hr hml hown hts hlocks hnm hA hN hZ hK hQ hP hD hS hl
  have w0 := hts _ (List.mem_cons_of_mem _ gw_1_167)
  have w1 := hts _ (List.mem_cons_of_mem _ gw_1_165)
  have w2 := hts _ (List.mem_cons_of_mem _ gw_1_166)
  have i4 : ∀ w ∈ u_ws RX4 TX4 3, w ∈ wq_X4_dropFirst := fun w h => List.mem_cons_of_mem _ (inX4 w h)
  unfold f_X4_dropFirst at hf
  refine lv_aload_n hx hb dX4_dropFirst_0 rfl (lv_at hl 0 rfl) ?_
  refine va_get (C := RX4) (T := TX4) (N := 3) hx hb hts i4 hown hK hP 0 rfl rfl 2 (Nat.le_of_ble_eq_true rfl) w0 (fun _ h9 => h9) rfl dX4_dropFirst_1 ?_
  refine xi_gt (tgt := 9) hx hb dX4_dropFirst_4 (by decide) hf (fun hf => ?_) (fun hf => ?_)
  · refine lv_aload_n hx hb dX4_dropFirst_9 rfl (lv_at hl 0 rfl) ?_
    refine va_get (C := RX4) (T := TX4) (N := 3) hx hb hts i4 hown hK hP 0 rfl rfl 0 (Nat.le_of_ble_eq_true rfl) w1 (fun _ h9 => h9) rfl dX4_dropFirst_10 ?_
    refine lv_aload_n hx hb dX4_dropFirst_13 rfl (lv_at hl 0 rfl) ?_
    refine va_get (C := RX4) (T := TX4) (N := 3) hx hb hts i4 hown hK hP 0 rfl rfl 1 (Nat.le_of_ble_eq_true rfl) w2 (fun _ h9 => h9) rfl dX4_dropFirst_14 ?_
    refine lv_sipush (v := 511) hx hb dX4_dropFirst_17 rfl ?_
    refine lv_iand hx hb dX4_dropFirst_20 ?_
    refine xiald hx hb hK hP 1 rfl hf dX4_dropFirst_21 (fun hf => ?_)
    refine xnm hf (fun x_1 hf => ?_)
    refine lv_istore_n (lv' := [(1, .int x_1), (0, .ref a0)]) hx hb dX4_dropFirst_22 rfl hl (Nat.le_of_ble_eq_true rfl) rfl (fun ls hl => ?_)
    refine lv_aload_n hx hb dX4_dropFirst_23 rfl (lv_at hl 1 rfl) ?_
    refine lv_aload_n hx hb dX4_dropFirst_24 rfl (lv_at hl 1 rfl) ?_
    refine va_get (C := RX4) (T := TX4) (N := 3) hx hb hts i4 hown hK hP 0 rfl rfl 1 (Nat.le_of_ble_eq_true rfl) w2 (fun _ h9 => h9) rfl dX4_dropFirst_25 ?_
    refine lv_iconst (v := 1) hx hb dX4_dropFirst_28 rfl ?_
    refine lv_iadd hx hb dX4_dropFirst_29 ?_
    refine lv_sipush (v := 511) hx hb dX4_dropFirst_30 rfl ?_
    refine lv_iand hx hb dX4_dropFirst_33 ?_
    refine xnm hf (fun x_2 hf => ?_)
    refine xput (C := RX4) (T := TX4) (N := 3) (wx := [(a0, .inr (4, [.ref a1, .int x_2, .int v0.2.2])), (a1, .inl (ca 0, 512, .inl v0.1))]) hx hb hts i4 tyX4 tyX4_ok nmX4 hown hK hP hD hS 0 rfl rfl 1 (Nat.le_of_ble_eq_true rfl) w2 (fun _ h9 => h9) rfl rfl rfl rfl (Nat.le_of_ble_eq_true rfl) dX4_dropFirst_34 rfl (fun H locs hP hD hS => ?_)
    refine lv_aload_n hx hb dX4_dropFirst_37 rfl (lv_at hl 1 rfl) ?_
    refine lv_dup hx hb dX4_dropFirst_38 rfl ?_
    refine va_get (C := RX4) (T := TX4) (N := 3) hx hb hts i4 hown hK hP 0 rfl rfl 2 (Nat.le_of_ble_eq_true rfl) w0 (fun _ h9 => h9) rfl dX4_dropFirst_39 ?_
    refine lv_iconst (v := 1) hx hb dX4_dropFirst_42 rfl ?_
    refine lv_isub hx hb dX4_dropFirst_43 ?_
    refine xnm hf (fun x_3 hf => ?_)
    refine xput (C := RX4) (T := TX4) (N := 3) (wx := [(a0, .inr (4, [.ref a1, .int x_2, .int x_3])), (a1, .inl (ca 0, 512, .inl v0.1))]) hx hb hts i4 tyX4 tyX4_ok nmX4 hown hK hP hD hS 0 rfl rfl 2 (Nat.le_of_ble_eq_true rfl) w0 (fun _ h9 => h9) rfl rfl rfl rfl (Nat.le_of_ble_eq_true rfl) dX4_dropFirst_44 rfl (fun H locs hP hD hS => ?_)
    refine lv_iload_n hx hb dX4_dropFirst_47 rfl (lv_at hl 0 rfl) ?_
    cases hf
    exact rt_I hx hb hr hlocks hK hP hD hS hQ rfl rfl dX4_dropFirst_48
  · refine lv_iconst (v := 0) hx hb dX4_dropFirst_7 rfl ?_
    cases hf
    exact rt_I hx hb hr hlocks hK hP hD hS hQ rfl rfl dX4_dropFirst_8
abbrev wq_X4_append : List Cond := Cond.code yX4_append cX4_append 2 none :: GL
set_option maxHeartbeats 4000000 in
set_option maxRecDepth 100000 in
theorem c_X4_append (l : Launch) (D : va_G) (ca : Nat → ClassId) (zz : Nat → Nat) (a0 a1 : Nat) (sz : Nat) (v0 : V4) (p1 : Int32) (v0' : V4) (hf : f_X4_append v0 p1 = some v0') : Met l yX4_append wq_X4_append ({ frames := 0, cells := 0, slots := 0, locals := 0 } : Room) (PR D ca zz [.ref a0, .int p1] sz [(a0, .inr (4, [.ref a1, .int v0.2.1, .int v0.2.2])), (a1, .inl (ca 0, 512, .inl v0.1))]) (QV D ca [(a0, .inr (4, [.ref a1, .int v0'.2.1, .int v0'.2.2])), (a1, .inl (ca 0, 512, .inl v0'.1))] (va_A [(a0, .inr (4, [.ref a1, .int v0.2.1, .int v0.2.2])), (a1, .inl (ca 0, 512, .inl v0.1))] sz)) 0 0 (va_A [(a0, .inr (4, [.ref a1, .int v0.2.1, .int v0.2.2])), (a1, .inl (ca 0, 512, .inl v0.1))] sz) := by
  refine en (y := yX4_append) (wsm := wq_X4_append) (av := [.ref a0, .int p1]) (cc := cX4_append) (maxL := 2) (ret := none) (Qf := fun A => QV D ca [(a0, .inr (4, [.ref a1, .int v0'.2.1, .int v0'.2.2])), (a1, .inl (ca 0, 512, .inl v0'.1))] A) (by decide) rfl (Nat.le_of_ble_eq_true rfl) ?_
  intro p e s m args below meth c A Q ls hx hb hr hml hown hts hlocks hnm hA hN hZ hK hQ hP hD hS hl
  have w0 := hts _ (List.mem_cons_of_mem _ gw_1_167)
  have w1 := hts _ (List.mem_cons_of_mem _ gw_1_165)
  have w2 := hts _ (List.mem_cons_of_mem _ gw_1_166)
  have i4 : ∀ w ∈ u_ws RX4 TX4 3, w ∈ wq_X4_append := fun w h => List.mem_cons_of_mem _ (inX4 w h)
  unfold f_X4_append at hf
  refine lv_aload_n hx hb dX4_append_0 rfl (lv_at hl 0 rfl) ?_
  refine va_get (C := RX4) (T := TX4) (N := 3) hx hb hts i4 hown hK hP 0 rfl rfl 2 (Nat.le_of_ble_eq_true rfl) w0 (fun _ h9 => h9) rfl dX4_append_1 ?_
  refine lv_sipush (v := 511) hx hb dX4_append_4 rfl ?_
  refine xc_gt (tgt := 39) hx hb dX4_append_7 (by decide) hf (fun hf => ?_) (fun hf => ?_)
  · cases hf
    exact rt_V hx hb hr hlocks hK hP hD hS hQ rfl dX4_append_39
  · refine lv_aload_n hx hb dX4_append_10 rfl (lv_at hl 0 rfl) ?_
    refine va_get (C := RX4) (T := TX4) (N := 3) hx hb hts i4 hown hK hP 0 rfl rfl 0 (Nat.le_of_ble_eq_true rfl) w1 (fun _ h9 => h9) rfl dX4_append_11 ?_
    refine lv_aload_n hx hb dX4_append_14 rfl (lv_at hl 0 rfl) ?_
    refine va_get (C := RX4) (T := TX4) (N := 3) hx hb hts i4 hown hK hP 0 rfl rfl 1 (Nat.le_of_ble_eq_true rfl) w2 (fun _ h9 => h9) rfl dX4_append_15 ?_
    refine lv_aload_n hx hb dX4_append_18 rfl (lv_at hl 0 rfl) ?_
    refine va_get (C := RX4) (T := TX4) (N := 3) hx hb hts i4 hown hK hP 0 rfl rfl 2 (Nat.le_of_ble_eq_true rfl) w0 (fun _ h9 => h9) rfl dX4_append_19 ?_
    refine lv_iadd hx hb dX4_append_22 ?_
    refine lv_sipush (v := 511) hx hb dX4_append_23 rfl ?_
    refine lv_iand hx hb dX4_append_26 ?_
    refine lv_iload_n hx hb dX4_append_27 rfl (lv_at hl 1 rfl) ?_
    refine xiast (wx := [(a0, .inr (4, [.ref a1, .int v0.2.1, .int v0.2.2])), (a1, .inl (ca 0, 512, .inl ((upd v0.1 ((v0.2.1 + v0.2.2) &&& (511 : Int32)).toNatClampNeg p1))))]) hx hb hK hP hD hS 1 rfl hf dX4_append_28 rfl (fun H locs hf hP hD hS => ?_)
    obtain ⟨y_1, ey_1, hf⟩ := bnd_el hf
    rw [← ey_1] at hP hD
    refine lv_aload_n hx hb dX4_append_29 rfl (lv_at hl 0 rfl) ?_
    refine lv_dup hx hb dX4_append_30 rfl ?_
    refine va_get (C := RX4) (T := TX4) (N := 3) hx hb hts i4 hown hK hP 0 rfl rfl 2 (Nat.le_of_ble_eq_true rfl) w0 (fun _ h9 => h9) rfl dX4_append_31 ?_
    refine lv_iconst (v := 1) hx hb dX4_append_34 rfl ?_
    refine lv_iadd hx hb dX4_append_35 ?_
    refine xnm hf (fun x_2 hf => ?_)
    refine xput (C := RX4) (T := TX4) (N := 3) (wx := [(a0, .inr (4, [.ref a1, .int v0.2.1, .int x_2])), (a1, .inl (ca 0, 512, .inl y_1))]) hx hb hts i4 tyX4 tyX4_ok nmX4 hown hK hP hD hS 0 rfl rfl 2 (Nat.le_of_ble_eq_true rfl) w0 (fun _ h9 => h9) rfl rfl rfl rfl (Nat.le_of_ble_eq_true rfl) dX4_append_36 rfl (fun H locs hP hD hS => ?_)
    cases hf
    exact rt_V hx hb hr hlocks hK hP hD hS hQ rfl dX4_append_39
abbrev wq_X6_append : List Cond := Cond.code yX6_append cX6_append 3 none :: GL
set_option maxHeartbeats 4000000 in
set_option maxRecDepth 100000 in
theorem c_X6_append (l : Launch) (D : va_G) (ca : Nat → ClassId) (zz : Nat → Nat) (a0 a1 a2 : Nat) (sz : Nat) (v0 : V6) (p1 : Int32) (v0' : V6) (hf : f_X6_append v0 p1 = some v0') : Met l yX6_append wq_X6_append ({ frames := 0, cells := 0, slots := 0, locals := 0 } : Room) (PR D ca zz [.ref a0, .int p1] sz [(a0, .inr (6, [.ref a1, .ref a2, .int v0.2.2])), (a1, .inl (ca 0, 15, .inl v0.1)), (a2, .inl (ca 0, 15, .inl v0.2.1))]) (QV D ca [(a0, .inr (6, [.ref a1, .ref a2, .int v0'.2.2])), (a1, .inl (ca 0, 15, .inl v0'.1)), (a2, .inl (ca 0, 15, .inl v0'.2.1))] (va_A [(a0, .inr (6, [.ref a1, .ref a2, .int v0.2.2])), (a1, .inl (ca 0, 15, .inl v0.1)), (a2, .inl (ca 0, 15, .inl v0.2.1))] sz)) 0 0 (va_A [(a0, .inr (6, [.ref a1, .ref a2, .int v0.2.2])), (a1, .inl (ca 0, 15, .inl v0.1)), (a2, .inl (ca 0, 15, .inl v0.2.1))] sz) := by
  refine en (y := yX6_append) (wsm := wq_X6_append) (av := [.ref a0, .int p1]) (cc := cX6_append) (maxL := 3) (ret := none) (Qf := fun A => QV D ca [(a0, .inr (6, [.ref a1, .ref a2, .int v0'.2.2])), (a1, .inl (ca 0, 15, .inl v0'.1)), (a2, .inl (ca 0, 15, .inl v0'.2.1))] A) (by decide) rfl (Nat.le_of_ble_eq_true rfl) ?_
  intro p e s m args below meth c A Q ls hx hb hr hml hown hts hlocks hnm hA hN hZ hK hQ hP hD hS hl
  have w0 := hts _ (List.mem_cons_of_mem _ gw_1_218)
  have w1 := hts _ (List.mem_cons_of_mem _ gw_1_217)
  have w2 := hts _ (List.mem_cons_of_mem _ gw_1_216)
  have i6 : ∀ w ∈ u_ws RX6 TX6 3, w ∈ wq_X6_append := fun w h => List.mem_cons_of_mem _ (inX6 w h)
  unfold f_X6_append at hf
  refine lv_aload_n hx hb dX6_append_0 rfl (lv_at hl 0 rfl) ?_
  refine va_get (C := RX6) (T := TX6) (N := 3) hx hb hts i6 hown hK hP 0 rfl rfl 2 (Nat.le_of_ble_eq_true rfl) w0 (fun _ h9 => h9) rfl dX6_append_1 ?_
  refine lv_iconst (v := 1) hx hb dX6_append_4 rfl ?_
  refine lv_isub hx hb dX6_append_5 ?_
  refine xnm hf (fun x_1 hf => ?_)
  refine lv_istore_n (lv' := [(2, .int x_1), (0, .ref a0), (1, .int p1)]) hx hb dX6_append_6 rfl hl (Nat.le_of_ble_eq_true rfl) rfl (fun ls hl => ?_)
  refine lv_iload_n hx hb dX6_append_7 rfl (lv_at hl 0 rfl) ?_
  refine xi_lt (tgt := 55) hx hb dX6_append_8 (by decide) hf (fun hf => ?_) (fun hf => ?_)
  · cases hf
    exact rt_V hx hb hr hlocks hK hP hD hS hQ rfl dX6_append_55
  · refine lv_iload_n hx hb dX6_append_11 rfl (lv_at hl 0 rfl) ?_
    refine lv_bipush (v := 15) hx hb dX6_append_12 rfl ?_
    refine xc_ge (tgt := 55) hx hb dX6_append_14 (by decide) hf (fun hf => ?_) (fun hf => ?_)
    · cases hf
      exact rt_V hx hb hr hlocks hK hP hD hS hQ rfl dX6_append_55
    · refine lv_aload_n hx hb dX6_append_17 rfl (lv_at hl 1 rfl) ?_
      refine va_get (C := RX6) (T := TX6) (N := 3) hx hb hts i6 hown hK hP 0 rfl rfl 1 (Nat.le_of_ble_eq_true rfl) w1 (fun _ h9 => h9) rfl dX6_append_18 ?_
      refine lv_iload_n hx hb dX6_append_21 rfl (lv_at hl 0 rfl) ?_
      refine xiald hx hb hK hP 2 rfl hf dX6_append_22 (fun hf => ?_)
      refine lv_bipush (v := 15) hx hb dX6_append_23 rfl ?_
      refine xc_ge (tgt := 55) hx hb dX6_append_25 (by decide) hf (fun hf => ?_) (fun hf => ?_)
      · cases hf
        exact rt_V hx hb hr hlocks hK hP hD hS hQ rfl dX6_append_55
      · refine lv_aload_n hx hb dX6_append_28 rfl (lv_at hl 1 rfl) ?_
        refine va_get (C := RX6) (T := TX6) (N := 3) hx hb hts i6 hown hK hP 0 rfl rfl 0 (Nat.le_of_ble_eq_true rfl) w2 (fun _ h9 => h9) rfl dX6_append_29 ?_
        refine lv_iload_n hx hb dX6_append_32 rfl (lv_at hl 0 rfl) ?_
        refine lv_dup2_11 hx hb dX6_append_33 rfl rfl ?_
        refine xiald hx hb hK hP 1 rfl hf dX6_append_34 (fun hf => ?_)
        refine lv_iload_n hx hb dX6_append_35 rfl (lv_at hl 2 rfl) ?_
        refine lv_aload_n hx hb dX6_append_36 rfl (lv_at hl 1 rfl) ?_
        refine va_get (C := RX6) (T := TX6) (N := 3) hx hb hts i6 hown hK hP 0 rfl rfl 1 (Nat.le_of_ble_eq_true rfl) w1 (fun _ h9 => h9) rfl dX6_append_37 ?_
        refine lv_iload_n hx hb dX6_append_40 rfl (lv_at hl 0 rfl) ?_
        refine xiald hx hb hK hP 2 rfl hf dX6_append_41 (fun hf => ?_)
        refine lv_ishl hx hb dX6_append_42 ?_
        refine lv_ior hx hb dX6_append_43 ?_
        refine xiast (wx := [(a0, .inr (6, [.ref a1, .ref a2, .int v0.2.2])), (a1, .inl (ca 0, 15, .inl ((upd v0.1 (x_1).toNatClampNeg ((v0.1 (x_1).toNatClampNeg) ||| (p1 <<< ((v0.2.1 (x_1).toNatClampNeg) &&& 31))))))), (a2, .inl (ca 0, 15, .inl v0.2.1))]) hx hb hK hP hD hS 1 rfl hf dX6_append_44 rfl (fun H locs hf hP hD hS => ?_)
        obtain ⟨y_2, ey_2, hf⟩ := bnd_el hf
        rw [← ey_2] at hP hD
        refine lv_aload_n hx hb dX6_append_45 rfl (lv_at hl 1 rfl) ?_
        refine va_get (C := RX6) (T := TX6) (N := 3) hx hb hts i6 hown hK hP 0 rfl rfl 1 (Nat.le_of_ble_eq_true rfl) w1 (fun _ h9 => h9) rfl dX6_append_46 ?_
        refine lv_iload_n hx hb dX6_append_49 rfl (lv_at hl 0 rfl) ?_
        refine lv_dup2_11 hx hb dX6_append_50 rfl rfl ?_
        refine xiald hx hb hK hP 2 rfl hf dX6_append_51 (fun hf => ?_)
        refine lv_iconst (v := 1) hx hb dX6_append_52 rfl ?_
        refine lv_iadd hx hb dX6_append_53 ?_
        refine xiast (wx := [(a0, .inr (6, [.ref a1, .ref a2, .int v0.2.2])), (a1, .inl (ca 0, 15, .inl y_2)), (a2, .inl (ca 0, 15, .inl ((upd v0.2.1 (x_1).toNatClampNeg ((v0.2.1 (x_1).toNatClampNeg) + (1 : Int32))))))]) hx hb hK hP hD hS 2 rfl hf dX6_append_54 rfl (fun H locs hf hP hD hS => ?_)
        obtain ⟨y_3, ey_3, hf⟩ := bnd_el hf
        rw [← ey_3] at hP hD
        cases hf
        exact rt_V hx hb hr hlocks hK hP hD hS hQ rfl dX6_append_55
abbrev wq_X1_hear : List Cond := Cond.code yX1_hear cX1_hear 3 none :: GL
set_option maxHeartbeats 4000000 in
set_option maxRecDepth 100000 in
theorem c_X1_hear (l : Launch) (D : va_G) (ca : Nat → ClassId) (zz : Nat → Nat) (a0 : Nat) (sz : Nat) (v0 : V1) (p1 : Int32) (p2 : Int32) (v0' : V1) (hf : f_X1_hear v0 p1 p2 = some v0') : Met l yX1_hear wq_X1_hear ({ frames := 0, cells := 0, slots := 0, locals := 0 } : Room) (PR D ca zz [.ref a0, .int p1, .int p2] sz [(a0, .inr (1, [.int v0.1, .int v0.2.1, .int v0.2.2.1, .int v0.2.2.2.1, .int v0.2.2.2.2.1, .int v0.2.2.2.2.2]))]) (QV D ca [(a0, .inr (1, [.int v0'.1, .int v0'.2.1, .int v0'.2.2.1, .int v0'.2.2.2.1, .int v0'.2.2.2.2.1, .int v0'.2.2.2.2.2]))] (va_A [(a0, .inr (1, [.int v0.1, .int v0.2.1, .int v0.2.2.1, .int v0.2.2.2.1, .int v0.2.2.2.2.1, .int v0.2.2.2.2.2]))] sz)) 0 0 (va_A [(a0, .inr (1, [.int v0.1, .int v0.2.1, .int v0.2.2.1, .int v0.2.2.2.1, .int v0.2.2.2.2.1, .int v0.2.2.2.2.2]))] sz) := by
  refine en (y := yX1_hear) (wsm := wq_X1_hear) (av := [.ref a0, .int p1, .int p2]) (cc := cX1_hear) (maxL := 3) (ret := none) (Qf := fun A => QV D ca [(a0, .inr (1, [.int v0'.1, .int v0'.2.1, .int v0'.2.2.1, .int v0'.2.2.2.1, .int v0'.2.2.2.2.1, .int v0'.2.2.2.2.2]))] A) (by decide) rfl (Nat.le_of_ble_eq_true rfl) ?_
  intro p e s m args below meth c A Q ls hx hb hr hml hown hts hlocks hnm hA hN hZ hK hQ hP hD hS hl
  have w0 := hts _ (List.mem_cons_of_mem _ gw_1_131)
  have w1 := hts _ (List.mem_cons_of_mem _ gw_1_130)
  have w2 := hts _ (List.mem_cons_of_mem _ gw_1_133)
  have w3 := hts _ (List.mem_cons_of_mem _ gw_1_127)
  have w4 := hts _ (List.mem_cons_of_mem _ gw_1_134)
  have w5 := hts _ (List.mem_cons_of_mem _ gw_1_137)
  have i1 : ∀ w ∈ u_ws RX1 TX1 6, w ∈ wq_X1_hear := fun w h => List.mem_cons_of_mem _ (inX1 w h)
  have b100 : ∀ (v0 : V1) (x1 : Int32) (t0 : Int32), fc_X1_hear_100 v0 x1 t0 = some v0' → ∀ (H : Heap) (locs : List Loc) (ls : Array Slot), va_P D vwCl [(a0, .inr (1, [.int v0.1, .int v0.2.1, .int v0.2.2.1, .int v0.2.2.2.1, .int v0.2.2.2.2.1, .int v0.2.2.2.2.2]))] H → va_D A [(a0, .inr (1, [.int v0.1, .int v0.2.1, .int v0.2.2.1, .int v0.2.2.2.1, .int v0.2.2.2.2.1, .int v0.2.2.2.2.2]))] → va_S A s.heap H locs → lv_has ls 3 [(0, .ref a0), (1, .int x1)] → W p l e ({ frames := 0, cells := 0, slots := 0, locals := 0 } : Room) s m args below meth c H locs 0 0 Q (F0 m 100 ls [.int t0, .ref a0]) := by
    intro v0 x1 t0 hf H locs ls hP hD hS hl
    unfold fc_X1_hear_100 at hf
    refine xput (C := RX1) (T := TX1) (N := 6) (wx := [(a0, .inr (1, [.int t0, .int v0.2.1, .int v0.2.2.1, .int v0.2.2.2.1, .int v0.2.2.2.2.1, .int v0.2.2.2.2.2]))]) hx hb hts i1 tyX1 tyX1_ok nmX1 hown hK hP hD hS 0 rfl rfl 0 (Nat.le_of_ble_eq_true rfl) w3 (fun _ h9 => h9) rfl rfl rfl rfl (Nat.le_of_ble_eq_true rfl) dX1_hear_100 rfl (fun H locs hP hD hS => ?_)
    refine lv_aload_n hx hb dX1_hear_103 rfl (lv_at hl 0 rfl) ?_
    refine lv_iload_n hx hb dX1_hear_104 rfl (lv_at hl 1 rfl) ?_
    refine xput (C := RX1) (T := TX1) (N := 6) (wx := [(a0, .inr (1, [.int t0, .int x1, .int v0.2.2.1, .int v0.2.2.2.1, .int v0.2.2.2.2.1, .int v0.2.2.2.2.2]))]) hx hb hts i1 tyX1 tyX1_ok nmX1 hown hK hP hD hS 0 rfl rfl 1 (Nat.le_of_ble_eq_true rfl) w1 (fun _ h9 => h9) rfl rfl rfl rfl (Nat.le_of_ble_eq_true rfl) dX1_hear_105 rfl (fun H locs hP hD hS => ?_)
    refine lv_aload_n hx hb dX1_hear_108 rfl (lv_at hl 0 rfl) ?_
    refine lv_dup hx hb dX1_hear_109 rfl ?_
    refine va_get (C := RX1) (T := TX1) (N := 6) hx hb hts i1 hown hK hP 0 rfl rfl 2 (Nat.le_of_ble_eq_true rfl) w0 (fun _ h9 => h9) rfl dX1_hear_110 ?_
    refine lv_iconst (v := 1) hx hb dX1_hear_113 rfl ?_
    refine lv_iadd hx hb dX1_hear_114 ?_
    refine xnm hf (fun x_1 hf => ?_)
    refine xput (C := RX1) (T := TX1) (N := 6) (wx := [(a0, .inr (1, [.int t0, .int x1, .int x_1, .int v0.2.2.2.1, .int v0.2.2.2.2.1, .int v0.2.2.2.2.2]))]) hx hb hts i1 tyX1 tyX1_ok nmX1 hown hK hP hD hS 0 rfl rfl 2 (Nat.le_of_ble_eq_true rfl) w0 (fun _ h9 => h9) rfl rfl rfl rfl (Nat.le_of_ble_eq_true rfl) dX1_hear_115 rfl (fun H locs hP hD hS => ?_)
    cases hf
    exact rt_V hx hb hr hlocks hK hP hD hS hQ rfl dX1_hear_118
  have b99 : ∀ (v0 : V1) (x1 : Int32), fc_X1_hear_99 v0 x1 = some v0' → ∀ (H : Heap) (locs : List Loc) (ls : Array Slot), va_P D vwCl [(a0, .inr (1, [.int v0.1, .int v0.2.1, .int v0.2.2.1, .int v0.2.2.2.1, .int v0.2.2.2.2.1, .int v0.2.2.2.2.2]))] H → va_D A [(a0, .inr (1, [.int v0.1, .int v0.2.1, .int v0.2.2.1, .int v0.2.2.2.1, .int v0.2.2.2.2.1, .int v0.2.2.2.2.2]))] → va_S A s.heap H locs → lv_has ls 3 [(0, .ref a0), (1, .int x1)] → W p l e ({ frames := 0, cells := 0, slots := 0, locals := 0 } : Room) s m args below meth c H locs 0 0 Q (F0 m 99 ls [.ref a0]) := by
    intro v0 x1 hf H locs ls hP hD hS hl
    unfold fc_X1_hear_99 at hf
    refine lv_iconst (v := 1) hx hb dX1_hear_99 rfl ?_
    exact b100 v0 x1 (1 : Int32) hf _ _ _ hP hD hS (lv_sub hl [0, 1] rfl)
  have b74 : ∀ (v0 : V1) (x1 : Int32), fc_X1_hear_74 v0 x1 = some v0' → ∀ (H : Heap) (locs : List Loc) (ls : Array Slot), va_P D vwCl [(a0, .inr (1, [.int v0.1, .int v0.2.1, .int v0.2.2.1, .int v0.2.2.2.1, .int v0.2.2.2.2.1, .int v0.2.2.2.2.2]))] H → va_D A [(a0, .inr (1, [.int v0.1, .int v0.2.1, .int v0.2.2.1, .int v0.2.2.2.1, .int v0.2.2.2.2.1, .int v0.2.2.2.2.2]))] → va_S A s.heap H locs → lv_has ls 3 [(0, .ref a0), (1, .int x1)] → W p l e ({ frames := 0, cells := 0, slots := 0, locals := 0 } : Room) s m args below meth c H locs 0 0 Q (F0 m 74 ls []) := by
    intro v0 x1 hf H locs ls hP hD hS hl
    unfold fc_X1_hear_74 at hf
    refine lv_aload_n hx hb dX1_hear_74 rfl (lv_at hl 0 rfl) ?_
    refine lv_aload_n hx hb dX1_hear_75 rfl (lv_at hl 0 rfl) ?_
    refine va_get (C := RX1) (T := TX1) (N := 6) hx hb hts i1 hown hK hP 0 rfl rfl 0 (Nat.le_of_ble_eq_true rfl) w3 (fun _ h9 => h9) rfl dX1_hear_76 ?_
    refine xi_le (tgt := 99) hx hb dX1_hear_79 (by decide) hf (fun hf => ?_) (fun hf => ?_)
    · exact b99 v0 x1 hf _ _ _ hP hD hS (lv_sub hl [0, 1] rfl)
    · refine lv_iload_n hx hb dX1_hear_82 rfl (lv_at hl 1 rfl) ?_
      refine lv_aload_n hx hb dX1_hear_83 rfl (lv_at hl 0 rfl) ?_
      refine va_get (C := RX1) (T := TX1) (N := 6) hx hb hts i1 hown hK hP 0 rfl rfl 1 (Nat.le_of_ble_eq_true rfl) w1 (fun _ h9 => h9) rfl dX1_hear_84 ?_
      refine xc_ne (tgt := 99) hx hb dX1_hear_87 (by decide) hf (fun hf => ?_) (fun hf => ?_)
      · exact b99 v0 x1 hf _ _ _ hP hD hS (lv_sub hl [0, 1] rfl)
      · refine lv_aload_n hx hb dX1_hear_90 rfl (lv_at hl 0 rfl) ?_
        refine va_get (C := RX1) (T := TX1) (N := 6) hx hb hts i1 hown hK hP 0 rfl rfl 0 (Nat.le_of_ble_eq_true rfl) w3 (fun _ h9 => h9) rfl dX1_hear_91 ?_
        refine lv_iconst (v := 1) hx hb dX1_hear_94 rfl ?_
        refine lv_iadd hx hb dX1_hear_95 ?_
        refine lv_goto (tgt := 100) hx hb dX1_hear_96 (by decide) ?_
        exact b100 v0 x1 (v0.1 + (1 : Int32)) hf _ _ _ hP hD hS (lv_sub hl [0, 1] rfl)
  have b56 : ∀ (v0 : V1) (x1 : Int32), fc_X1_hear_56 v0 x1 = some v0' → ∀ (H : Heap) (locs : List Loc) (ls : Array Slot), va_P D vwCl [(a0, .inr (1, [.int v0.1, .int v0.2.1, .int v0.2.2.1, .int v0.2.2.2.1, .int v0.2.2.2.2.1, .int v0.2.2.2.2.2]))] H → va_D A [(a0, .inr (1, [.int v0.1, .int v0.2.1, .int v0.2.2.1, .int v0.2.2.2.1, .int v0.2.2.2.2.1, .int v0.2.2.2.2.2]))] → va_S A s.heap H locs → lv_has ls 3 [(0, .ref a0), (1, .int x1)] → W p l e ({ frames := 0, cells := 0, slots := 0, locals := 0 } : Room) s m args below meth c H locs 0 0 Q (F0 m 56 ls []) := by
    intro v0 x1 hf H locs ls hP hD hS hl
    unfold fc_X1_hear_56 at hf
    refine lv_iload_n hx hb dX1_hear_56 rfl (lv_at hl 1 rfl) ?_
    refine lv_aload_n hx hb dX1_hear_57 rfl (lv_at hl 0 rfl) ?_
    refine va_get (C := RX1) (T := TX1) (N := 6) hx hb hts i1 hown hK hP 0 rfl rfl 3 (Nat.le_of_ble_eq_true rfl) w2 (fun _ h9 => h9) rfl dX1_hear_58 ?_
    refine xc_ne (tgt := 74) hx hb dX1_hear_61 (by decide) hf (fun hf => ?_) (fun hf => ?_)
    · exact b74 v0 x1 hf _ _ _ hP hD hS (lv_sub hl [0, 1] rfl)
    · refine lv_aload_n hx hb dX1_hear_64 rfl (lv_at hl 0 rfl) ?_
      refine lv_dup hx hb dX1_hear_65 rfl ?_
      refine va_get (C := RX1) (T := TX1) (N := 6) hx hb hts i1 hown hK hP 0 rfl rfl 4 (Nat.le_of_ble_eq_true rfl) w4 (fun _ h9 => h9) rfl dX1_hear_66 ?_
      refine lv_iconst (v := 1) hx hb dX1_hear_69 rfl ?_
      refine lv_iadd hx hb dX1_hear_70 ?_
      refine xnm hf (fun x_2 hf => ?_)
      refine xput (C := RX1) (T := TX1) (N := 6) (wx := [(a0, .inr (1, [.int v0.1, .int v0.2.1, .int v0.2.2.1, .int v0.2.2.2.1, .int x_2, .int v0.2.2.2.2.2]))]) hx hb hts i1 tyX1 tyX1_ok nmX1 hown hK hP hD hS 0 rfl rfl 4 (Nat.le_of_ble_eq_true rfl) w4 (fun _ h9 => h9) rfl rfl rfl rfl (Nat.le_of_ble_eq_true rfl) dX1_hear_71 rfl (fun H locs hP hD hS => ?_)
      exact b74 ((v0.1, v0.2.1, v0.2.2.1, v0.2.2.2.1, x_2, v0.2.2.2.2.2)) x1 hf _ _ _ hP hD hS (lv_sub hl [0, 1] rfl)
  have b23 : ∀ (v0 : V1) (x1 : Int32), fc_X1_hear_23 v0 x1 = some v0' → ∀ (H : Heap) (locs : List Loc) (ls : Array Slot), va_P D vwCl [(a0, .inr (1, [.int v0.1, .int v0.2.1, .int v0.2.2.1, .int v0.2.2.2.1, .int v0.2.2.2.2.1, .int v0.2.2.2.2.2]))] H → va_D A [(a0, .inr (1, [.int v0.1, .int v0.2.1, .int v0.2.2.1, .int v0.2.2.2.1, .int v0.2.2.2.2.1, .int v0.2.2.2.2.2]))] → va_S A s.heap H locs → lv_has ls 3 [(0, .ref a0), (1, .int x1)] → W p l e ({ frames := 0, cells := 0, slots := 0, locals := 0 } : Room) s m args below meth c H locs 0 0 Q (F0 m 23 ls []) := by
    intro v0 x1 hf H locs ls hP hD hS hl
    unfold fc_X1_hear_23 at hf
    refine lv_aload_n hx hb dX1_hear_23 rfl (lv_at hl 0 rfl) ?_
    refine va_get (C := RX1) (T := TX1) (N := 6) hx hb hts i1 hown hK hP 0 rfl rfl 2 (Nat.le_of_ble_eq_true rfl) w0 (fun _ h9 => h9) rfl dX1_hear_24 ?_
    refine xi_ne (tgt := 38) hx hb dX1_hear_27 (by decide) hf (fun hf => ?_) (fun hf => ?_)
    · refine lv_iload_n hx hb dX1_hear_38 rfl (lv_at hl 1 rfl) ?_
      refine lv_aload_n hx hb dX1_hear_39 rfl (lv_at hl 0 rfl) ?_
      refine va_get (C := RX1) (T := TX1) (N := 6) hx hb hts i1 hown hK hP 0 rfl rfl 1 (Nat.le_of_ble_eq_true rfl) w1 (fun _ h9 => h9) rfl dX1_hear_40 ?_
      refine xc_eq (tgt := 56) hx hb dX1_hear_43 (by decide) hf (fun hf => ?_) (fun hf => ?_)
      · exact b56 v0 x1 hf _ _ _ hP hD hS (lv_sub hl [0, 1] rfl)
      · refine lv_aload_n hx hb dX1_hear_46 rfl (lv_at hl 0 rfl) ?_
        refine lv_dup hx hb dX1_hear_47 rfl ?_
        refine va_get (C := RX1) (T := TX1) (N := 6) hx hb hts i1 hown hK hP 0 rfl rfl 5 (Nat.le_of_ble_eq_true rfl) w5 (fun _ h9 => h9) rfl dX1_hear_48 ?_
        refine lv_iconst (v := 1) hx hb dX1_hear_51 rfl ?_
        refine lv_iadd hx hb dX1_hear_52 ?_
        refine xnm hf (fun x_3 hf => ?_)
        refine xput (C := RX1) (T := TX1) (N := 6) (wx := [(a0, .inr (1, [.int v0.1, .int v0.2.1, .int v0.2.2.1, .int v0.2.2.2.1, .int v0.2.2.2.2.1, .int x_3]))]) hx hb hts i1 tyX1 tyX1_ok nmX1 hown hK hP hD hS 0 rfl rfl 5 (Nat.le_of_ble_eq_true rfl) w5 (fun _ h9 => h9) rfl rfl rfl rfl (Nat.le_of_ble_eq_true rfl) dX1_hear_53 rfl (fun H locs hP hD hS => ?_)
        exact b56 ((v0.1, v0.2.1, v0.2.2.1, v0.2.2.2.1, v0.2.2.2.2.1, x_3)) x1 hf _ _ _ hP hD hS (lv_sub hl [0, 1] rfl)
    · refine lv_aload_n hx hb dX1_hear_30 rfl (lv_at hl 0 rfl) ?_
      refine lv_iload_n hx hb dX1_hear_31 rfl (lv_at hl 1 rfl) ?_
      refine xput (C := RX1) (T := TX1) (N := 6) (wx := [(a0, .inr (1, [.int v0.1, .int v0.2.1, .int v0.2.2.1, .int x1, .int v0.2.2.2.2.1, .int v0.2.2.2.2.2]))]) hx hb hts i1 tyX1 tyX1_ok nmX1 hown hK hP hD hS 0 rfl rfl 3 (Nat.le_of_ble_eq_true rfl) w2 (fun _ h9 => h9) rfl rfl rfl rfl (Nat.le_of_ble_eq_true rfl) dX1_hear_32 rfl (fun H locs hP hD hS => ?_)
      refine lv_goto (tgt := 56) hx hb dX1_hear_35 (by decide) ?_
      exact b56 ((v0.1, v0.2.1, v0.2.2.1, x1, v0.2.2.2.2)) x1 hf _ _ _ hP hD hS (lv_sub hl [0, 1] rfl)
  unfold f_X1_hear at hf
  refine lv_aload_n hx hb dX1_hear_0 rfl (lv_at hl 0 rfl) ?_
  refine va_get (C := RX1) (T := TX1) (N := 6) hx hb hts i1 hown hK hP 0 rfl rfl 2 (Nat.le_of_ble_eq_true rfl) w0 (fun _ h9 => h9) rfl dX1_hear_1 ?_
  refine lv_iload_n hx hb dX1_hear_4 rfl (lv_at hl 2 rfl) ?_
  refine xc_lt (tgt := 23) hx hb dX1_hear_5 (by decide) hf (fun hf => ?_) (fun hf => ?_)
  · exact b23 v0 p1 hf _ _ _ hP hD hS (lv_sub hl [0, 1] rfl)
  · refine lv_aload_n hx hb dX1_hear_8 rfl (lv_at hl 0 rfl) ?_
    refine lv_iconst (v := 0) hx hb dX1_hear_9 rfl ?_
    refine xput (C := RX1) (T := TX1) (N := 6) (wx := [(a0, .inr (1, [.int v0.1, .int v0.2.1, .int (0 : Int32), .int v0.2.2.2.1, .int v0.2.2.2.2.1, .int v0.2.2.2.2.2]))]) hx hb hts i1 tyX1 tyX1_ok nmX1 hown hK hP hD hS 0 rfl rfl 2 (Nat.le_of_ble_eq_true rfl) w0 (fun _ h9 => h9) rfl rfl rfl rfl (Nat.le_of_ble_eq_true rfl) dX1_hear_10 rfl (fun H locs hP hD hS => ?_)
    refine lv_aload_n hx hb dX1_hear_13 rfl (lv_at hl 0 rfl) ?_
    refine lv_iconst (v := 0) hx hb dX1_hear_14 rfl ?_
    refine xput (C := RX1) (T := TX1) (N := 6) (wx := [(a0, .inr (1, [.int v0.1, .int v0.2.1, .int (0 : Int32), .int v0.2.2.2.1, .int (0 : Int32), .int v0.2.2.2.2.2]))]) hx hb hts i1 tyX1 tyX1_ok nmX1 hown hK hP hD hS 0 rfl rfl 4 (Nat.le_of_ble_eq_true rfl) w4 (fun _ h9 => h9) rfl rfl rfl rfl (Nat.le_of_ble_eq_true rfl) dX1_hear_15 rfl (fun H locs hP hD hS => ?_)
    refine lv_aload_n hx hb dX1_hear_18 rfl (lv_at hl 0 rfl) ?_
    refine lv_iconst (v := 0) hx hb dX1_hear_19 rfl ?_
    refine xput (C := RX1) (T := TX1) (N := 6) (wx := [(a0, .inr (1, [.int v0.1, .int v0.2.1, .int (0 : Int32), .int v0.2.2.2.1, .int (0 : Int32), .int (0 : Int32)]))]) hx hb hts i1 tyX1 tyX1_ok nmX1 hown hK hP hD hS 0 rfl rfl 5 (Nat.le_of_ble_eq_true rfl) w5 (fun _ h9 => h9) rfl rfl rfl rfl (Nat.le_of_ble_eq_true rfl) dX1_hear_20 rfl (fun H locs hP hD hS => ?_)
    exact b23 ((v0.1, v0.2.1, (0 : Int32), v0.2.2.2.1, (0 : Int32), (0 : Int32))) p1 hf _ _ _ hP hD hS (lv_sub hl [0, 1] rfl)
abbrev wq_X2_failures : List Cond := Cond.code yX2_failures cX2_failures 3 (some .int) :: GL
set_option maxHeartbeats 4000000 in
set_option maxRecDepth 100000 in
theorem c_X2_failures (l : Launch) (D : va_G) (ca : Nat → ClassId) (zz : Nat → Nat) (a0 a1 b0 : Nat) (sz : Nat) (v0 : V2) (v1 : V1) (r : Int32) (hf : f_X2_failures v0 v1 = some r) : Met l yX2_failures wq_X2_failures ({ frames := 0, cells := 0, slots := 0, locals := 0 } : Room) (PR D ca zz [.ref a0, .ref b0] sz [(a0, .inr (2, [.ref a1, .int v0.2.1, .int v0.2.2.1, .int v0.2.2.2.1, .int v0.2.2.2.2])), (b0, .inr (1, [.int v1.1, .int v1.2.1, .int v1.2.2.1, .int v1.2.2.2.1, .int v1.2.2.2.2.1, .int v1.2.2.2.2.2]))]) (QI D ca r [(a0, .inr (2, [.ref a1, .int v0.2.1, .int v0.2.2.1, .int v0.2.2.2.1, .int v0.2.2.2.2])), (b0, .inr (1, [.int v1.1, .int v1.2.1, .int v1.2.2.1, .int v1.2.2.2.1, .int v1.2.2.2.2.1, .int v1.2.2.2.2.2]))] (va_A [(a0, .inr (2, [.ref a1, .int v0.2.1, .int v0.2.2.1, .int v0.2.2.2.1, .int v0.2.2.2.2])), (b0, .inr (1, [.int v1.1, .int v1.2.1, .int v1.2.2.1, .int v1.2.2.2.1, .int v1.2.2.2.2.1, .int v1.2.2.2.2.2]))] sz)) 0 0 (va_A [(a0, .inr (2, [.ref a1, .int v0.2.1, .int v0.2.2.1, .int v0.2.2.2.1, .int v0.2.2.2.2])), (b0, .inr (1, [.int v1.1, .int v1.2.1, .int v1.2.2.1, .int v1.2.2.2.1, .int v1.2.2.2.2.1, .int v1.2.2.2.2.2]))] sz) := by
  refine en (y := yX2_failures) (wsm := wq_X2_failures) (av := [.ref a0, .ref b0]) (cc := cX2_failures) (maxL := 3) (ret := (some .int)) (Qf := fun A => QI D ca r [(a0, .inr (2, [.ref a1, .int v0.2.1, .int v0.2.2.1, .int v0.2.2.2.1, .int v0.2.2.2.2])), (b0, .inr (1, [.int v1.1, .int v1.2.1, .int v1.2.2.1, .int v1.2.2.2.1, .int v1.2.2.2.2.1, .int v1.2.2.2.2.2]))] A) (by decide) rfl (Nat.le_of_ble_eq_true rfl) ?_
  intro p e s m args below meth c A Q ls hx hb hr hml hown hts hlocks hnm hA hN hZ hK hQ hP hD hS hl
  have w0 := hts _ (List.mem_cons_of_mem _ gw_1_83)
  have w1 := hts _ (List.mem_cons_of_mem _ gw_1_86)
  have w2 := hts _ (List.mem_cons_of_mem _ gw_1_89)
  have nw11 := NW.use (args := args) (w := .fieldLinkNest RX2 53 "NoiseWatch$Counts" "alike" "I" "NoiseWatch") hN 11 rfl
  have nw14 := NW.use (args := args) (w := .fieldLinkNest RX2 58 "NoiseWatch$Counts" "like" "I" "NoiseWatch") hN 14 rfl
  have nw16 := NW.use (args := args) (w := .fieldLinkNest RX2 61 "NoiseWatch$Counts" "unlike" "I" "NoiseWatch") hN 16 rfl
  have i1 : ∀ w ∈ u_ws RX1 TX1 6, w ∈ wq_X2_failures := fun w h => List.mem_cons_of_mem _ (inX1 w h)
  have i2 : ∀ w ∈ u_ws RX2 TX2 5, w ∈ wq_X2_failures := fun w h => List.mem_cons_of_mem _ (inX2 w h)
  have b32 : ∀ (x2 : Int32), fc_X2_failures_32 v0 v1 x2 = some r → ∀ (H : Heap) (locs : List Loc) (ls : Array Slot), va_P D vwCl [(a0, .inr (2, [.ref a1, .int v0.2.1, .int v0.2.2.1, .int v0.2.2.2.1, .int v0.2.2.2.2])), (b0, .inr (1, [.int v1.1, .int v1.2.1, .int v1.2.2.1, .int v1.2.2.2.1, .int v1.2.2.2.2.1, .int v1.2.2.2.2.2]))] H → va_D A [(a0, .inr (2, [.ref a1, .int v0.2.1, .int v0.2.2.1, .int v0.2.2.2.1, .int v0.2.2.2.2])), (b0, .inr (1, [.int v1.1, .int v1.2.1, .int v1.2.2.1, .int v1.2.2.2.1, .int v1.2.2.2.2.1, .int v1.2.2.2.2.2]))] → va_S A s.heap H locs → lv_has ls 3 [(0, .ref a0), (1, .ref b0), (2, .int x2)] → W p l e ({ frames := 0, cells := 0, slots := 0, locals := 0 } : Room) s m args below meth c H locs 0 0 Q (F0 m 32 ls []) := by
    intro x2 hf H locs ls hP hD hS hl
    unfold fc_X2_failures_32 at hf
    refine lv_aload_n hx hb dX2_failures_32 rfl (lv_at hl 1 rfl) ?_
    refine va_getN (C := RX1) (T := TX1) (N := 6) hx hb hts i1 hown hK hP 1 rfl rfl 5 (Nat.le_of_ble_eq_true rfl) nw16 (fun _ h9 => h9) rfl dX2_failures_33 ?_
    refine lv_aload_n hx hb dX2_failures_36 rfl (lv_at hl 0 rfl) ?_
    refine va_get (C := RX2) (T := TX2) (N := 5) hx hb hts i2 hown hK hP 0 rfl rfl 4 (Nat.le_of_ble_eq_true rfl) w2 (fun _ h9 => h9) rfl dX2_failures_37 ?_
    refine xc_lt (tgt := 47) hx hb dX2_failures_40 (by decide) hf (fun hf => ?_) (fun hf => ?_)
    · refine lv_iload_n hx hb dX2_failures_47 rfl (lv_at hl 2 rfl) ?_
      cases hf
      exact rt_I hx hb hr hlocks hK hP hD hS hQ rfl rfl dX2_failures_48
    · refine lv_iload_n hx hb dX2_failures_43 rfl (lv_at hl 2 rfl) ?_
      refine lv_iconst (v := 4) hx hb dX2_failures_44 rfl ?_
      refine lv_ior hx hb dX2_failures_45 ?_
      refine xnm hf (fun x_1 hf => ?_)
      refine lv_istore_n (lv' := [(2, .int x_1), (0, .ref a0), (1, .ref b0)]) hx hb dX2_failures_46 rfl hl (Nat.le_of_ble_eq_true rfl) rfl (fun ls hl => ?_)
      refine lv_iload_n hx hb dX2_failures_47 rfl (lv_at hl 0 rfl) ?_
      cases hf
      exact rt_I hx hb hr hlocks hK hP hD hS hQ rfl rfl dX2_failures_48
  have b16 : ∀ (t0 : Int32), fc_X2_failures_16 v0 v1 t0 = some r → ∀ (H : Heap) (locs : List Loc) (ls : Array Slot), va_P D vwCl [(a0, .inr (2, [.ref a1, .int v0.2.1, .int v0.2.2.1, .int v0.2.2.2.1, .int v0.2.2.2.2])), (b0, .inr (1, [.int v1.1, .int v1.2.1, .int v1.2.2.1, .int v1.2.2.2.1, .int v1.2.2.2.2.1, .int v1.2.2.2.2.2]))] H → va_D A [(a0, .inr (2, [.ref a1, .int v0.2.1, .int v0.2.2.1, .int v0.2.2.2.1, .int v0.2.2.2.2])), (b0, .inr (1, [.int v1.1, .int v1.2.1, .int v1.2.2.1, .int v1.2.2.2.1, .int v1.2.2.2.2.1, .int v1.2.2.2.2.2]))] → va_S A s.heap H locs → lv_has ls 3 [(0, .ref a0), (1, .ref b0)] → W p l e ({ frames := 0, cells := 0, slots := 0, locals := 0 } : Room) s m args below meth c H locs 0 0 Q (F0 m 16 ls [.int t0]) := by
    intro t0 hf H locs ls hP hD hS hl
    unfold fc_X2_failures_16 at hf
    refine lv_istore_n (lv' := [(2, .int t0), (0, .ref a0), (1, .ref b0)]) hx hb dX2_failures_16 rfl hl (Nat.le_of_ble_eq_true rfl) rfl (fun ls hl => ?_)
    refine lv_aload_n hx hb dX2_failures_17 rfl (lv_at hl 2 rfl) ?_
    refine va_getN (C := RX1) (T := TX1) (N := 6) hx hb hts i1 hown hK hP 1 rfl rfl 4 (Nat.le_of_ble_eq_true rfl) nw14 (fun _ h9 => h9) rfl dX2_failures_18 ?_
    refine lv_aload_n hx hb dX2_failures_21 rfl (lv_at hl 1 rfl) ?_
    refine va_get (C := RX2) (T := TX2) (N := 5) hx hb hts i2 hown hK hP 0 rfl rfl 3 (Nat.le_of_ble_eq_true rfl) w1 (fun _ h9 => h9) rfl dX2_failures_22 ?_
    refine xc_lt (tgt := 32) hx hb dX2_failures_25 (by decide) hf (fun hf => ?_) (fun hf => ?_)
    · exact b32 t0 hf _ _ _ hP hD hS (lv_sub hl [1, 2, 0] rfl)
    · refine lv_iload_n hx hb dX2_failures_28 rfl (lv_at hl 0 rfl) ?_
      refine lv_iconst (v := 2) hx hb dX2_failures_29 rfl ?_
      refine lv_ior hx hb dX2_failures_30 ?_
      refine xnm hf (fun x_2 hf => ?_)
      refine lv_istore_n (lv' := [(2, .int x_2), (0, .ref a0), (1, .ref b0)]) hx hb dX2_failures_31 rfl hl (Nat.le_of_ble_eq_true rfl) rfl (fun ls hl => ?_)
      exact b32 x_2 hf _ _ _ hP hD hS (lv_sub hl [1, 2, 0] rfl)
  unfold f_X2_failures at hf
  refine lv_aload_n hx hb dX2_failures_0 rfl (lv_at hl 1 rfl) ?_
  refine va_getN (C := RX1) (T := TX1) (N := 6) hx hb hts i1 hown hK hP 1 rfl rfl 0 (Nat.le_of_ble_eq_true rfl) nw11 (fun _ h9 => h9) rfl dX2_failures_1 ?_
  refine lv_aload_n hx hb dX2_failures_4 rfl (lv_at hl 0 rfl) ?_
  refine va_get (C := RX2) (T := TX2) (N := 5) hx hb hts i2 hown hK hP 0 rfl rfl 2 (Nat.le_of_ble_eq_true rfl) w0 (fun _ h9 => h9) rfl dX2_failures_5 ?_
  refine xc_lt (tgt := 15) hx hb dX2_failures_8 (by decide) hf (fun hf => ?_) (fun hf => ?_)
  · refine lv_iconst (v := 0) hx hb dX2_failures_15 rfl ?_
    exact b16 (0 : Int32) hf _ _ _ hP hD hS (lv_sub hl [0, 1] rfl)
  · refine lv_iconst (v := 1) hx hb dX2_failures_11 rfl ?_
    refine lv_goto (tgt := 16) hx hb dX2_failures_12 (by decide) ?_
    exact b16 (1 : Int32) hf _ _ _ hP hD hS (lv_sub hl [0, 1] rfl)
abbrev wq_X10_raiseAlarm : List Cond := Cond.code yX10_raiseAlarm cX10_raiseAlarm 2 none :: GL
set_option maxHeartbeats 4000000 in
set_option maxRecDepth 100000 in
theorem c_X10_raiseAlarm (l : Launch) (D : va_G) (ca : Nat → ClassId) (zz : Nat → Nat) (a0 a1 a6 a8 a9 a10 a11 a12 a13 a15 a18 : Nat) (sz : Nat) (v0 : V10) (p1 : Int32) (v0' : V10) (hf : f_X10_raiseAlarm v0 p1 = some v0') : Met l yX10_raiseAlarm wq_X10_raiseAlarm ({ frames := 2, cells := 0, slots := 0, locals := 40 } : Room) (PR D ca zz [.ref a0, .int p1] sz [(a0, .inr (10, [.ref a1, .ref a6, .ref a8, .ref a9, .ref a10, .ref a13, .ref a15, .ref a18, .int v0.2.2.2.2.2.2.2.2.1, .int v0.2.2.2.2.2.2.2.2.2.1, .int v0.2.2.2.2.2.2.2.2.2.2.1, .int v0.2.2.2.2.2.2.2.2.2.2.2.1, .int v0.2.2.2.2.2.2.2.2.2.2.2.2.1, .int v0.2.2.2.2.2.2.2.2.2.2.2.2.2])), (a10, .inr (3, [.ref a11, .int v0.2.2.2.2.1.2.1, .int v0.2.2.2.2.1.2.2.1, .int v0.2.2.2.2.1.2.2.2.1, .int v0.2.2.2.2.1.2.2.2.2.1, .int v0.2.2.2.2.1.2.2.2.2.2.1, .int v0.2.2.2.2.1.2.2.2.2.2.2])), (a11, .inr (4, [.ref a12, .int v0.2.2.2.2.1.1.2.1, .int v0.2.2.2.2.1.1.2.2]))]) (QV D ca [(a0, .inr (10, [.ref a1, .ref a6, .ref a8, .ref a9, .ref a10, .ref a13, .ref a15, .ref a18, .int v0'.2.2.2.2.2.2.2.2.1, .int v0'.2.2.2.2.2.2.2.2.2.1, .int v0'.2.2.2.2.2.2.2.2.2.2.1, .int v0'.2.2.2.2.2.2.2.2.2.2.2.1, .int v0'.2.2.2.2.2.2.2.2.2.2.2.2.1, .int v0'.2.2.2.2.2.2.2.2.2.2.2.2.2])), (a10, .inr (3, [.ref a11, .int v0'.2.2.2.2.1.2.1, .int v0'.2.2.2.2.1.2.2.1, .int v0'.2.2.2.2.1.2.2.2.1, .int v0'.2.2.2.2.1.2.2.2.2.1, .int v0'.2.2.2.2.1.2.2.2.2.2.1, .int v0'.2.2.2.2.1.2.2.2.2.2.2])), (a11, .inr (4, [.ref a12, .int v0'.2.2.2.2.1.1.2.1, .int v0'.2.2.2.2.1.1.2.2]))] (va_A [(a0, .inr (10, [.ref a1, .ref a6, .ref a8, .ref a9, .ref a10, .ref a13, .ref a15, .ref a18, .int v0.2.2.2.2.2.2.2.2.1, .int v0.2.2.2.2.2.2.2.2.2.1, .int v0.2.2.2.2.2.2.2.2.2.2.1, .int v0.2.2.2.2.2.2.2.2.2.2.2.1, .int v0.2.2.2.2.2.2.2.2.2.2.2.2.1, .int v0.2.2.2.2.2.2.2.2.2.2.2.2.2])), (a10, .inr (3, [.ref a11, .int v0.2.2.2.2.1.2.1, .int v0.2.2.2.2.1.2.2.1, .int v0.2.2.2.2.1.2.2.2.1, .int v0.2.2.2.2.1.2.2.2.2.1, .int v0.2.2.2.2.1.2.2.2.2.2.1, .int v0.2.2.2.2.1.2.2.2.2.2.2])), (a11, .inr (4, [.ref a12, .int v0.2.2.2.2.1.1.2.1, .int v0.2.2.2.2.1.1.2.2]))] sz)) 0 0 (va_A [(a0, .inr (10, [.ref a1, .ref a6, .ref a8, .ref a9, .ref a10, .ref a13, .ref a15, .ref a18, .int v0.2.2.2.2.2.2.2.2.1, .int v0.2.2.2.2.2.2.2.2.2.1, .int v0.2.2.2.2.2.2.2.2.2.2.1, .int v0.2.2.2.2.2.2.2.2.2.2.2.1, .int v0.2.2.2.2.2.2.2.2.2.2.2.2.1, .int v0.2.2.2.2.2.2.2.2.2.2.2.2.2])), (a10, .inr (3, [.ref a11, .int v0.2.2.2.2.1.2.1, .int v0.2.2.2.2.1.2.2.1, .int v0.2.2.2.2.1.2.2.2.1, .int v0.2.2.2.2.1.2.2.2.2.1, .int v0.2.2.2.2.1.2.2.2.2.2.1, .int v0.2.2.2.2.1.2.2.2.2.2.2])), (a11, .inr (4, [.ref a12, .int v0.2.2.2.2.1.1.2.1, .int v0.2.2.2.2.1.1.2.2]))] sz) := by
  refine en (y := yX10_raiseAlarm) (wsm := wq_X10_raiseAlarm) (av := [.ref a0, .int p1]) (cc := cX10_raiseAlarm) (maxL := 2) (ret := none) (Qf := fun A => QV D ca [(a0, .inr (10, [.ref a1, .ref a6, .ref a8, .ref a9, .ref a10, .ref a13, .ref a15, .ref a18, .int v0'.2.2.2.2.2.2.2.2.1, .int v0'.2.2.2.2.2.2.2.2.2.1, .int v0'.2.2.2.2.2.2.2.2.2.2.1, .int v0'.2.2.2.2.2.2.2.2.2.2.2.1, .int v0'.2.2.2.2.2.2.2.2.2.2.2.2.1, .int v0'.2.2.2.2.2.2.2.2.2.2.2.2.2])), (a10, .inr (3, [.ref a11, .int v0'.2.2.2.2.1.2.1, .int v0'.2.2.2.2.1.2.2.1, .int v0'.2.2.2.2.1.2.2.2.1, .int v0'.2.2.2.2.1.2.2.2.2.1, .int v0'.2.2.2.2.1.2.2.2.2.2.1, .int v0'.2.2.2.2.1.2.2.2.2.2.2])), (a11, .inr (4, [.ref a12, .int v0'.2.2.2.2.1.1.2.1, .int v0'.2.2.2.2.1.1.2.2]))] A) (by decide) rfl (Nat.le_of_ble_eq_true rfl) ?_
  intro p e s m args below meth c A Q ls hx hb hr hml hown hts hlocks hnm hA hN hZ hK hQ hP hD hS hl
  have w0 := hts _ (List.mem_cons_of_mem _ gw_2_87)
  have w1 := hts _ (List.mem_cons_of_mem _ gw_2_88)
  have w2 := hts _ (List.mem_cons_of_mem _ gw_2_85)
  have w3 := hts _ (List.mem_cons_of_mem _ gw_2_77)
  have i10 : ∀ w ∈ u_ws RX10 TX10 14, w ∈ wq_X10_raiseAlarm := fun w h => List.mem_cons_of_mem _ (inX10 w h)
  unfold f_X10_raiseAlarm at hf
  refine lv_aload_n hx hb dX10_raiseAlarm_0 rfl (lv_at hl 0 rfl) ?_
  refine lv_iload_n hx hb dX10_raiseAlarm_1 rfl (lv_at hl 1 rfl) ?_
  refine xput (C := RX10) (T := TX10) (N := 14) (wx := [(a0, .inr (10, [.ref a1, .ref a6, .ref a8, .ref a9, .ref a10, .ref a13, .ref a15, .ref a18, .int v0.2.2.2.2.2.2.2.2.1, .int p1, .int v0.2.2.2.2.2.2.2.2.2.2.1, .int v0.2.2.2.2.2.2.2.2.2.2.2.1, .int v0.2.2.2.2.2.2.2.2.2.2.2.2.1, .int v0.2.2.2.2.2.2.2.2.2.2.2.2.2])), (a10, .inr (3, [.ref a11, .int v0.2.2.2.2.1.2.1, .int v0.2.2.2.2.1.2.2.1, .int v0.2.2.2.2.1.2.2.2.1, .int v0.2.2.2.2.1.2.2.2.2.1, .int v0.2.2.2.2.1.2.2.2.2.2.1, .int v0.2.2.2.2.1.2.2.2.2.2.2])), (a11, .inr (4, [.ref a12, .int v0.2.2.2.2.1.1.2.1, .int v0.2.2.2.2.1.1.2.2]))]) hx hb hts i10 tyX10 tyX10_ok nmX10 hown hK hP hD hS 0 rfl rfl 9 (Nat.le_of_ble_eq_true rfl) w0 (fun _ h9 => h9) rfl rfl rfl rfl (Nat.le_of_ble_eq_true rfl) dX10_raiseAlarm_2 rfl (fun H locs hP hD hS => ?_)
  refine lv_aload_n hx hb dX10_raiseAlarm_5 rfl (lv_at hl 0 rfl) ?_
  refine lv_dup hx hb dX10_raiseAlarm_6 rfl ?_
  refine va_get (C := RX10) (T := TX10) (N := 14) hx hb hts i10 hown hK hP 0 rfl rfl 10 (Nat.le_of_ble_eq_true rfl) w1 (fun _ h9 => h9) rfl dX10_raiseAlarm_7 ?_
  refine lv_iconst (v := 1) hx hb dX10_raiseAlarm_10 rfl ?_
  refine lv_iadd hx hb dX10_raiseAlarm_11 ?_
  refine xnm hf (fun x_1 hf => ?_)
  refine xput (C := RX10) (T := TX10) (N := 14) (wx := [(a0, .inr (10, [.ref a1, .ref a6, .ref a8, .ref a9, .ref a10, .ref a13, .ref a15, .ref a18, .int v0.2.2.2.2.2.2.2.2.1, .int p1, .int x_1, .int v0.2.2.2.2.2.2.2.2.2.2.2.1, .int v0.2.2.2.2.2.2.2.2.2.2.2.2.1, .int v0.2.2.2.2.2.2.2.2.2.2.2.2.2])), (a10, .inr (3, [.ref a11, .int v0.2.2.2.2.1.2.1, .int v0.2.2.2.2.1.2.2.1, .int v0.2.2.2.2.1.2.2.2.1, .int v0.2.2.2.2.1.2.2.2.2.1, .int v0.2.2.2.2.1.2.2.2.2.2.1, .int v0.2.2.2.2.1.2.2.2.2.2.2])), (a11, .inr (4, [.ref a12, .int v0.2.2.2.2.1.1.2.1, .int v0.2.2.2.2.1.1.2.2]))]) hx hb hts i10 tyX10 tyX10_ok nmX10 hown hK hP hD hS 0 rfl rfl 10 (Nat.le_of_ble_eq_true rfl) w1 (fun _ h9 => h9) rfl rfl rfl rfl (Nat.le_of_ble_eq_true rfl) dX10_raiseAlarm_12 rfl (fun H locs hP hD hS => ?_)
  refine lv_aload_n hx hb dX10_raiseAlarm_15 rfl (lv_at hl 0 rfl) ?_
  refine lv_iconst (v := 3) hx hb dX10_raiseAlarm_16 rfl ?_
  refine xput (C := RX10) (T := TX10) (N := 14) (wx := [(a0, .inr (10, [.ref a1, .ref a6, .ref a8, .ref a9, .ref a10, .ref a13, .ref a15, .ref a18, .int (3 : Int32), .int p1, .int x_1, .int v0.2.2.2.2.2.2.2.2.2.2.2.1, .int v0.2.2.2.2.2.2.2.2.2.2.2.2.1, .int v0.2.2.2.2.2.2.2.2.2.2.2.2.2])), (a10, .inr (3, [.ref a11, .int v0.2.2.2.2.1.2.1, .int v0.2.2.2.2.1.2.2.1, .int v0.2.2.2.2.1.2.2.2.1, .int v0.2.2.2.2.1.2.2.2.2.1, .int v0.2.2.2.2.1.2.2.2.2.2.1, .int v0.2.2.2.2.1.2.2.2.2.2.2])), (a11, .inr (4, [.ref a12, .int v0.2.2.2.2.1.1.2.1, .int v0.2.2.2.2.1.1.2.2]))]) hx hb hts i10 tyX10 tyX10_ok nmX10 hown hK hP hD hS 0 rfl rfl 8 (Nat.le_of_ble_eq_true rfl) w2 (fun _ h9 => h9) rfl rfl rfl rfl (Nat.le_of_ble_eq_true rfl) dX10_raiseAlarm_17 rfl (fun H locs hP hD hS => ?_)
  refine lv_aload_n hx hb dX10_raiseAlarm_20 rfl (lv_at hl 0 rfl) ?_
  refine va_get (C := RX10) (T := TX10) (N := 14) hx hb hts i10 hown hK hP 0 rfl rfl 4 (Nat.le_of_ble_eq_true rfl) w3 (fun _ h9 => h9) rfl dX10_raiseAlarm_21 ?_
  obtain ⟨u_2, hc2, hf⟩ := bnd1_el hf
  refine xV_V (As := []) (wx := [(a0, .inr (10, [.ref a1, .ref a6, .ref a8, .ref a9, .ref a10, .ref a13, .ref a15, .ref a18, .int (3 : Int32), .int p1, .int x_1, .int v0.2.2.2.2.2.2.2.2.2.2.2.1, .int v0.2.2.2.2.2.2.2.2.2.2.2.2.1, .int v0.2.2.2.2.2.2.2.2.2.2.2.2.2])), (a10, .inr (3, [.ref a11, .int u_2.2.1, .int u_2.2.2.1, .int u_2.2.2.2.1, .int u_2.2.2.2.2.1, .int u_2.2.2.2.2.2.1, .int u_2.2.2.2.2.2.2])), (a11, .inr (4, [.ref a12, .int u_2.1.2.1, .int u_2.1.2.2]))]) ⟨hx, hb, hml, hown, hts⟩ (c_X3_lose l D ca zz a10 a11 a12 _ v0.2.2.2.2.1 u_2 hc2) (cwV 0 hts (gV gw_3_141 gw_3_142 gw_3_143 gw_1_7 gw_3_144) rfl rfl rfl (by decide +kernel) ⟨(Nat.le_of_ble_eq_true rfl), (Nat.le_of_ble_eq_true rfl)⟩) hK hN hZ hA hP hD hS [1, 2] rfl rfl rfl rfl 1 rfl rfl hl.1 rfl (Nat.le_of_ble_eq_true rfl) dX10_raiseAlarm_24 ⟨Nat.zero_le _, Nat.zero_le _⟩ rfl (fun H locs hP hD hS => ?_)
  cases hf
  exact rt_V hx hb hr hlocks hK hP hD hS hQ rfl dX10_raiseAlarm_27
abbrev wq_X7_earned : List Cond := Cond.code yX7_earned cX7_earned 1 (some .int) :: GL
set_option maxHeartbeats 4000000 in
set_option maxRecDepth 100000 in
theorem c_X7_earned (l : Launch) (D : va_G) (ca : Nat → ClassId) (zz : Nat → Nat) (a0 a1 a2 a3 a4 : Nat) (sz : Nat) (v0 : V7) (r : Int32) (hf : f_X7_earned v0 = some r) : Met l yX7_earned wq_X7_earned ({ frames := 1, cells := 0, slots := 0, locals := 21 } : Room) (PR D ca zz [.ref a0] sz [(a0, .inr (7, [.ref a1, .ref a2, .ref a3, .ref a4, .int v0.2.2.2.2])), (a1, .inl (ca 0, 9, .inl v0.1))]) (QI D ca r [(a0, .inr (7, [.ref a1, .ref a2, .ref a3, .ref a4, .int v0.2.2.2.2])), (a1, .inl (ca 0, 9, .inl v0.1))] (va_A [(a0, .inr (7, [.ref a1, .ref a2, .ref a3, .ref a4, .int v0.2.2.2.2])), (a1, .inl (ca 0, 9, .inl v0.1))] sz)) 0 0 (va_A [(a0, .inr (7, [.ref a1, .ref a2, .ref a3, .ref a4, .int v0.2.2.2.2])), (a1, .inl (ca 0, 9, .inl v0.1))] sz) := by
  refine en (y := yX7_earned) (wsm := wq_X7_earned) (av := [.ref a0]) (cc := cX7_earned) (maxL := 1) (ret := (some .int)) (Qf := fun A => QI D ca r [(a0, .inr (7, [.ref a1, .ref a2, .ref a3, .ref a4, .int v0.2.2.2.2])), (a1, .inl (ca 0, 9, .inl v0.1))] A) (by decide) rfl (Nat.le_of_ble_eq_true rfl) ?_
  intro p e s m args below meth c A Q ls hx hb hr hml hown hts hlocks hnm hA hN hZ hK hQ hP hD hS hl
  unfold f_X7_earned at hf
  refine lv_bipush (v := 9) hx hb dX7_earned_0 rfl ?_
  refine lv_bipush (v := 16) hx hb dX7_earned_2 rfl ?_
  refine lv_aload_n hx hb dX7_earned_4 rfl (lv_at hl 0 rfl) ?_
  refine lv_iconst (v := 0) hx hb dX7_earned_5 rfl ?_
  obtain ⟨r_1, hc1, hf⟩ := bnd1_el hf
  refine xV_I (As := [.int (0 : Int32)]) (wx := [(a0, .inr (7, [.ref a1, .ref a2, .ref a3, .ref a4, .int v0.2.2.2.2])), (a1, .inl (ca 0, 9, .inl v0.1))]) ⟨hx, hb, hml, hown, hts⟩ (c_X7_valueOf l D ca zz a0 a1 a2 a3 a4 _ v0 (0 : Int32) r_1 hc1) (cwV 1 hts (gV gw_3_218 gw_2_15 gw_2_16 gw_1_3 gw_2_17) rfl rfl rfl (by decide +kernel) ⟨(Nat.le_of_ble_eq_true rfl), (Nat.le_of_ble_eq_true rfl)⟩) hK hN hZ hA hP hD hS [0, 1] rfl rfl rfl rfl 0 rfl rfl hl.1 rfl (Nat.le_of_ble_eq_true rfl) dX7_earned_6 ⟨Nat.zero_le _, Nat.zero_le _⟩ rfl (fun H locs hP hD hS => ?_)
  refine lv_isub hx hb dX7_earned_9 ?_
  refine lv_imul hx hb dX7_earned_10 ?_
  cases hf
  exact rt_I hx hb hr hlocks hK hP hD hS hQ rfl rfl dX7_earned_11
abbrev wq_X7_yielded : List Cond := Cond.code yX7_yielded cX7_yielded 1 (some .int) :: GL
set_option maxHeartbeats 4000000 in
set_option maxRecDepth 100000 in
theorem c_X7_yielded (l : Launch) (D : va_G) (ca : Nat → ClassId) (zz : Nat → Nat) (a0 a1 a2 a3 a4 : Nat) (sz : Nat) (v0 : V7) (r : Int32) (hf : f_X7_yielded v0 = some r) : Met l yX7_yielded wq_X7_yielded ({ frames := 2, cells := 0, slots := 0, locals := 41 } : Room) (PR D ca zz [.ref a0] sz [(a0, .inr (7, [.ref a1, .ref a2, .ref a3, .ref a4, .int v0.2.2.2.2])), (a1, .inl (ca 0, 9, .inl v0.1))]) (QI D ca r [(a0, .inr (7, [.ref a1, .ref a2, .ref a3, .ref a4, .int v0.2.2.2.2])), (a1, .inl (ca 0, 9, .inl v0.1))] (va_A [(a0, .inr (7, [.ref a1, .ref a2, .ref a3, .ref a4, .int v0.2.2.2.2])), (a1, .inl (ca 0, 9, .inl v0.1))] sz)) 0 0 (va_A [(a0, .inr (7, [.ref a1, .ref a2, .ref a3, .ref a4, .int v0.2.2.2.2])), (a1, .inl (ca 0, 9, .inl v0.1))] sz) := by
  refine en (y := yX7_yielded) (wsm := wq_X7_yielded) (av := [.ref a0]) (cc := cX7_yielded) (maxL := 1) (ret := (some .int)) (Qf := fun A => QI D ca r [(a0, .inr (7, [.ref a1, .ref a2, .ref a3, .ref a4, .int v0.2.2.2.2])), (a1, .inl (ca 0, 9, .inl v0.1))] A) (by decide) rfl (Nat.le_of_ble_eq_true rfl) ?_
  intro p e s m args below meth c A Q ls hx hb hr hml hown hts hlocks hnm hA hN hZ hK hQ hP hD hS hl
  have w0 := hts _ (List.mem_cons_of_mem _ gw_2_235)
  have w1 := hts _ (List.mem_cons_of_mem _ gw_2_30)
  have w2 := hts _ (List.mem_cons_of_mem _ gw_1_11)
  have w3 := hts _ (List.mem_cons_of_mem _ gw_2_31)
  unfold f_X7_yielded at hf
  refine lv_aload_n hx hb dX7_yielded_0 rfl (lv_at hl 0 rfl) ?_
  refine lv_iconst (v := 5) hx hb dX7_yielded_1 rfl ?_
  obtain ⟨r_1, hc1, hf⟩ := bnd1_el hf
  refine xV_I (As := [.int (5 : Int32)]) (wx := [(a0, .inr (7, [.ref a1, .ref a2, .ref a3, .ref a4, .int v0.2.2.2.2])), (a1, .inl (ca 0, 9, .inl v0.1))]) ⟨hx, hb, hml, hown, hts⟩ (c_X7_valueOf l D ca zz a0 a1 a2 a3 a4 _ v0 (5 : Int32) r_1 hc1) (cwV 1 hts (gV gw_3_218 gw_2_15 gw_2_16 gw_1_3 gw_2_17) rfl rfl rfl (by decide +kernel) ⟨(Nat.le_of_ble_eq_true rfl), (Nat.le_of_ble_eq_true rfl)⟩) hK hN hZ hA hP hD hS [0, 1] rfl rfl rfl rfl 0 rfl rfl hl.1 rfl (Nat.le_of_ble_eq_true rfl) dX7_yielded_2 ⟨Nat.zero_le _, Nat.zero_le _⟩ rfl (fun H locs hP hD hS => ?_)
  refine lv_aload_n hx hb dX7_yielded_5 rfl (lv_at hl 0 rfl) ?_
  refine lv_iconst (v := 4) hx hb dX7_yielded_6 rfl ?_
  obtain ⟨r_2, hc2, hf⟩ := bnd1_el hf
  refine xV_I (As := [.int (4 : Int32)]) (wx := [(a0, .inr (7, [.ref a1, .ref a2, .ref a3, .ref a4, .int v0.2.2.2.2])), (a1, .inl (ca 0, 9, .inl v0.1))]) ⟨hx, hb, hml, hown, hts⟩ (c_X7_valueOf l D ca zz a0 a1 a2 a3 a4 _ v0 (4 : Int32) r_2 hc2) (cwV 1 hts (gV gw_3_218 gw_2_15 gw_2_16 gw_1_3 gw_2_17) rfl rfl rfl (by decide +kernel) ⟨(Nat.le_of_ble_eq_true rfl), (Nat.le_of_ble_eq_true rfl)⟩) hK hN hZ hA hP hD hS [0, 1] rfl rfl rfl rfl 0 rfl rfl hl.1 rfl (Nat.le_of_ble_eq_true rfl) dX7_yielded_7 ⟨Nat.zero_le _, Nat.zero_le _⟩ rfl (fun H locs hP hD hS => ?_)
  refine lv_aload_n hx hb dX7_yielded_10 rfl (lv_at hl 0 rfl) ?_
  obtain ⟨r_3, hc3, hf⟩ := bnd1_el hf
  refine xV_I (As := []) (wx := [(a0, .inr (7, [.ref a1, .ref a2, .ref a3, .ref a4, .int v0.2.2.2.2])), (a1, .inl (ca 0, 9, .inl v0.1))]) ⟨hx, hb, hml, hown, hts⟩ (c_X7_earned l D ca zz a0 a1 a2 a3 a4 _ v0 r_3 hc3) (cwV 0 hts (gV gw_3_219 gw_3_220 gw_3_221 gw_1_3 gw_3_222) rfl rfl rfl (by decide +kernel) ⟨(Nat.le_of_ble_eq_true rfl), (Nat.le_of_ble_eq_true rfl)⟩) hK hN hZ hA hP hD hS [0, 1] rfl rfl rfl rfl 0 rfl rfl hl.1 rfl (Nat.le_of_ble_eq_true rfl) dX7_yielded_11 ⟨Nat.zero_le _, Nat.zero_le _⟩ rfl (fun H locs hP hD hS => ?_)
  refine lv_imul hx hb dX7_yielded_14 ?_
  refine lv_bipush (v := 100) hx hb dX7_yielded_15 rfl ?_
  refine xidiv hx hb dX7_yielded_17 hf (fun hf => ?_)
  refine va_mmin hx hb (hml.trans hl.1.symm) hown w0 w1 w2 w3 (Nat.le_of_ble_eq_true rfl) (Nat.le_of_ble_eq_true rfl) (Nat.zero_le _) (Nat.zero_le _) dX7_yielded_18 ?_
  refine xnm hf (fun x_4 hf => ?_)
  cases hf
  exact rt_I hx hb hr hlocks hK hP hD hS hQ rfl rfl dX7_yielded_21
abbrev wq_X3_fillFrom : List Cond := Cond.code yX3_fillFrom cX3_fillFrom 3 none :: GL
set_option maxHeartbeats 4000000 in
set_option maxRecDepth 100000 in
theorem c_X3_fillFrom (l : Launch) (D : va_G) (ca : Nat → ClassId) (zz : Nat → Nat) (a0 a1 a2 : Nat) (sz : Nat) (v0 : V3) (p1 : Int32) (v0' : V3) (hf : f_X3_fillFrom v0 p1 = some v0') : Met l yX3_fillFrom wq_X3_fillFrom ({ frames := 1, cells := 0, slots := 0, locals := 21 } : Room) (PR D ca zz [.ref a0, .int p1] sz [(a0, .inr (3, [.ref a1, .int v0.2.1, .int v0.2.2.1, .int v0.2.2.2.1, .int v0.2.2.2.2.1, .int v0.2.2.2.2.2.1, .int v0.2.2.2.2.2.2])), (a1, .inr (4, [.ref a2, .int v0.1.2.1, .int v0.1.2.2])), (a2, .inl (ca 0, 512, .inl v0.1.1))]) (QV D ca [(a0, .inr (3, [.ref a1, .int v0'.2.1, .int v0'.2.2.1, .int v0'.2.2.2.1, .int v0'.2.2.2.2.1, .int v0'.2.2.2.2.2.1, .int v0'.2.2.2.2.2.2])), (a1, .inr (4, [.ref a2, .int v0'.1.2.1, .int v0'.1.2.2])), (a2, .inl (ca 0, 512, .inl v0'.1.1))] (va_A [(a0, .inr (3, [.ref a1, .int v0.2.1, .int v0.2.2.1, .int v0.2.2.2.1, .int v0.2.2.2.2.1, .int v0.2.2.2.2.2.1, .int v0.2.2.2.2.2.2])), (a1, .inr (4, [.ref a2, .int v0.1.2.1, .int v0.1.2.2])), (a2, .inl (ca 0, 512, .inl v0.1.1))] sz)) 0 0 (va_A [(a0, .inr (3, [.ref a1, .int v0.2.1, .int v0.2.2.1, .int v0.2.2.2.1, .int v0.2.2.2.2.1, .int v0.2.2.2.2.2.1, .int v0.2.2.2.2.2.2])), (a1, .inr (4, [.ref a2, .int v0.1.2.1, .int v0.1.2.2])), (a2, .inl (ca 0, 512, .inl v0.1.1))] sz) := by
  refine en (y := yX3_fillFrom) (wsm := wq_X3_fillFrom) (av := [.ref a0, .int p1]) (cc := cX3_fillFrom) (maxL := 3) (ret := none) (Qf := fun A => QV D ca [(a0, .inr (3, [.ref a1, .int v0'.2.1, .int v0'.2.2.1, .int v0'.2.2.2.1, .int v0'.2.2.2.2.1, .int v0'.2.2.2.2.2.1, .int v0'.2.2.2.2.2.2])), (a1, .inr (4, [.ref a2, .int v0'.1.2.1, .int v0'.1.2.2])), (a2, .inl (ca 0, 512, .inl v0'.1.1))] A) (by decide) rfl (Nat.le_of_ble_eq_true rfl) ?_
  intro p e s m args below meth c A Q ls hx hb hr hml hown hts hlocks hnm hA hN hZ hK hQ hP hD hS hl
  have w0 := hts _ (List.mem_cons_of_mem _ gw_1_179)
  have w1 := hts _ (List.mem_cons_of_mem _ gw_1_187)
  have w2 := hts _ (List.mem_cons_of_mem _ gw_1_182)
  have w3 := hts _ (List.mem_cons_of_mem _ gw_1_185)
  have nw19 := NW.use (args := args) (w := .fieldLinkNest RX3 55 "NoiseWatch$Queue" "size" "I" "NoiseWatch") hN 19 rfl
  have i3 : ∀ w ∈ u_ws RX3 TX3 7, w ∈ wq_X3_fillFrom := fun w h => List.mem_cons_of_mem _ (inX3 w h)
  have i4 : ∀ w ∈ u_ws RX4 TX4 3, w ∈ wq_X3_fillFrom := fun w h => List.mem_cons_of_mem _ (inX4 w h)
  have bl4 : ∀ (k4 : V3 → Int32 → Option (V3)) (q4 : ∀ (v0 : V3) (x2 : Int32), k4 v0 x2 = some v0' → ∀ (H : Heap) (locs : List Loc) (ls : Array Slot), va_P D vwCl [(a0, .inr (3, [.ref a1, .int v0.2.1, .int v0.2.2.1, .int v0.2.2.2.1, .int v0.2.2.2.2.1, .int v0.2.2.2.2.2.1, .int v0.2.2.2.2.2.2])), (a1, .inr (4, [.ref a2, .int v0.1.2.1, .int v0.1.2.2])), (a2, .inl (ca 0, 512, .inl v0.1.1))] H → va_D A [(a0, .inr (3, [.ref a1, .int v0.2.1, .int v0.2.2.1, .int v0.2.2.2.1, .int v0.2.2.2.2.1, .int v0.2.2.2.2.2.1, .int v0.2.2.2.2.2.2])), (a1, .inr (4, [.ref a2, .int v0.1.2.1, .int v0.1.2.2])), (a2, .inl (ca 0, 512, .inl v0.1.1))] → va_S A s.heap H locs → lv_has ls 3 [(0, .ref a0), (2, .int x2)] → W p l e ({ frames := 1, cells := 0, slots := 0, locals := 21 } : Room) s m args below meth c H locs 0 0 Q (F0 m 4 ls [])) (v0 : V3) (x2 : Int32), fl_X3_fillFrom_4 k4 v0 x2 = some v0' → ∀ (H : Heap) (locs : List Loc) (ls : Array Slot), va_P D vwCl [(a0, .inr (3, [.ref a1, .int v0.2.1, .int v0.2.2.1, .int v0.2.2.2.1, .int v0.2.2.2.2.1, .int v0.2.2.2.2.2.1, .int v0.2.2.2.2.2.2])), (a1, .inr (4, [.ref a2, .int v0.1.2.1, .int v0.1.2.2])), (a2, .inl (ca 0, 512, .inl v0.1.1))] H → va_D A [(a0, .inr (3, [.ref a1, .int v0.2.1, .int v0.2.2.1, .int v0.2.2.2.1, .int v0.2.2.2.2.1, .int v0.2.2.2.2.2.1, .int v0.2.2.2.2.2.2])), (a1, .inr (4, [.ref a2, .int v0.1.2.1, .int v0.1.2.2])), (a2, .inl (ca 0, 512, .inl v0.1.1))] → va_S A s.heap H locs → lv_has ls 3 [(0, .ref a0), (2, .int x2)] → W p l e ({ frames := 1, cells := 0, slots := 0, locals := 21 } : Room) s m args below meth c H locs 0 0 Q (F0 m 4 ls []) := by
    intro k4 q4 v0 x2 hf H locs ls hP hD hS hl
    unfold fl_X3_fillFrom_4 at hf
    refine lv_iload_n hx hb dX3_fillFrom_4 rfl (lv_at hl 1 rfl) ?_
    refine xi_lt (tgt := 65) hx hb dX3_fillFrom_5 (by decide) hf (fun hf => ?_) (fun hf => ?_)
    · cases hf
      exact rt_V hx hb hr hlocks hK hP hD hS hQ rfl dX3_fillFrom_65
    · refine lv_aload_n hx hb dX3_fillFrom_8 rfl (lv_at hl 0 rfl) ?_
      refine va_get (C := RX3) (T := TX3) (N := 7) hx hb hts i3 hown hK hP 0 rfl rfl 0 (Nat.le_of_ble_eq_true rfl) w0 (fun _ h9 => h9) rfl dX3_fillFrom_9 ?_
      refine va_getN (C := RX4) (T := TX4) (N := 3) hx hb hts i4 hown hK hP 1 rfl rfl 2 (Nat.le_of_ble_eq_true rfl) nw19 (fun _ h9 => h9) rfl dX3_fillFrom_12 ?_
      refine lv_sipush (v := 256) hx hb dX3_fillFrom_15 rfl ?_
      refine xc_ge (tgt := 49) hx hb dX3_fillFrom_18 (by decide) hf (fun hf => ?_) (fun hf => ?_)
      · refine lv_aload_n hx hb dX3_fillFrom_49 rfl (lv_at hl 0 rfl) ?_
        refine lv_dup hx hb dX3_fillFrom_50 rfl ?_
        refine va_get (C := RX3) (T := TX3) (N := 7) hx hb hts i3 hown hK hP 0 rfl rfl 4 (Nat.le_of_ble_eq_true rfl) w1 (fun _ h9 => h9) rfl dX3_fillFrom_51 ?_
        refine lv_iconst (v := 1) hx hb dX3_fillFrom_54 rfl ?_
        refine lv_iadd hx hb dX3_fillFrom_55 ?_
        refine xnm hf (fun x_2 hf => ?_)
        refine xput (C := RX3) (T := TX3) (N := 7) (wx := [(a0, .inr (3, [.ref a1, .int v0.2.1, .int v0.2.2.1, .int v0.2.2.2.1, .int x_2, .int v0.2.2.2.2.2.1, .int v0.2.2.2.2.2.2])), (a1, .inr (4, [.ref a2, .int v0.1.2.1, .int v0.1.2.2])), (a2, .inl (ca 0, 512, .inl v0.1.1))]) hx hb hts i3 tyX3 tyX3_ok nmX3 hown hK hP hD hS 0 rfl rfl 4 (Nat.le_of_ble_eq_true rfl) w1 (fun _ h9 => h9) rfl rfl rfl rfl (Nat.le_of_ble_eq_true rfl) dX3_fillFrom_56 rfl (fun H locs hP hD hS => ?_)
        obtain ⟨x_3, ex_3, hf⟩ := bnd_el hf
        refine lv_iinc (v := x_3) (lv' := [(2, .int x_3), (0, .ref a0)]) hx hb dX3_fillFrom_59 hl (k := 1) rfl (by rw [ex_3]; rfl) (Nat.le_of_ble_eq_true rfl) rfl (fun ls hl => ?_)
        refine lv_goto (tgt := 4) hx hb dX3_fillFrom_62 (by decide) ?_
        exact q4 ((v0.1, v0.2.1, v0.2.2.1, v0.2.2.2.1, x_2, v0.2.2.2.2.2)) x_3 hf _ _ _ hP hD hS (lv_sub hl [1, 0] rfl)
      · refine lv_aload_n hx hb dX3_fillFrom_21 rfl (lv_at hl 0 rfl) ?_
        refine va_get (C := RX3) (T := TX3) (N := 7) hx hb hts i3 hown hK hP 0 rfl rfl 0 (Nat.le_of_ble_eq_true rfl) w0 (fun _ h9 => h9) rfl dX3_fillFrom_22 ?_
        refine lv_aload_n hx hb dX3_fillFrom_25 rfl (lv_at hl 0 rfl) ?_
        refine va_get (C := RX3) (T := TX3) (N := 7) hx hb hts i3 hown hK hP 0 rfl rfl 1 (Nat.le_of_ble_eq_true rfl) w2 (fun _ h9 => h9) rfl dX3_fillFrom_26 ?_
        refine lv_iload_n hx hb dX3_fillFrom_29 rfl (lv_at hl 1 rfl) ?_
        refine lv_iushr (v := jushr v0.2.1 x2) hx hb dX3_fillFrom_30 rfl ?_
        refine lv_iconst (v := 1) hx hb dX3_fillFrom_31 rfl ?_
        refine lv_iand hx hb dX3_fillFrom_32 ?_
        obtain ⟨u_4, hc4, hf⟩ := bnd1_el hf
        refine xV_V (As := [.int ((jushr v0.2.1 x2) &&& (1 : Int32))]) (wx := [(a0, .inr (3, [.ref a1, .int v0.2.1, .int v0.2.2.1, .int v0.2.2.2.1, .int v0.2.2.2.2.1, .int v0.2.2.2.2.2.1, .int v0.2.2.2.2.2.2])), (a1, .inr (4, [.ref a2, .int u_4.2.1, .int u_4.2.2])), (a2, .inl (ca 0, 512, .inl u_4.1))]) ⟨hx, hb, hml, hown, hts⟩ (c_X4_append l D ca zz a1 a2 _ v0.1 ((jushr v0.2.1 x2) &&& (1 : Int32)) u_4 hc4) (cwV 1 hts (gV gw_3_227 gw_3_189 gw_3_190 gw_1_8 gw_3_191) rfl rfl rfl (by decide +kernel) ⟨(Nat.le_of_ble_eq_true rfl), (Nat.le_of_ble_eq_true rfl)⟩) hK hN hZ hA hP hD hS [1, 2] rfl rfl rfl rfl 1 rfl rfl hl.1 rfl (Nat.le_of_ble_eq_true rfl) dX3_fillFrom_33 ⟨Nat.zero_le _, Nat.zero_le _⟩ rfl (fun H locs hP hD hS => ?_)
        refine lv_aload_n hx hb dX3_fillFrom_36 rfl (lv_at hl 0 rfl) ?_
        refine lv_dup hx hb dX3_fillFrom_37 rfl ?_
        refine va_get (C := RX3) (T := TX3) (N := 7) hx hb hts i3 hown hK hP 0 rfl rfl 3 (Nat.le_of_ble_eq_true rfl) w3 (fun _ h9 => h9) rfl dX3_fillFrom_38 ?_
        refine lv_iconst (v := 1) hx hb dX3_fillFrom_41 rfl ?_
        refine lv_iadd hx hb dX3_fillFrom_42 ?_
        refine xnm hf (fun x_5 hf => ?_)
        refine xput (C := RX3) (T := TX3) (N := 7) (wx := [(a0, .inr (3, [.ref a1, .int v0.2.1, .int v0.2.2.1, .int x_5, .int v0.2.2.2.2.1, .int v0.2.2.2.2.2.1, .int v0.2.2.2.2.2.2])), (a1, .inr (4, [.ref a2, .int u_4.2.1, .int u_4.2.2])), (a2, .inl (ca 0, 512, .inl u_4.1))]) hx hb hts i3 tyX3 tyX3_ok nmX3 hown hK hP hD hS 0 rfl rfl 3 (Nat.le_of_ble_eq_true rfl) w3 (fun _ h9 => h9) rfl rfl rfl rfl (Nat.le_of_ble_eq_true rfl) dX3_fillFrom_43 rfl (fun H locs hP hD hS => ?_)
        refine lv_goto (tgt := 59) hx hb dX3_fillFrom_46 (by decide) ?_
        obtain ⟨x_6, ex_6, hf⟩ := bnd_el hf
        refine lv_iinc (v := x_6) (lv' := [(2, .int x_6), (0, .ref a0)]) hx hb dX3_fillFrom_59 hl (k := 1) rfl (by rw [ex_6]; rfl) (Nat.le_of_ble_eq_true rfl) rfl (fun ls hl => ?_)
        refine lv_goto (tgt := 4) hx hb dX3_fillFrom_62 (by decide) ?_
        exact q4 ((u_4, v0.2.1, v0.2.2.1, x_5, v0.2.2.2.2)) x_6 hf _ _ _ hP hD hS (lv_sub hl [1, 0] rfl)
  have b4 : ∀ (n : Nat) (v0 : V3) (x2 : Int32), fb_X3_fillFrom_4 n v0 x2 = some v0' → ∀ (H : Heap) (locs : List Loc) (ls : Array Slot), va_P D vwCl [(a0, .inr (3, [.ref a1, .int v0.2.1, .int v0.2.2.1, .int v0.2.2.2.1, .int v0.2.2.2.2.1, .int v0.2.2.2.2.2.1, .int v0.2.2.2.2.2.2])), (a1, .inr (4, [.ref a2, .int v0.1.2.1, .int v0.1.2.2])), (a2, .inl (ca 0, 512, .inl v0.1.1))] H → va_D A [(a0, .inr (3, [.ref a1, .int v0.2.1, .int v0.2.2.1, .int v0.2.2.2.1, .int v0.2.2.2.2.1, .int v0.2.2.2.2.2.1, .int v0.2.2.2.2.2.2])), (a1, .inr (4, [.ref a2, .int v0.1.2.1, .int v0.1.2.2])), (a2, .inl (ca 0, 512, .inl v0.1.1))] → va_S A s.heap H locs → lv_has ls 3 [(0, .ref a0), (2, .int x2)] → W p l e ({ frames := 1, cells := 0, slots := 0, locals := 21 } : Room) s m args below meth c H locs 0 0 Q (F0 m 4 ls []) := by
    intro n
    induction n with
    | zero => intro v0 x2 hf; exact no_el hf
    | succ n ih => exact bl4 (fb_X3_fillFrom_4 n) ih
  unfold f_X3_fillFrom at hf
  refine lv_iload_n hx hb dX3_fillFrom_0 rfl (lv_at hl 1 rfl) ?_
  refine lv_iconst (v := 1) hx hb dX3_fillFrom_1 rfl ?_
  refine lv_isub hx hb dX3_fillFrom_2 ?_
  refine xnm hf (fun x_1 hf => ?_)
  refine lv_istore_n (lv' := [(2, .int x_1), (0, .ref a0), (1, .int p1)]) hx hb dX3_fillFrom_3 rfl hl (Nat.le_of_ble_eq_true rfl) rfl (fun ls hl => ?_)
  exact b4 FU v0 x_1 hf _ _ _ hP hD hS (lv_sub hl [1, 0] rfl)
abbrev wq_X3_feed : List Cond := Cond.code yX3_feed cX3_feed 4 none :: GL
set_option maxHeartbeats 4000000 in
set_option maxRecDepth 100000 in
theorem c_X3_feed (l : Launch) (D : va_G) (ca : Nat → ClassId) (zz : Nat → Nat) (a0 a1 a2 d0 d1 d2 d3 d4 : Nat) (sz : Nat) (v0 : V3) (v2 : V7) (p1 : Int32) (v0' : V3) (hf : f_X3_feed v0 v2 p1 = some v0') : Met l yX3_feed wq_X3_feed ({ frames := 3, cells := 0, slots := 0, locals := 61 } : Room) (PR D ca zz [.ref a0, .int p1, .ref d0] sz [(a0, .inr (3, [.ref a1, .int v0.2.1, .int v0.2.2.1, .int v0.2.2.2.1, .int v0.2.2.2.2.1, .int v0.2.2.2.2.2.1, .int v0.2.2.2.2.2.2])), (a1, .inr (4, [.ref a2, .int v0.1.2.1, .int v0.1.2.2])), (a2, .inl (ca 0, 512, .inl v0.1.1)), (d0, .inr (7, [.ref d1, .ref d2, .ref d3, .ref d4, .int v2.2.2.2.2])), (d1, .inl (ca 0, 9, .inl v2.1))]) (QV D ca [(a0, .inr (3, [.ref a1, .int v0'.2.1, .int v0'.2.2.1, .int v0'.2.2.2.1, .int v0'.2.2.2.2.1, .int v0'.2.2.2.2.2.1, .int v0'.2.2.2.2.2.2])), (a1, .inr (4, [.ref a2, .int v0'.1.2.1, .int v0'.1.2.2])), (a2, .inl (ca 0, 512, .inl v0'.1.1)), (d0, .inr (7, [.ref d1, .ref d2, .ref d3, .ref d4, .int v2.2.2.2.2])), (d1, .inl (ca 0, 9, .inl v2.1))] (va_A [(a0, .inr (3, [.ref a1, .int v0.2.1, .int v0.2.2.1, .int v0.2.2.2.1, .int v0.2.2.2.2.1, .int v0.2.2.2.2.2.1, .int v0.2.2.2.2.2.2])), (a1, .inr (4, [.ref a2, .int v0.1.2.1, .int v0.1.2.2])), (a2, .inl (ca 0, 512, .inl v0.1.1)), (d0, .inr (7, [.ref d1, .ref d2, .ref d3, .ref d4, .int v2.2.2.2.2])), (d1, .inl (ca 0, 9, .inl v2.1))] sz)) 0 0 (va_A [(a0, .inr (3, [.ref a1, .int v0.2.1, .int v0.2.2.1, .int v0.2.2.2.1, .int v0.2.2.2.2.1, .int v0.2.2.2.2.2.1, .int v0.2.2.2.2.2.2])), (a1, .inr (4, [.ref a2, .int v0.1.2.1, .int v0.1.2.2])), (a2, .inl (ca 0, 512, .inl v0.1.1)), (d0, .inr (7, [.ref d1, .ref d2, .ref d3, .ref d4, .int v2.2.2.2.2])), (d1, .inl (ca 0, 9, .inl v2.1))] sz) := by
  refine en (y := yX3_feed) (wsm := wq_X3_feed) (av := [.ref a0, .int p1, .ref d0]) (cc := cX3_feed) (maxL := 4) (ret := none) (Qf := fun A => QV D ca [(a0, .inr (3, [.ref a1, .int v0'.2.1, .int v0'.2.2.1, .int v0'.2.2.2.1, .int v0'.2.2.2.2.1, .int v0'.2.2.2.2.2.1, .int v0'.2.2.2.2.2.2])), (a1, .inr (4, [.ref a2, .int v0'.1.2.1, .int v0'.1.2.2])), (a2, .inl (ca 0, 512, .inl v0'.1.1)), (d0, .inr (7, [.ref d1, .ref d2, .ref d3, .ref d4, .int v2.2.2.2.2])), (d1, .inl (ca 0, 9, .inl v2.1))] A) (by decide) rfl (Nat.le_of_ble_eq_true rfl) ?_
  intro p e s m args below meth c A Q ls hx hb hr hml hown hts hlocks hnm hA hN hZ hK hQ hP hD hS hl
  have w0 := hts _ (List.mem_cons_of_mem _ gw_1_182)
  have w1 := hts _ (List.mem_cons_of_mem _ gw_3_212)
  have w2 := hts _ (List.mem_cons_of_mem _ gw_1_183)
  have i3 : ∀ w ∈ u_ws RX3 TX3 7, w ∈ wq_X3_feed := fun w h => List.mem_cons_of_mem _ (inX3 w h)
  have b40 : ∀ (v0 : V3), fc_X3_feed_40 v2 v0 = some v0' → ∀ (H : Heap) (locs : List Loc) (ls : Array Slot), va_P D vwCl [(a0, .inr (3, [.ref a1, .int v0.2.1, .int v0.2.2.1, .int v0.2.2.2.1, .int v0.2.2.2.2.1, .int v0.2.2.2.2.2.1, .int v0.2.2.2.2.2.2])), (a1, .inr (4, [.ref a2, .int v0.1.2.1, .int v0.1.2.2])), (a2, .inl (ca 0, 512, .inl v0.1.1)), (d0, .inr (7, [.ref d1, .ref d2, .ref d3, .ref d4, .int v2.2.2.2.2])), (d1, .inl (ca 0, 9, .inl v2.1))] H → va_D A [(a0, .inr (3, [.ref a1, .int v0.2.1, .int v0.2.2.1, .int v0.2.2.2.1, .int v0.2.2.2.2.1, .int v0.2.2.2.2.2.1, .int v0.2.2.2.2.2.2])), (a1, .inr (4, [.ref a2, .int v0.1.2.1, .int v0.1.2.2])), (a2, .inl (ca 0, 512, .inl v0.1.1)), (d0, .inr (7, [.ref d1, .ref d2, .ref d3, .ref d4, .int v2.2.2.2.2])), (d1, .inl (ca 0, 9, .inl v2.1))] → va_S A s.heap H locs → lv_has ls 4 [(0, .ref a0), (2, .ref d0)] → W p l e ({ frames := 3, cells := 0, slots := 0, locals := 61 } : Room) s m args below meth c H locs 0 0 Q (F0 m 40 ls []) := by
    intro v0 hf H locs ls hP hD hS hl
    unfold fc_X3_feed_40 at hf
    refine lv_aload_n hx hb dX3_feed_40 rfl (lv_at hl 0 rfl) ?_
    refine lv_dup hx hb dX3_feed_41 rfl ?_
    refine va_get (C := RX3) (T := TX3) (N := 7) hx hb hts i3 hown hK hP 0 rfl rfl 2 (Nat.le_of_ble_eq_true rfl) w2 (fun _ h9 => h9) rfl dX3_feed_42 ?_
    refine lv_iconst (v := 1) hx hb dX3_feed_45 rfl ?_
    refine lv_iadd hx hb dX3_feed_46 ?_
    refine xnm hf (fun x_3 hf => ?_)
    refine xput (C := RX3) (T := TX3) (N := 7) (wx := [(a0, .inr (3, [.ref a1, .int v0.2.1, .int x_3, .int v0.2.2.2.1, .int v0.2.2.2.2.1, .int v0.2.2.2.2.2.1, .int v0.2.2.2.2.2.2])), (a1, .inr (4, [.ref a2, .int v0.1.2.1, .int v0.1.2.2])), (a2, .inl (ca 0, 512, .inl v0.1.1)), (d0, .inr (7, [.ref d1, .ref d2, .ref d3, .ref d4, .int v2.2.2.2.2])), (d1, .inl (ca 0, 9, .inl v2.1))]) hx hb hts i3 tyX3 tyX3_ok nmX3 hown hK hP hD hS 0 rfl rfl 2 (Nat.le_of_ble_eq_true rfl) w2 (fun _ h9 => h9) rfl rfl rfl rfl (Nat.le_of_ble_eq_true rfl) dX3_feed_47 rfl (fun H locs hP hD hS => ?_)
    refine lv_aload_n hx hb dX3_feed_50 rfl (lv_at hl 0 rfl) ?_
    refine va_get (C := RX3) (T := TX3) (N := 7) hx hb hts i3 hown hK hP 0 rfl rfl 2 (Nat.le_of_ble_eq_true rfl) w2 (fun _ h9 => h9) rfl dX3_feed_51 ?_
    refine lv_aload_n hx hb dX3_feed_54 rfl (lv_at hl 1 rfl) ?_
    refine lv_iconst (v := 4) hx hb dX3_feed_55 rfl ?_
    obtain ⟨r_4, hc4, hf⟩ := bnd1_el hf
    refine xV_I (As := [.int (4 : Int32)]) (wx := [(a0, .inr (3, [.ref a1, .int v0.2.1, .int x_3, .int v0.2.2.2.1, .int v0.2.2.2.2.1, .int v0.2.2.2.2.2.1, .int v0.2.2.2.2.2.2])), (a1, .inr (4, [.ref a2, .int v0.1.2.1, .int v0.1.2.2])), (a2, .inl (ca 0, 512, .inl v0.1.1)), (d0, .inr (7, [.ref d1, .ref d2, .ref d3, .ref d4, .int v2.2.2.2.2])), (d1, .inl (ca 0, 9, .inl v2.1))]) ⟨hx, hb, hml, hown, hts⟩ (c_X7_valueOf l D ca zz d0 d1 d2 d3 d4 _ v2 (4 : Int32) r_4 hc4) (cwV 1 hts (gV gw_3_213 gw_2_15 gw_2_16 gw_1_3 gw_2_17) rfl rfl rfl (by decide +kernel) ⟨(Nat.le_of_ble_eq_true rfl), (Nat.le_of_ble_eq_true rfl)⟩) hK hN hZ hA hP hD hS [3, 4] rfl rfl rfl rfl 3 rfl rfl hl.1 rfl (Nat.le_of_ble_eq_true rfl) dX3_feed_56 ⟨Nat.zero_le _, Nat.zero_le _⟩ rfl (fun H locs hP hD hS => ?_)
    refine xc_lt (tgt := 80) hx hb dX3_feed_59 (by decide) hf (fun hf => ?_) (fun hf => ?_)
    · cases hf
      exact rt_V hx hb hr hlocks hK hP hD hS hQ rfl dX3_feed_80
    · refine lv_aload_n hx hb dX3_feed_62 rfl (lv_at hl 0 rfl) ?_
      refine lv_aload_n hx hb dX3_feed_63 rfl (lv_at hl 1 rfl) ?_
      obtain ⟨r_5, hc5, hf⟩ := bnd1_el hf
      refine xV_I (As := []) (wx := [(a0, .inr (3, [.ref a1, .int v0.2.1, .int x_3, .int v0.2.2.2.1, .int v0.2.2.2.2.1, .int v0.2.2.2.2.2.1, .int v0.2.2.2.2.2.2])), (a1, .inr (4, [.ref a2, .int v0.1.2.1, .int v0.1.2.2])), (a2, .inl (ca 0, 512, .inl v0.1.1)), (d0, .inr (7, [.ref d1, .ref d2, .ref d3, .ref d4, .int v2.2.2.2.2])), (d1, .inl (ca 0, 9, .inl v2.1))]) ⟨hx, hb, hml, hown, hts⟩ (c_X7_yielded l D ca zz d0 d1 d2 d3 d4 _ v2 r_5 hc5) (cwV 0 hts (gV gw_3_214 gw_3_215 gw_3_216 gw_1_3 gw_3_217) rfl rfl rfl (by decide +kernel) ⟨(Nat.le_of_ble_eq_true rfl), (Nat.le_of_ble_eq_true rfl)⟩) hK hN hZ hA hP hD hS [3, 4] rfl rfl rfl rfl 3 rfl rfl hl.1 rfl (Nat.le_of_ble_eq_true rfl) dX3_feed_64 ⟨Nat.zero_le _, Nat.zero_le _⟩ rfl (fun H locs hP hD hS => ?_)
      obtain ⟨u_6, hc6, hf⟩ := bnd1_el hf
      refine xV_V (As := [.int r_5]) (wx := [(a0, .inr (3, [.ref a1, .int u_6.2.1, .int u_6.2.2.1, .int u_6.2.2.2.1, .int u_6.2.2.2.2.1, .int u_6.2.2.2.2.2.1, .int u_6.2.2.2.2.2.2])), (a1, .inr (4, [.ref a2, .int u_6.1.2.1, .int u_6.1.2.2])), (a2, .inl (ca 0, 512, .inl u_6.1.1)), (d0, .inr (7, [.ref d1, .ref d2, .ref d3, .ref d4, .int v2.2.2.2.2])), (d1, .inl (ca 0, 9, .inl v2.1))]) ⟨hx, hb, hml, hown, hts⟩ (c_X3_fillFrom l D ca zz a0 a1 a2 _ ((v0.1, v0.2.1, x_3, v0.2.2.2)) r_5 u_6 hc6) (cwV 1 hts (gV gw_3_223 gw_3_225 gw_s_1_10 gw_1_7 gw_3_226) rfl rfl rfl (by decide +kernel) ⟨(Nat.le_of_ble_eq_true rfl), (Nat.le_of_ble_eq_true rfl)⟩) hK hN hZ hA hP hD hS [0, 1, 2] rfl rfl rfl rfl 0 rfl rfl hl.1 rfl (Nat.le_of_ble_eq_true rfl) dX3_feed_67 ⟨Nat.zero_le _, Nat.zero_le _⟩ rfl (fun H locs hP hD hS => ?_)
      refine lv_aload_n hx hb dX3_feed_70 rfl (lv_at hl 0 rfl) ?_
      refine lv_iconst (v := 0) hx hb dX3_feed_71 rfl ?_
      refine xput (C := RX3) (T := TX3) (N := 7) (wx := [(a0, .inr (3, [.ref a1, .int (0 : Int32), .int u_6.2.2.1, .int u_6.2.2.2.1, .int u_6.2.2.2.2.1, .int u_6.2.2.2.2.2.1, .int u_6.2.2.2.2.2.2])), (a1, .inr (4, [.ref a2, .int u_6.1.2.1, .int u_6.1.2.2])), (a2, .inl (ca 0, 512, .inl u_6.1.1)), (d0, .inr (7, [.ref d1, .ref d2, .ref d3, .ref d4, .int v2.2.2.2.2])), (d1, .inl (ca 0, 9, .inl v2.1))]) hx hb hts i3 tyX3 tyX3_ok nmX3 hown hK hP hD hS 0 rfl rfl 1 (Nat.le_of_ble_eq_true rfl) w0 (fun _ h9 => h9) rfl rfl rfl rfl (Nat.le_of_ble_eq_true rfl) dX3_feed_72 rfl (fun H locs hP hD hS => ?_)
      refine lv_aload_n hx hb dX3_feed_75 rfl (lv_at hl 0 rfl) ?_
      refine lv_iconst (v := 0) hx hb dX3_feed_76 rfl ?_
      refine xput (C := RX3) (T := TX3) (N := 7) (wx := [(a0, .inr (3, [.ref a1, .int (0 : Int32), .int (0 : Int32), .int u_6.2.2.2.1, .int u_6.2.2.2.2.1, .int u_6.2.2.2.2.2.1, .int u_6.2.2.2.2.2.2])), (a1, .inr (4, [.ref a2, .int u_6.1.2.1, .int u_6.1.2.2])), (a2, .inl (ca 0, 512, .inl u_6.1.1)), (d0, .inr (7, [.ref d1, .ref d2, .ref d3, .ref d4, .int v2.2.2.2.2])), (d1, .inl (ca 0, 9, .inl v2.1))]) hx hb hts i3 tyX3 tyX3_ok nmX3 hown hK hP hD hS 0 rfl rfl 2 (Nat.le_of_ble_eq_true rfl) w2 (fun _ h9 => h9) rfl rfl rfl rfl (Nat.le_of_ble_eq_true rfl) dX3_feed_77 rfl (fun H locs hP hD hS => ?_)
      cases hf
      exact rt_V hx hb hr hlocks hK hP hD hS hQ rfl dX3_feed_80
  unfold f_X3_feed at hf
  refine lv_aload_n hx hb dX3_feed_0 rfl (lv_at hl 0 rfl) ?_
  refine va_get (C := RX3) (T := TX3) (N := 7) hx hb hts i3 hown hK hP 0 rfl rfl 1 (Nat.le_of_ble_eq_true rfl) w0 (fun _ h9 => h9) rfl dX3_feed_1 ?_
  refine lv_bipush (v := 15) hx hb dX3_feed_4 rfl ?_
  refine lv_iushr (v := jushr v0.2.1 (15 : Int32)) hx hb dX3_feed_6 rfl ?_
  refine lv_iconst (v := 1) hx hb dX3_feed_7 rfl ?_
  refine lv_iand hx hb dX3_feed_8 ?_
  refine xnm hf (fun x_1 hf => ?_)
  refine lv_istore_n (lv' := [(3, .int x_1), (0, .ref a0), (1, .int p1), (2, .ref d0)]) hx hb dX3_feed_9 rfl hl (Nat.le_of_ble_eq_true rfl) rfl (fun ls hl => ?_)
  refine lv_aload_n hx hb dX3_feed_10 rfl (lv_at hl 1 rfl) ?_
  refine lv_aload_n hx hb dX3_feed_11 rfl (lv_at hl 1 rfl) ?_
  refine va_get (C := RX3) (T := TX3) (N := 7) hx hb hts i3 hown hK hP 0 rfl rfl 1 (Nat.le_of_ble_eq_true rfl) w0 (fun _ h9 => h9) rfl dX3_feed_12 ?_
  refine lv_iconst (v := 1) hx hb dX3_feed_15 rfl ?_
  refine lv_ishl hx hb dX3_feed_16 ?_
  refine lv_ldc hx hb hown w1 dX3_feed_17 ?_
  refine lv_iand hx hb dX3_feed_19 ?_
  refine xnm hf (fun x_2 hf => ?_)
  refine xput (C := RX3) (T := TX3) (N := 7) (wx := [(a0, .inr (3, [.ref a1, .int x_2, .int v0.2.2.1, .int v0.2.2.2.1, .int v0.2.2.2.2.1, .int v0.2.2.2.2.2.1, .int v0.2.2.2.2.2.2])), (a1, .inr (4, [.ref a2, .int v0.1.2.1, .int v0.1.2.2])), (a2, .inl (ca 0, 512, .inl v0.1.1)), (d0, .inr (7, [.ref d1, .ref d2, .ref d3, .ref d4, .int v2.2.2.2.2])), (d1, .inl (ca 0, 9, .inl v2.1))]) hx hb hts i3 tyX3 tyX3_ok nmX3 hown hK hP hD hS 0 rfl rfl 1 (Nat.le_of_ble_eq_true rfl) w0 (fun _ h9 => h9) rfl rfl rfl rfl (Nat.le_of_ble_eq_true rfl) dX3_feed_20 rfl (fun H locs hP hD hS => ?_)
  refine lv_iload_n hx hb dX3_feed_23 rfl (lv_at hl 0 rfl) ?_
  refine lv_iload_n hx hb dX3_feed_24 rfl (lv_at hl 2 rfl) ?_
  refine xc_eq (tgt := 40) hx hb dX3_feed_25 (by decide) hf (fun hf => ?_) (fun hf => ?_)
  · exact b40 ((v0.1, x_2, v0.2.2)) hf _ _ _ hP hD hS (lv_sub hl [1, 3] rfl)
  · refine lv_aload_n hx hb dX3_feed_28 rfl (lv_at hl 1 rfl) ?_
    refine lv_dup hx hb dX3_feed_29 rfl ?_
    refine va_get (C := RX3) (T := TX3) (N := 7) hx hb hts i3 hown hK hP 0 rfl rfl 1 (Nat.le_of_ble_eq_true rfl) w0 (fun _ h9 => h9) rfl dX3_feed_30 ?_
    refine lv_sipush (v := 4129) hx hb dX3_feed_33 rfl ?_
    refine lv_ixor hx hb dX3_feed_36 ?_
    refine xnm hf (fun x_7 hf => ?_)
    refine xput (C := RX3) (T := TX3) (N := 7) (wx := [(a0, .inr (3, [.ref a1, .int x_7, .int v0.2.2.1, .int v0.2.2.2.1, .int v0.2.2.2.2.1, .int v0.2.2.2.2.2.1, .int v0.2.2.2.2.2.2])), (a1, .inr (4, [.ref a2, .int v0.1.2.1, .int v0.1.2.2])), (a2, .inl (ca 0, 512, .inl v0.1.1)), (d0, .inr (7, [.ref d1, .ref d2, .ref d3, .ref d4, .int v2.2.2.2.2])), (d1, .inl (ca 0, 9, .inl v2.1))]) hx hb hts i3 tyX3 tyX3_ok nmX3 hown hK hP hD hS 0 rfl rfl 1 (Nat.le_of_ble_eq_true rfl) w0 (fun _ h9 => h9) rfl rfl rfl rfl (Nat.le_of_ble_eq_true rfl) dX3_feed_37 rfl (fun H locs hP hD hS => ?_)
    exact b40 ((v0.1, x_7, v0.2.2)) hf _ _ _ hP hD hS (lv_sub hl [1, 3] rfl)
abbrev wq_X10_hear : List Cond := Cond.code yX10_hear cX10_hear 3 (some .boolean) :: GL
set_option maxHeartbeats 4000000 in
set_option maxRecDepth 100000 in
theorem c_X10_hear (l : Launch) (D : va_G) (ca : Nat → ClassId) (zz : Nat → Nat) (a0 a1 a2 a3 a4 a5 a6 a7 a8 a9 a10 a11 a12 a13 a14 a15 a16 a17 a18 : Nat) (sz : Nat) (v0 : V10) (p1 : Int32) (r : Int32) (v0' : V10) (hf : f_X10_hear v0 p1 = some (r, v0')) : Met l yX10_hear wq_X10_hear ({ frames := 4, cells := 0, slots := 0, locals := 84 } : Room) (PR D ca zz [.ref a0, .int p1] sz [(a0, .inr (10, [.ref a1, .ref a6, .ref a8, .ref a9, .ref a10, .ref a13, .ref a15, .ref a18, .int v0.2.2.2.2.2.2.2.2.1, .int v0.2.2.2.2.2.2.2.2.2.1, .int v0.2.2.2.2.2.2.2.2.2.2.1, .int v0.2.2.2.2.2.2.2.2.2.2.2.1, .int v0.2.2.2.2.2.2.2.2.2.2.2.2.1, .int v0.2.2.2.2.2.2.2.2.2.2.2.2.2])), (a1, .inr (7, [.ref a2, .ref a3, .ref a4, .ref a5, .int v0.1.2.2.2.2])), (a2, .inl (ca 0, 9, .inl v0.1.1)), (a6, .inr (2, [.ref a7, .int v0.2.1.2.1, .int v0.2.1.2.2.1, .int v0.2.1.2.2.2.1, .int v0.2.1.2.2.2.2])), (a9, .inr (1, [.int v0.2.2.2.1.1, .int v0.2.2.2.1.2.1, .int v0.2.2.2.1.2.2.1, .int v0.2.2.2.1.2.2.2.1, .int v0.2.2.2.1.2.2.2.2.1, .int v0.2.2.2.1.2.2.2.2.2])), (a10, .inr (3, [.ref a11, .int v0.2.2.2.2.1.2.1, .int v0.2.2.2.2.1.2.2.1, .int v0.2.2.2.2.1.2.2.2.1, .int v0.2.2.2.2.1.2.2.2.2.1, .int v0.2.2.2.2.1.2.2.2.2.2.1, .int v0.2.2.2.2.1.2.2.2.2.2.2])), (a11, .inr (4, [.ref a12, .int v0.2.2.2.2.1.1.2.1, .int v0.2.2.2.2.1.1.2.2])), (a12, .inl (ca 0, 512, .inl v0.2.2.2.2.1.1.1)), (a13, .inr (4, [.ref a14, .int v0.2.2.2.2.2.1.2.1, .int v0.2.2.2.2.2.1.2.2])), (a14, .inl (ca 0, 512, .inl v0.2.2.2.2.2.1.1)), (a15, .inr (6, [.ref a16, .ref a17, .int v0.2.2.2.2.2.2.1.2.2])), (a16, .inl (ca 0, 15, .inl v0.2.2.2.2.2.2.1.1)), (a17, .inl (ca 0, 15, .inl v0.2.2.2.2.2.2.1.2.1))]) (QI D ca r [(a0, .inr (10, [.ref a1, .ref a6, .ref a8, .ref a9, .ref a10, .ref a13, .ref a15, .ref a18, .int v0'.2.2.2.2.2.2.2.2.1, .int v0'.2.2.2.2.2.2.2.2.2.1, .int v0'.2.2.2.2.2.2.2.2.2.2.1, .int v0'.2.2.2.2.2.2.2.2.2.2.2.1, .int v0'.2.2.2.2.2.2.2.2.2.2.2.2.1, .int v0'.2.2.2.2.2.2.2.2.2.2.2.2.2])), (a1, .inr (7, [.ref a2, .ref a3, .ref a4, .ref a5, .int v0'.1.2.2.2.2])), (a2, .inl (ca 0, 9, .inl v0'.1.1)), (a6, .inr (2, [.ref a7, .int v0'.2.1.2.1, .int v0'.2.1.2.2.1, .int v0'.2.1.2.2.2.1, .int v0'.2.1.2.2.2.2])), (a9, .inr (1, [.int v0'.2.2.2.1.1, .int v0'.2.2.2.1.2.1, .int v0'.2.2.2.1.2.2.1, .int v0'.2.2.2.1.2.2.2.1, .int v0'.2.2.2.1.2.2.2.2.1, .int v0'.2.2.2.1.2.2.2.2.2])), (a10, .inr (3, [.ref a11, .int v0'.2.2.2.2.1.2.1, .int v0'.2.2.2.2.1.2.2.1, .int v0'.2.2.2.2.1.2.2.2.1, .int v0'.2.2.2.2.1.2.2.2.2.1, .int v0'.2.2.2.2.1.2.2.2.2.2.1, .int v0'.2.2.2.2.1.2.2.2.2.2.2])), (a11, .inr (4, [.ref a12, .int v0'.2.2.2.2.1.1.2.1, .int v0'.2.2.2.2.1.1.2.2])), (a12, .inl (ca 0, 512, .inl v0'.2.2.2.2.1.1.1)), (a13, .inr (4, [.ref a14, .int v0'.2.2.2.2.2.1.2.1, .int v0'.2.2.2.2.2.1.2.2])), (a14, .inl (ca 0, 512, .inl v0'.2.2.2.2.2.1.1)), (a15, .inr (6, [.ref a16, .ref a17, .int v0'.2.2.2.2.2.2.1.2.2])), (a16, .inl (ca 0, 15, .inl v0'.2.2.2.2.2.2.1.1)), (a17, .inl (ca 0, 15, .inl v0'.2.2.2.2.2.2.1.2.1))] (va_A [(a0, .inr (10, [.ref a1, .ref a6, .ref a8, .ref a9, .ref a10, .ref a13, .ref a15, .ref a18, .int v0.2.2.2.2.2.2.2.2.1, .int v0.2.2.2.2.2.2.2.2.2.1, .int v0.2.2.2.2.2.2.2.2.2.2.1, .int v0.2.2.2.2.2.2.2.2.2.2.2.1, .int v0.2.2.2.2.2.2.2.2.2.2.2.2.1, .int v0.2.2.2.2.2.2.2.2.2.2.2.2.2])), (a1, .inr (7, [.ref a2, .ref a3, .ref a4, .ref a5, .int v0.1.2.2.2.2])), (a2, .inl (ca 0, 9, .inl v0.1.1)), (a6, .inr (2, [.ref a7, .int v0.2.1.2.1, .int v0.2.1.2.2.1, .int v0.2.1.2.2.2.1, .int v0.2.1.2.2.2.2])), (a9, .inr (1, [.int v0.2.2.2.1.1, .int v0.2.2.2.1.2.1, .int v0.2.2.2.1.2.2.1, .int v0.2.2.2.1.2.2.2.1, .int v0.2.2.2.1.2.2.2.2.1, .int v0.2.2.2.1.2.2.2.2.2])), (a10, .inr (3, [.ref a11, .int v0.2.2.2.2.1.2.1, .int v0.2.2.2.2.1.2.2.1, .int v0.2.2.2.2.1.2.2.2.1, .int v0.2.2.2.2.1.2.2.2.2.1, .int v0.2.2.2.2.1.2.2.2.2.2.1, .int v0.2.2.2.2.1.2.2.2.2.2.2])), (a11, .inr (4, [.ref a12, .int v0.2.2.2.2.1.1.2.1, .int v0.2.2.2.2.1.1.2.2])), (a12, .inl (ca 0, 512, .inl v0.2.2.2.2.1.1.1)), (a13, .inr (4, [.ref a14, .int v0.2.2.2.2.2.1.2.1, .int v0.2.2.2.2.2.1.2.2])), (a14, .inl (ca 0, 512, .inl v0.2.2.2.2.2.1.1)), (a15, .inr (6, [.ref a16, .ref a17, .int v0.2.2.2.2.2.2.1.2.2])), (a16, .inl (ca 0, 15, .inl v0.2.2.2.2.2.2.1.1)), (a17, .inl (ca 0, 15, .inl v0.2.2.2.2.2.2.1.2.1))] sz)) 0 0 (va_A [(a0, .inr (10, [.ref a1, .ref a6, .ref a8, .ref a9, .ref a10, .ref a13, .ref a15, .ref a18, .int v0.2.2.2.2.2.2.2.2.1, .int v0.2.2.2.2.2.2.2.2.2.1, .int v0.2.2.2.2.2.2.2.2.2.2.1, .int v0.2.2.2.2.2.2.2.2.2.2.2.1, .int v0.2.2.2.2.2.2.2.2.2.2.2.2.1, .int v0.2.2.2.2.2.2.2.2.2.2.2.2.2])), (a1, .inr (7, [.ref a2, .ref a3, .ref a4, .ref a5, .int v0.1.2.2.2.2])), (a2, .inl (ca 0, 9, .inl v0.1.1)), (a6, .inr (2, [.ref a7, .int v0.2.1.2.1, .int v0.2.1.2.2.1, .int v0.2.1.2.2.2.1, .int v0.2.1.2.2.2.2])), (a9, .inr (1, [.int v0.2.2.2.1.1, .int v0.2.2.2.1.2.1, .int v0.2.2.2.1.2.2.1, .int v0.2.2.2.1.2.2.2.1, .int v0.2.2.2.1.2.2.2.2.1, .int v0.2.2.2.1.2.2.2.2.2])), (a10, .inr (3, [.ref a11, .int v0.2.2.2.2.1.2.1, .int v0.2.2.2.2.1.2.2.1, .int v0.2.2.2.2.1.2.2.2.1, .int v0.2.2.2.2.1.2.2.2.2.1, .int v0.2.2.2.2.1.2.2.2.2.2.1, .int v0.2.2.2.2.1.2.2.2.2.2.2])), (a11, .inr (4, [.ref a12, .int v0.2.2.2.2.1.1.2.1, .int v0.2.2.2.2.1.1.2.2])), (a12, .inl (ca 0, 512, .inl v0.2.2.2.2.1.1.1)), (a13, .inr (4, [.ref a14, .int v0.2.2.2.2.2.1.2.1, .int v0.2.2.2.2.2.1.2.2])), (a14, .inl (ca 0, 512, .inl v0.2.2.2.2.2.1.1)), (a15, .inr (6, [.ref a16, .ref a17, .int v0.2.2.2.2.2.2.1.2.2])), (a16, .inl (ca 0, 15, .inl v0.2.2.2.2.2.2.1.1)), (a17, .inl (ca 0, 15, .inl v0.2.2.2.2.2.2.1.2.1))] sz) := by
  refine en (y := yX10_hear) (wsm := wq_X10_hear) (av := [.ref a0, .int p1]) (cc := cX10_hear) (maxL := 3) (ret := (some .boolean)) (Qf := fun A => QI D ca r [(a0, .inr (10, [.ref a1, .ref a6, .ref a8, .ref a9, .ref a10, .ref a13, .ref a15, .ref a18, .int v0'.2.2.2.2.2.2.2.2.1, .int v0'.2.2.2.2.2.2.2.2.2.1, .int v0'.2.2.2.2.2.2.2.2.2.2.1, .int v0'.2.2.2.2.2.2.2.2.2.2.2.1, .int v0'.2.2.2.2.2.2.2.2.2.2.2.2.1, .int v0'.2.2.2.2.2.2.2.2.2.2.2.2.2])), (a1, .inr (7, [.ref a2, .ref a3, .ref a4, .ref a5, .int v0'.1.2.2.2.2])), (a2, .inl (ca 0, 9, .inl v0'.1.1)), (a6, .inr (2, [.ref a7, .int v0'.2.1.2.1, .int v0'.2.1.2.2.1, .int v0'.2.1.2.2.2.1, .int v0'.2.1.2.2.2.2])), (a9, .inr (1, [.int v0'.2.2.2.1.1, .int v0'.2.2.2.1.2.1, .int v0'.2.2.2.1.2.2.1, .int v0'.2.2.2.1.2.2.2.1, .int v0'.2.2.2.1.2.2.2.2.1, .int v0'.2.2.2.1.2.2.2.2.2])), (a10, .inr (3, [.ref a11, .int v0'.2.2.2.2.1.2.1, .int v0'.2.2.2.2.1.2.2.1, .int v0'.2.2.2.2.1.2.2.2.1, .int v0'.2.2.2.2.1.2.2.2.2.1, .int v0'.2.2.2.2.1.2.2.2.2.2.1, .int v0'.2.2.2.2.1.2.2.2.2.2.2])), (a11, .inr (4, [.ref a12, .int v0'.2.2.2.2.1.1.2.1, .int v0'.2.2.2.2.1.1.2.2])), (a12, .inl (ca 0, 512, .inl v0'.2.2.2.2.1.1.1)), (a13, .inr (4, [.ref a14, .int v0'.2.2.2.2.2.1.2.1, .int v0'.2.2.2.2.2.1.2.2])), (a14, .inl (ca 0, 512, .inl v0'.2.2.2.2.2.1.1)), (a15, .inr (6, [.ref a16, .ref a17, .int v0'.2.2.2.2.2.2.1.2.2])), (a16, .inl (ca 0, 15, .inl v0'.2.2.2.2.2.2.1.1)), (a17, .inl (ca 0, 15, .inl v0'.2.2.2.2.2.2.1.2.1))] A) (by decide) rfl (Nat.le_of_ble_eq_true rfl) ?_
  intro p e s m args below meth c A Q ls hx hb hr hml hown hts hlocks hnm hA hN hZ hK hQ hP hD hS hl
  have w0 := hts _ (List.mem_cons_of_mem _ gw_2_85)
  have w1 := hts _ (List.mem_cons_of_mem _ gw_2_91)
  have w2 := hts _ (List.mem_cons_of_mem _ gw_2_92)
  have w3 := hts _ (List.mem_cons_of_mem _ gw_2_79)
  have w4 := hts _ (List.mem_cons_of_mem _ gw_2_81)
  have w5 := hts _ (List.mem_cons_of_mem _ gw_2_76)
  have w6 := hts _ (List.mem_cons_of_mem _ gw_2_71)
  have w7 := hts _ (List.mem_cons_of_mem _ gw_2_73)
  have w8 := hts _ (List.mem_cons_of_mem _ gw_2_77)
  have nw20 := NW.use (args := args) (w := .fieldLinkNest RX10 121 "NoiseWatch$Queue" "size" "I" "NoiseWatch") hN 20 rfl
  have i10 : ∀ w ∈ u_ws RX10 TX10 14, w ∈ wq_X10_hear := fun w h => List.mem_cons_of_mem _ (inX10 w h)
  have i4 : ∀ w ∈ u_ws RX4 TX4 3, w ∈ wq_X10_hear := fun w h => List.mem_cons_of_mem _ (inX4 w h)
  have b58 : ∀ (v0 : V10) (x1 : Int32), fc_X10_hear_58 v0 x1 = some (r, v0') → ∀ (H : Heap) (locs : List Loc) (ls : Array Slot), va_P D vwCl [(a0, .inr (10, [.ref a1, .ref a6, .ref a8, .ref a9, .ref a10, .ref a13, .ref a15, .ref a18, .int v0.2.2.2.2.2.2.2.2.1, .int v0.2.2.2.2.2.2.2.2.2.1, .int v0.2.2.2.2.2.2.2.2.2.2.1, .int v0.2.2.2.2.2.2.2.2.2.2.2.1, .int v0.2.2.2.2.2.2.2.2.2.2.2.2.1, .int v0.2.2.2.2.2.2.2.2.2.2.2.2.2])), (a1, .inr (7, [.ref a2, .ref a3, .ref a4, .ref a5, .int v0.1.2.2.2.2])), (a2, .inl (ca 0, 9, .inl v0.1.1)), (a6, .inr (2, [.ref a7, .int v0.2.1.2.1, .int v0.2.1.2.2.1, .int v0.2.1.2.2.2.1, .int v0.2.1.2.2.2.2])), (a9, .inr (1, [.int v0.2.2.2.1.1, .int v0.2.2.2.1.2.1, .int v0.2.2.2.1.2.2.1, .int v0.2.2.2.1.2.2.2.1, .int v0.2.2.2.1.2.2.2.2.1, .int v0.2.2.2.1.2.2.2.2.2])), (a10, .inr (3, [.ref a11, .int v0.2.2.2.2.1.2.1, .int v0.2.2.2.2.1.2.2.1, .int v0.2.2.2.2.1.2.2.2.1, .int v0.2.2.2.2.1.2.2.2.2.1, .int v0.2.2.2.2.1.2.2.2.2.2.1, .int v0.2.2.2.2.1.2.2.2.2.2.2])), (a11, .inr (4, [.ref a12, .int v0.2.2.2.2.1.1.2.1, .int v0.2.2.2.2.1.1.2.2])), (a12, .inl (ca 0, 512, .inl v0.2.2.2.2.1.1.1)), (a13, .inr (4, [.ref a14, .int v0.2.2.2.2.2.1.2.1, .int v0.2.2.2.2.2.1.2.2])), (a14, .inl (ca 0, 512, .inl v0.2.2.2.2.2.1.1)), (a15, .inr (6, [.ref a16, .ref a17, .int v0.2.2.2.2.2.2.1.2.2])), (a16, .inl (ca 0, 15, .inl v0.2.2.2.2.2.2.1.1)), (a17, .inl (ca 0, 15, .inl v0.2.2.2.2.2.2.1.2.1))] H → va_D A [(a0, .inr (10, [.ref a1, .ref a6, .ref a8, .ref a9, .ref a10, .ref a13, .ref a15, .ref a18, .int v0.2.2.2.2.2.2.2.2.1, .int v0.2.2.2.2.2.2.2.2.2.1, .int v0.2.2.2.2.2.2.2.2.2.2.1, .int v0.2.2.2.2.2.2.2.2.2.2.2.1, .int v0.2.2.2.2.2.2.2.2.2.2.2.2.1, .int v0.2.2.2.2.2.2.2.2.2.2.2.2.2])), (a1, .inr (7, [.ref a2, .ref a3, .ref a4, .ref a5, .int v0.1.2.2.2.2])), (a2, .inl (ca 0, 9, .inl v0.1.1)), (a6, .inr (2, [.ref a7, .int v0.2.1.2.1, .int v0.2.1.2.2.1, .int v0.2.1.2.2.2.1, .int v0.2.1.2.2.2.2])), (a9, .inr (1, [.int v0.2.2.2.1.1, .int v0.2.2.2.1.2.1, .int v0.2.2.2.1.2.2.1, .int v0.2.2.2.1.2.2.2.1, .int v0.2.2.2.1.2.2.2.2.1, .int v0.2.2.2.1.2.2.2.2.2])), (a10, .inr (3, [.ref a11, .int v0.2.2.2.2.1.2.1, .int v0.2.2.2.2.1.2.2.1, .int v0.2.2.2.2.1.2.2.2.1, .int v0.2.2.2.2.1.2.2.2.2.1, .int v0.2.2.2.2.1.2.2.2.2.2.1, .int v0.2.2.2.2.1.2.2.2.2.2.2])), (a11, .inr (4, [.ref a12, .int v0.2.2.2.2.1.1.2.1, .int v0.2.2.2.2.1.1.2.2])), (a12, .inl (ca 0, 512, .inl v0.2.2.2.2.1.1.1)), (a13, .inr (4, [.ref a14, .int v0.2.2.2.2.2.1.2.1, .int v0.2.2.2.2.2.1.2.2])), (a14, .inl (ca 0, 512, .inl v0.2.2.2.2.2.1.1)), (a15, .inr (6, [.ref a16, .ref a17, .int v0.2.2.2.2.2.2.1.2.2])), (a16, .inl (ca 0, 15, .inl v0.2.2.2.2.2.2.1.1)), (a17, .inl (ca 0, 15, .inl v0.2.2.2.2.2.2.1.2.1))] → va_S A s.heap H locs → lv_has ls 3 [(0, .ref a0), (1, .int x1)] → W p l e ({ frames := 4, cells := 0, slots := 0, locals := 84 } : Room) s m args below meth c H locs 0 0 Q (F0 m 58 ls []) := by
    intro v0 x1 hf H locs ls hP hD hS hl
    unfold fc_X10_hear_58 at hf
    refine lv_aload_n hx hb dX10_hear_58 rfl (lv_at hl 0 rfl) ?_
    refine va_get (C := RX10) (T := TX10) (N := 14) hx hb hts i10 hown hK hP 0 rfl rfl 5 (Nat.le_of_ble_eq_true rfl) w3 (fun _ h9 => h9) rfl dX10_hear_59 ?_
    refine lv_iload_n hx hb dX10_hear_62 rfl (lv_at hl 1 rfl) ?_
    obtain ⟨u_3, hc3, hf⟩ := bnd1_el hf
    refine xV_V (As := [.int x1]) (wx := [(a0, .inr (10, [.ref a1, .ref a6, .ref a8, .ref a9, .ref a10, .ref a13, .ref a15, .ref a18, .int v0.2.2.2.2.2.2.2.2.1, .int v0.2.2.2.2.2.2.2.2.2.1, .int v0.2.2.2.2.2.2.2.2.2.2.1, .int v0.2.2.2.2.2.2.2.2.2.2.2.1, .int v0.2.2.2.2.2.2.2.2.2.2.2.2.1, .int v0.2.2.2.2.2.2.2.2.2.2.2.2.2])), (a1, .inr (7, [.ref a2, .ref a3, .ref a4, .ref a5, .int v0.1.2.2.2.2])), (a2, .inl (ca 0, 9, .inl v0.1.1)), (a6, .inr (2, [.ref a7, .int v0.2.1.2.1, .int v0.2.1.2.2.1, .int v0.2.1.2.2.2.1, .int v0.2.1.2.2.2.2])), (a9, .inr (1, [.int v0.2.2.2.1.1, .int v0.2.2.2.1.2.1, .int v0.2.2.2.1.2.2.1, .int v0.2.2.2.1.2.2.2.1, .int v0.2.2.2.1.2.2.2.2.1, .int v0.2.2.2.1.2.2.2.2.2])), (a10, .inr (3, [.ref a11, .int v0.2.2.2.2.1.2.1, .int v0.2.2.2.2.1.2.2.1, .int v0.2.2.2.2.1.2.2.2.1, .int v0.2.2.2.2.1.2.2.2.2.1, .int v0.2.2.2.2.1.2.2.2.2.2.1, .int v0.2.2.2.2.1.2.2.2.2.2.2])), (a11, .inr (4, [.ref a12, .int v0.2.2.2.2.1.1.2.1, .int v0.2.2.2.2.1.1.2.2])), (a12, .inl (ca 0, 512, .inl v0.2.2.2.2.1.1.1)), (a13, .inr (4, [.ref a14, .int u_3.2.1, .int u_3.2.2])), (a14, .inl (ca 0, 512, .inl u_3.1)), (a15, .inr (6, [.ref a16, .ref a17, .int v0.2.2.2.2.2.2.1.2.2])), (a16, .inl (ca 0, 15, .inl v0.2.2.2.2.2.2.1.1)), (a17, .inl (ca 0, 15, .inl v0.2.2.2.2.2.2.1.2.1))]) ⟨hx, hb, hml, hown, hts⟩ (c_X4_append l D ca zz a13 a14 _ v0.2.2.2.2.2.1 x1 u_3 hc3) (cwV 1 hts (gV gw_3_188 gw_3_189 gw_3_190 gw_1_8 gw_3_191) rfl rfl rfl (by decide +kernel) ⟨(Nat.le_of_ble_eq_true rfl), (Nat.le_of_ble_eq_true rfl)⟩) hK hN hZ hA hP hD hS [8, 9] rfl rfl rfl rfl 8 rfl rfl hl.1 rfl (Nat.le_of_ble_eq_true rfl) dX10_hear_63 ⟨Nat.zero_le _, Nat.zero_le _⟩ rfl (fun H locs hP hD hS => ?_)
    refine lv_aload_n hx hb dX10_hear_66 rfl (lv_at hl 0 rfl) ?_
    refine va_get (C := RX10) (T := TX10) (N := 14) hx hb hts i10 hown hK hP 0 rfl rfl 6 (Nat.le_of_ble_eq_true rfl) w4 (fun _ h9 => h9) rfl dX10_hear_67 ?_
    refine lv_iload_n hx hb dX10_hear_70 rfl (lv_at hl 1 rfl) ?_
    obtain ⟨u_4, hc4, hf⟩ := bnd1_el hf
    refine xV_V (As := [.int x1]) (wx := [(a0, .inr (10, [.ref a1, .ref a6, .ref a8, .ref a9, .ref a10, .ref a13, .ref a15, .ref a18, .int v0.2.2.2.2.2.2.2.2.1, .int v0.2.2.2.2.2.2.2.2.2.1, .int v0.2.2.2.2.2.2.2.2.2.2.1, .int v0.2.2.2.2.2.2.2.2.2.2.2.1, .int v0.2.2.2.2.2.2.2.2.2.2.2.2.1, .int v0.2.2.2.2.2.2.2.2.2.2.2.2.2])), (a1, .inr (7, [.ref a2, .ref a3, .ref a4, .ref a5, .int v0.1.2.2.2.2])), (a2, .inl (ca 0, 9, .inl v0.1.1)), (a6, .inr (2, [.ref a7, .int v0.2.1.2.1, .int v0.2.1.2.2.1, .int v0.2.1.2.2.2.1, .int v0.2.1.2.2.2.2])), (a9, .inr (1, [.int v0.2.2.2.1.1, .int v0.2.2.2.1.2.1, .int v0.2.2.2.1.2.2.1, .int v0.2.2.2.1.2.2.2.1, .int v0.2.2.2.1.2.2.2.2.1, .int v0.2.2.2.1.2.2.2.2.2])), (a10, .inr (3, [.ref a11, .int v0.2.2.2.2.1.2.1, .int v0.2.2.2.2.1.2.2.1, .int v0.2.2.2.2.1.2.2.2.1, .int v0.2.2.2.2.1.2.2.2.2.1, .int v0.2.2.2.2.1.2.2.2.2.2.1, .int v0.2.2.2.2.1.2.2.2.2.2.2])), (a11, .inr (4, [.ref a12, .int v0.2.2.2.2.1.1.2.1, .int v0.2.2.2.2.1.1.2.2])), (a12, .inl (ca 0, 512, .inl v0.2.2.2.2.1.1.1)), (a13, .inr (4, [.ref a14, .int u_3.2.1, .int u_3.2.2])), (a14, .inl (ca 0, 512, .inl u_3.1)), (a15, .inr (6, [.ref a16, .ref a17, .int u_4.2.2])), (a16, .inl (ca 0, 15, .inl u_4.1)), (a17, .inl (ca 0, 15, .inl u_4.2.1))]) ⟨hx, hb, hml, hown, hts⟩ (c_X6_append l D ca zz a15 a16 a17 _ v0.2.2.2.2.2.2.1 x1 u_4 hc4) (cwV 1 hts (gV gw_3_192 gw_3_193 gw_3_194 gw_1_9 gw_3_195) rfl rfl rfl (by decide +kernel) ⟨(Nat.le_of_ble_eq_true rfl), (Nat.le_of_ble_eq_true rfl)⟩) hK hN hZ hA hP hD hS [10, 11, 12] rfl rfl rfl rfl 10 rfl rfl hl.1 rfl (Nat.le_of_ble_eq_true rfl) dX10_hear_71 ⟨Nat.zero_le _, Nat.zero_le _⟩ rfl (fun H locs hP hD hS => ?_)
    refine lv_aload_n hx hb dX10_hear_74 rfl (lv_at hl 0 rfl) ?_
    refine va_get (C := RX10) (T := TX10) (N := 14) hx hb hts i10 hown hK hP 0 rfl rfl 3 (Nat.le_of_ble_eq_true rfl) w5 (fun _ h9 => h9) rfl dX10_hear_75 ?_
    refine lv_iload_n hx hb dX10_hear_78 rfl (lv_at hl 1 rfl) ?_
    refine lv_aload_n hx hb dX10_hear_79 rfl (lv_at hl 0 rfl) ?_
    refine va_get (C := RX10) (T := TX10) (N := 14) hx hb hts i10 hown hK hP 0 rfl rfl 0 (Nat.le_of_ble_eq_true rfl) w6 (fun _ h9 => h9) rfl dX10_hear_80 ?_
    refine lv_iconst (v := 2) hx hb dX10_hear_83 rfl ?_
    obtain ⟨r_5, hc5, hf⟩ := bnd1_el hf
    refine xV_I (As := [.int (2 : Int32)]) (wx := [(a0, .inr (10, [.ref a1, .ref a6, .ref a8, .ref a9, .ref a10, .ref a13, .ref a15, .ref a18, .int v0.2.2.2.2.2.2.2.2.1, .int v0.2.2.2.2.2.2.2.2.2.1, .int v0.2.2.2.2.2.2.2.2.2.2.1, .int v0.2.2.2.2.2.2.2.2.2.2.2.1, .int v0.2.2.2.2.2.2.2.2.2.2.2.2.1, .int v0.2.2.2.2.2.2.2.2.2.2.2.2.2])), (a1, .inr (7, [.ref a2, .ref a3, .ref a4, .ref a5, .int v0.1.2.2.2.2])), (a2, .inl (ca 0, 9, .inl v0.1.1)), (a6, .inr (2, [.ref a7, .int v0.2.1.2.1, .int v0.2.1.2.2.1, .int v0.2.1.2.2.2.1, .int v0.2.1.2.2.2.2])), (a9, .inr (1, [.int v0.2.2.2.1.1, .int v0.2.2.2.1.2.1, .int v0.2.2.2.1.2.2.1, .int v0.2.2.2.1.2.2.2.1, .int v0.2.2.2.1.2.2.2.2.1, .int v0.2.2.2.1.2.2.2.2.2])), (a10, .inr (3, [.ref a11, .int v0.2.2.2.2.1.2.1, .int v0.2.2.2.2.1.2.2.1, .int v0.2.2.2.2.1.2.2.2.1, .int v0.2.2.2.2.1.2.2.2.2.1, .int v0.2.2.2.2.1.2.2.2.2.2.1, .int v0.2.2.2.2.1.2.2.2.2.2.2])), (a11, .inr (4, [.ref a12, .int v0.2.2.2.2.1.1.2.1, .int v0.2.2.2.2.1.1.2.2])), (a12, .inl (ca 0, 512, .inl v0.2.2.2.2.1.1.1)), (a13, .inr (4, [.ref a14, .int u_3.2.1, .int u_3.2.2])), (a14, .inl (ca 0, 512, .inl u_3.1)), (a15, .inr (6, [.ref a16, .ref a17, .int u_4.2.2])), (a16, .inl (ca 0, 15, .inl u_4.1)), (a17, .inl (ca 0, 15, .inl u_4.2.1))]) ⟨hx, hb, hml, hown, hts⟩ (c_X7_valueOf l D ca zz a1 a2 a3 a4 a5 _ v0.1 (2 : Int32) r_5 hc5) (cwV 1 hts (gV gw_2_14 gw_2_15 gw_2_16 gw_1_3 gw_2_17) rfl rfl rfl (by decide +kernel) ⟨(Nat.le_of_ble_eq_true rfl), (Nat.le_of_ble_eq_true rfl)⟩) hK hN hZ hA hP hD hS [1, 2] rfl rfl rfl rfl 1 rfl rfl hl.1 rfl (Nat.le_of_ble_eq_true rfl) dX10_hear_84 ⟨Nat.zero_le _, Nat.zero_le _⟩ rfl (fun H locs hP hD hS => ?_)
    obtain ⟨u_6, hc6, hf⟩ := bnd1_el hf
    refine xV_V (As := [.int x1, .int r_5]) (wx := [(a0, .inr (10, [.ref a1, .ref a6, .ref a8, .ref a9, .ref a10, .ref a13, .ref a15, .ref a18, .int v0.2.2.2.2.2.2.2.2.1, .int v0.2.2.2.2.2.2.2.2.2.1, .int v0.2.2.2.2.2.2.2.2.2.2.1, .int v0.2.2.2.2.2.2.2.2.2.2.2.1, .int v0.2.2.2.2.2.2.2.2.2.2.2.2.1, .int v0.2.2.2.2.2.2.2.2.2.2.2.2.2])), (a1, .inr (7, [.ref a2, .ref a3, .ref a4, .ref a5, .int v0.1.2.2.2.2])), (a2, .inl (ca 0, 9, .inl v0.1.1)), (a6, .inr (2, [.ref a7, .int v0.2.1.2.1, .int v0.2.1.2.2.1, .int v0.2.1.2.2.2.1, .int v0.2.1.2.2.2.2])), (a9, .inr (1, [.int u_6.1, .int u_6.2.1, .int u_6.2.2.1, .int u_6.2.2.2.1, .int u_6.2.2.2.2.1, .int u_6.2.2.2.2.2])), (a10, .inr (3, [.ref a11, .int v0.2.2.2.2.1.2.1, .int v0.2.2.2.2.1.2.2.1, .int v0.2.2.2.2.1.2.2.2.1, .int v0.2.2.2.2.1.2.2.2.2.1, .int v0.2.2.2.2.1.2.2.2.2.2.1, .int v0.2.2.2.2.1.2.2.2.2.2.2])), (a11, .inr (4, [.ref a12, .int v0.2.2.2.2.1.1.2.1, .int v0.2.2.2.2.1.1.2.2])), (a12, .inl (ca 0, 512, .inl v0.2.2.2.2.1.1.1)), (a13, .inr (4, [.ref a14, .int u_3.2.1, .int u_3.2.2])), (a14, .inl (ca 0, 512, .inl u_3.1)), (a15, .inr (6, [.ref a16, .ref a17, .int u_4.2.2])), (a16, .inl (ca 0, 15, .inl u_4.1)), (a17, .inl (ca 0, 15, .inl u_4.2.1))]) ⟨hx, hb, hml, hown, hts⟩ (c_X1_hear l D ca zz a9 _ v0.2.2.2.1 x1 r_5 u_6 hc6) (cwV 2 hts (gV gw_3_196 gw_3_197 gw_3_198 gw_1_6 gw_3_199) rfl rfl rfl (by decide +kernel) ⟨(Nat.le_of_ble_eq_true rfl), (Nat.le_of_ble_eq_true rfl)⟩) hK hN hZ hA hP hD hS [4] rfl rfl rfl rfl 4 rfl rfl hl.1 rfl (Nat.le_of_ble_eq_true rfl) dX10_hear_87 ⟨Nat.zero_le _, Nat.zero_le _⟩ rfl (fun H locs hP hD hS => ?_)
    refine lv_aload_n hx hb dX10_hear_90 rfl (lv_at hl 0 rfl) ?_
    refine va_get (C := RX10) (T := TX10) (N := 14) hx hb hts i10 hown hK hP 0 rfl rfl 1 (Nat.le_of_ble_eq_true rfl) w7 (fun _ h9 => h9) rfl dX10_hear_91 ?_
    refine lv_aload_n hx hb dX10_hear_94 rfl (lv_at hl 0 rfl) ?_
    refine va_get (C := RX10) (T := TX10) (N := 14) hx hb hts i10 hown hK hP 0 rfl rfl 3 (Nat.le_of_ble_eq_true rfl) w5 (fun _ h9 => h9) rfl dX10_hear_95 ?_
    obtain ⟨r_7, hc7, hf⟩ := bnd1_el hf
    refine xV_I (As := [.ref a9]) (wx := [(a0, .inr (10, [.ref a1, .ref a6, .ref a8, .ref a9, .ref a10, .ref a13, .ref a15, .ref a18, .int v0.2.2.2.2.2.2.2.2.1, .int v0.2.2.2.2.2.2.2.2.2.1, .int v0.2.2.2.2.2.2.2.2.2.2.1, .int v0.2.2.2.2.2.2.2.2.2.2.2.1, .int v0.2.2.2.2.2.2.2.2.2.2.2.2.1, .int v0.2.2.2.2.2.2.2.2.2.2.2.2.2])), (a1, .inr (7, [.ref a2, .ref a3, .ref a4, .ref a5, .int v0.1.2.2.2.2])), (a2, .inl (ca 0, 9, .inl v0.1.1)), (a6, .inr (2, [.ref a7, .int v0.2.1.2.1, .int v0.2.1.2.2.1, .int v0.2.1.2.2.2.1, .int v0.2.1.2.2.2.2])), (a9, .inr (1, [.int u_6.1, .int u_6.2.1, .int u_6.2.2.1, .int u_6.2.2.2.1, .int u_6.2.2.2.2.1, .int u_6.2.2.2.2.2])), (a10, .inr (3, [.ref a11, .int v0.2.2.2.2.1.2.1, .int v0.2.2.2.2.1.2.2.1, .int v0.2.2.2.2.1.2.2.2.1, .int v0.2.2.2.2.1.2.2.2.2.1, .int v0.2.2.2.2.1.2.2.2.2.2.1, .int v0.2.2.2.2.1.2.2.2.2.2.2])), (a11, .inr (4, [.ref a12, .int v0.2.2.2.2.1.1.2.1, .int v0.2.2.2.2.1.1.2.2])), (a12, .inl (ca 0, 512, .inl v0.2.2.2.2.1.1.1)), (a13, .inr (4, [.ref a14, .int u_3.2.1, .int u_3.2.2])), (a14, .inl (ca 0, 512, .inl u_3.1)), (a15, .inr (6, [.ref a16, .ref a17, .int u_4.2.2])), (a16, .inl (ca 0, 15, .inl u_4.1)), (a17, .inl (ca 0, 15, .inl u_4.2.1))]) ⟨hx, hb, hml, hown, hts⟩ (c_X2_failures l D ca zz a6 a7 a9 _ v0.2.1 u_6 r_7 hc7) (cwV 1 hts (gV gw_3_200 gw_3_201 gw_3_202 gw_1_4 gw_3_203) rfl rfl rfl (by decide +kernel) ⟨(Nat.le_of_ble_eq_true rfl), (Nat.le_of_ble_eq_true rfl)⟩) hK hN hZ hA hP hD hS [3, 4] rfl rfl rfl rfl 3 rfl rfl hl.1 rfl (Nat.le_of_ble_eq_true rfl) dX10_hear_98 ⟨Nat.zero_le _, Nat.zero_le _⟩ rfl (fun H locs hP hD hS => ?_)
    refine lv_istore_n (lv' := [(2, .int r_7), (0, .ref a0), (1, .int x1)]) hx hb dX10_hear_101 rfl hl (Nat.le_of_ble_eq_true rfl) rfl (fun ls hl => ?_)
    refine lv_iload_n hx hb dX10_hear_102 rfl (lv_at hl 0 rfl) ?_
    refine xi_eq (tgt := 114) hx hb dX10_hear_103 (by decide) hf (fun hf => ?_) (fun hf => ?_)
    · refine lv_aload_n hx hb dX10_hear_114 rfl (lv_at hl 1 rfl) ?_
      refine va_get (C := RX10) (T := TX10) (N := 14) hx hb hts i10 hown hK hP 0 rfl rfl 8 (Nat.le_of_ble_eq_true rfl) w0 (fun _ h9 => h9) rfl dX10_hear_115 ?_
      refine lv_iconst (v := 2) hx hb dX10_hear_118 rfl ?_
      refine xc_ne (tgt := 137) hx hb dX10_hear_119 (by decide) hf (fun hf => ?_) (fun hf => ?_)
      · refine lv_aload_n hx hb dX10_hear_137 rfl (lv_at hl 1 rfl) ?_
        refine va_get (C := RX10) (T := TX10) (N := 14) hx hb hts i10 hown hK hP 0 rfl rfl 13 (Nat.le_of_ble_eq_true rfl) w2 (fun _ h9 => h9) rfl dX10_hear_138 ?_
        refine lv_aload_n hx hb dX10_hear_141 rfl (lv_at hl 1 rfl) ?_
        refine va_get (C := RX10) (T := TX10) (N := 14) hx hb hts i10 hown hK hP 0 rfl rfl 0 (Nat.le_of_ble_eq_true rfl) w6 (fun _ h9 => h9) rfl dX10_hear_142 ?_
        refine lv_iconst (v := 3) hx hb dX10_hear_145 rfl ?_
        obtain ⟨r_8, hc8, hf⟩ := bnd1_el hf
        refine xV_I (As := [.int (3 : Int32)]) (wx := [(a0, .inr (10, [.ref a1, .ref a6, .ref a8, .ref a9, .ref a10, .ref a13, .ref a15, .ref a18, .int v0.2.2.2.2.2.2.2.2.1, .int v0.2.2.2.2.2.2.2.2.2.1, .int v0.2.2.2.2.2.2.2.2.2.2.1, .int v0.2.2.2.2.2.2.2.2.2.2.2.1, .int v0.2.2.2.2.2.2.2.2.2.2.2.2.1, .int v0.2.2.2.2.2.2.2.2.2.2.2.2.2])), (a1, .inr (7, [.ref a2, .ref a3, .ref a4, .ref a5, .int v0.1.2.2.2.2])), (a2, .inl (ca 0, 9, .inl v0.1.1)), (a6, .inr (2, [.ref a7, .int v0.2.1.2.1, .int v0.2.1.2.2.1, .int v0.2.1.2.2.2.1, .int v0.2.1.2.2.2.2])), (a9, .inr (1, [.int u_6.1, .int u_6.2.1, .int u_6.2.2.1, .int u_6.2.2.2.1, .int u_6.2.2.2.2.1, .int u_6.2.2.2.2.2])), (a10, .inr (3, [.ref a11, .int v0.2.2.2.2.1.2.1, .int v0.2.2.2.2.1.2.2.1, .int v0.2.2.2.2.1.2.2.2.1, .int v0.2.2.2.2.1.2.2.2.2.1, .int v0.2.2.2.2.1.2.2.2.2.2.1, .int v0.2.2.2.2.1.2.2.2.2.2.2])), (a11, .inr (4, [.ref a12, .int v0.2.2.2.2.1.1.2.1, .int v0.2.2.2.2.1.1.2.2])), (a12, .inl (ca 0, 512, .inl v0.2.2.2.2.1.1.1)), (a13, .inr (4, [.ref a14, .int u_3.2.1, .int u_3.2.2])), (a14, .inl (ca 0, 512, .inl u_3.1)), (a15, .inr (6, [.ref a16, .ref a17, .int u_4.2.2])), (a16, .inl (ca 0, 15, .inl u_4.1)), (a17, .inl (ca 0, 15, .inl u_4.2.1))]) ⟨hx, hb, hml, hown, hts⟩ (c_X7_valueOf l D ca zz a1 a2 a3 a4 a5 _ v0.1 (3 : Int32) r_8 hc8) (cwV 1 hts (gV gw_2_14 gw_2_15 gw_2_16 gw_1_3 gw_2_17) rfl rfl rfl (by decide +kernel) ⟨(Nat.le_of_ble_eq_true rfl), (Nat.le_of_ble_eq_true rfl)⟩) hK hN hZ hA hP hD hS [1, 2] rfl rfl rfl rfl 1 rfl rfl hl.1 rfl (Nat.le_of_ble_eq_true rfl) dX10_hear_146 ⟨Nat.zero_le _, Nat.zero_le _⟩ rfl (fun H locs hP hD hS => ?_)
        refine xc_lt (tgt := 157) hx hb dX10_hear_149 (by decide) hf (fun hf => ?_) (fun hf => ?_)
        · refine lv_iconst (v := 1) hx hb dX10_hear_157 rfl ?_
          cases hf
          exact rt_Z hx hb hr hlocks hK hP hD hS hQ (Or.inr rfl) rfl rfl dX10_hear_158
        · refine lv_aload_n hx hb dX10_hear_152 rfl (lv_at hl 1 rfl) ?_
          refine lv_iconst (v := 2) hx hb dX10_hear_153 rfl ?_
          refine xput (C := RX10) (T := TX10) (N := 14) (wx := [(a0, .inr (10, [.ref a1, .ref a6, .ref a8, .ref a9, .ref a10, .ref a13, .ref a15, .ref a18, .int (2 : Int32), .int v0.2.2.2.2.2.2.2.2.2.1, .int v0.2.2.2.2.2.2.2.2.2.2.1, .int v0.2.2.2.2.2.2.2.2.2.2.2.1, .int v0.2.2.2.2.2.2.2.2.2.2.2.2.1, .int v0.2.2.2.2.2.2.2.2.2.2.2.2.2])), (a1, .inr (7, [.ref a2, .ref a3, .ref a4, .ref a5, .int v0.1.2.2.2.2])), (a2, .inl (ca 0, 9, .inl v0.1.1)), (a6, .inr (2, [.ref a7, .int v0.2.1.2.1, .int v0.2.1.2.2.1, .int v0.2.1.2.2.2.1, .int v0.2.1.2.2.2.2])), (a9, .inr (1, [.int u_6.1, .int u_6.2.1, .int u_6.2.2.1, .int u_6.2.2.2.1, .int u_6.2.2.2.2.1, .int u_6.2.2.2.2.2])), (a10, .inr (3, [.ref a11, .int v0.2.2.2.2.1.2.1, .int v0.2.2.2.2.1.2.2.1, .int v0.2.2.2.2.1.2.2.2.1, .int v0.2.2.2.2.1.2.2.2.2.1, .int v0.2.2.2.2.1.2.2.2.2.2.1, .int v0.2.2.2.2.1.2.2.2.2.2.2])), (a11, .inr (4, [.ref a12, .int v0.2.2.2.2.1.1.2.1, .int v0.2.2.2.2.1.1.2.2])), (a12, .inl (ca 0, 512, .inl v0.2.2.2.2.1.1.1)), (a13, .inr (4, [.ref a14, .int u_3.2.1, .int u_3.2.2])), (a14, .inl (ca 0, 512, .inl u_3.1)), (a15, .inr (6, [.ref a16, .ref a17, .int u_4.2.2])), (a16, .inl (ca 0, 15, .inl u_4.1)), (a17, .inl (ca 0, 15, .inl u_4.2.1))]) hx hb hts i10 tyX10 tyX10_ok nmX10 hown hK hP hD hS 0 rfl rfl 8 (Nat.le_of_ble_eq_true rfl) w0 (fun _ h9 => h9) rfl rfl rfl rfl (Nat.le_of_ble_eq_true rfl) dX10_hear_154 rfl (fun H locs hP hD hS => ?_)
          refine lv_iconst (v := 1) hx hb dX10_hear_157 rfl ?_
          cases hf
          exact rt_Z hx hb hr hlocks hK hP hD hS hQ (Or.inr rfl) rfl rfl dX10_hear_158
      · refine lv_aload_n hx hb dX10_hear_122 rfl (lv_at hl 1 rfl) ?_
        refine va_get (C := RX10) (T := TX10) (N := 14) hx hb hts i10 hown hK hP 0 rfl rfl 4 (Nat.le_of_ble_eq_true rfl) w8 (fun _ h9 => h9) rfl dX10_hear_123 ?_
        refine lv_iload_n hx hb dX10_hear_126 rfl (lv_at hl 2 rfl) ?_
        refine lv_aload_n hx hb dX10_hear_127 rfl (lv_at hl 1 rfl) ?_
        refine va_get (C := RX10) (T := TX10) (N := 14) hx hb hts i10 hown hK hP 0 rfl rfl 0 (Nat.le_of_ble_eq_true rfl) w6 (fun _ h9 => h9) rfl dX10_hear_128 ?_
        obtain ⟨u_9, hc9, hf⟩ := bnd1_el hf
        refine xV_V (As := [.int x1, .ref a1]) (wx := [(a0, .inr (10, [.ref a1, .ref a6, .ref a8, .ref a9, .ref a10, .ref a13, .ref a15, .ref a18, .int v0.2.2.2.2.2.2.2.2.1, .int v0.2.2.2.2.2.2.2.2.2.1, .int v0.2.2.2.2.2.2.2.2.2.2.1, .int v0.2.2.2.2.2.2.2.2.2.2.2.1, .int v0.2.2.2.2.2.2.2.2.2.2.2.2.1, .int v0.2.2.2.2.2.2.2.2.2.2.2.2.2])), (a1, .inr (7, [.ref a2, .ref a3, .ref a4, .ref a5, .int v0.1.2.2.2.2])), (a2, .inl (ca 0, 9, .inl v0.1.1)), (a6, .inr (2, [.ref a7, .int v0.2.1.2.1, .int v0.2.1.2.2.1, .int v0.2.1.2.2.2.1, .int v0.2.1.2.2.2.2])), (a9, .inr (1, [.int u_6.1, .int u_6.2.1, .int u_6.2.2.1, .int u_6.2.2.2.1, .int u_6.2.2.2.2.1, .int u_6.2.2.2.2.2])), (a10, .inr (3, [.ref a11, .int u_9.2.1, .int u_9.2.2.1, .int u_9.2.2.2.1, .int u_9.2.2.2.2.1, .int u_9.2.2.2.2.2.1, .int u_9.2.2.2.2.2.2])), (a11, .inr (4, [.ref a12, .int u_9.1.2.1, .int u_9.1.2.2])), (a12, .inl (ca 0, 512, .inl u_9.1.1)), (a13, .inr (4, [.ref a14, .int u_3.2.1, .int u_3.2.2])), (a14, .inl (ca 0, 512, .inl u_3.1)), (a15, .inr (6, [.ref a16, .ref a17, .int u_4.2.2])), (a16, .inl (ca 0, 15, .inl u_4.1)), (a17, .inl (ca 0, 15, .inl u_4.2.1))]) ⟨hx, hb, hml, hown, hts⟩ (c_X3_feed l D ca zz a10 a11 a12 a1 a2 a3 a4 a5 _ v0.2.2.2.2.1 v0.1 x1 u_9 hc9) (cwV 2 hts (gV gw_3_208 gw_3_209 gw_3_210 gw_1_7 gw_3_211) rfl rfl rfl (by decide +kernel) ⟨(Nat.le_of_ble_eq_true rfl), (Nat.le_of_ble_eq_true rfl)⟩) hK hN hZ hA hP hD hS [5, 6, 7, 1, 2] rfl rfl rfl rfl 5 rfl rfl hl.1 rfl (Nat.le_of_ble_eq_true rfl) dX10_hear_131 ⟨Nat.zero_le _, Nat.zero_le _⟩ rfl (fun H locs hP hD hS => ?_)
        refine lv_goto (tgt := 157) hx hb dX10_hear_134 (by decide) ?_
        refine lv_iconst (v := 1) hx hb dX10_hear_157 rfl ?_
        cases hf
        exact rt_Z hx hb hr hlocks hK hP hD hS hQ (Or.inr rfl) rfl rfl dX10_hear_158
    · refine lv_aload_n hx hb dX10_hear_106 rfl (lv_at hl 1 rfl) ?_
      refine lv_iload_n hx hb dX10_hear_107 rfl (lv_at hl 0 rfl) ?_
      obtain ⟨u_10, hc10, hf⟩ := bnd1_el hf
      refine xV_V (As := [.int r_7]) (wx := [(a0, .inr (10, [.ref a1, .ref a6, .ref a8, .ref a9, .ref a10, .ref a13, .ref a15, .ref a18, .int u_10.2.2.2.2.2.2.2.2.1, .int u_10.2.2.2.2.2.2.2.2.2.1, .int u_10.2.2.2.2.2.2.2.2.2.2.1, .int u_10.2.2.2.2.2.2.2.2.2.2.2.1, .int u_10.2.2.2.2.2.2.2.2.2.2.2.2.1, .int u_10.2.2.2.2.2.2.2.2.2.2.2.2.2])), (a1, .inr (7, [.ref a2, .ref a3, .ref a4, .ref a5, .int v0.1.2.2.2.2])), (a2, .inl (ca 0, 9, .inl v0.1.1)), (a6, .inr (2, [.ref a7, .int v0.2.1.2.1, .int v0.2.1.2.2.1, .int v0.2.1.2.2.2.1, .int v0.2.1.2.2.2.2])), (a9, .inr (1, [.int u_6.1, .int u_6.2.1, .int u_6.2.2.1, .int u_6.2.2.2.1, .int u_6.2.2.2.2.1, .int u_6.2.2.2.2.2])), (a10, .inr (3, [.ref a11, .int u_10.2.2.2.2.1.2.1, .int u_10.2.2.2.2.1.2.2.1, .int u_10.2.2.2.2.1.2.2.2.1, .int u_10.2.2.2.2.1.2.2.2.2.1, .int u_10.2.2.2.2.1.2.2.2.2.2.1, .int u_10.2.2.2.2.1.2.2.2.2.2.2])), (a11, .inr (4, [.ref a12, .int u_10.2.2.2.2.1.1.2.1, .int u_10.2.2.2.2.1.1.2.2])), (a12, .inl (ca 0, 512, .inl v0.2.2.2.2.1.1.1)), (a13, .inr (4, [.ref a14, .int u_3.2.1, .int u_3.2.2])), (a14, .inl (ca 0, 512, .inl u_3.1)), (a15, .inr (6, [.ref a16, .ref a17, .int u_4.2.2])), (a16, .inl (ca 0, 15, .inl u_4.1)), (a17, .inl (ca 0, 15, .inl u_4.2.1))]) ⟨hx, hb, hml, hown, hts⟩ (c_X10_raiseAlarm l D ca zz a0 a1 a6 a8 a9 a10 a11 a12 a13 a15 a18 _ ((v0.1, v0.2.1, v0.2.2.1, u_6, v0.2.2.2.2.1, u_3, u_4, v0.2.2.2.2.2.2.2)) r_7 u_10 hc10) (cwV 1 hts (gV gw_3_204 gw_3_206 gw_s_1_9 gw_1_2 gw_3_207) rfl rfl rfl (by decide +kernel) ⟨(Nat.le_of_ble_eq_true rfl), (Nat.le_of_ble_eq_true rfl)⟩) hK hN hZ hA hP hD hS [0, 5, 6] rfl rfl rfl rfl 0 rfl rfl hl.1 rfl (Nat.le_of_ble_eq_true rfl) dX10_hear_108 ⟨Nat.zero_le _, Nat.zero_le _⟩ rfl (fun H locs hP hD hS => ?_)
      refine lv_goto (tgt := 157) hx hb dX10_hear_111 (by decide) ?_
      refine lv_iconst (v := 1) hx hb dX10_hear_157 rfl ?_
      cases hf
      exact rt_Z hx hb hr hlocks hK hP hD hS hQ (Or.inr rfl) rfl rfl dX10_hear_158
  unfold f_X10_hear at hf
  refine lv_aload_n hx hb dX10_hear_0 rfl (lv_at hl 0 rfl) ?_
  refine va_get (C := RX10) (T := TX10) (N := 14) hx hb hts i10 hown hK hP 0 rfl rfl 8 (Nat.le_of_ble_eq_true rfl) w0 (fun _ h9 => h9) rfl dX10_hear_1 ?_
  refine xi_eq (tgt := 15) hx hb dX10_hear_4 (by decide) hf (fun hf => ?_) (fun hf => ?_)
  · refine lv_iconst (v := 0) hx hb dX10_hear_15 rfl ?_
    cases hf
    exact rt_Z hx hb hr hlocks hK hP hD hS hQ (Or.inl rfl) rfl rfl dX10_hear_16
  · refine lv_aload_n hx hb dX10_hear_7 rfl (lv_at hl 0 rfl) ?_
    refine va_get (C := RX10) (T := TX10) (N := 14) hx hb hts i10 hown hK hP 0 rfl rfl 8 (Nat.le_of_ble_eq_true rfl) w0 (fun _ h9 => h9) rfl dX10_hear_8 ?_
    refine lv_iconst (v := 3) hx hb dX10_hear_11 rfl ?_
    refine xc_ne (tgt := 17) hx hb dX10_hear_12 (by decide) hf (fun hf => ?_) (fun hf => ?_)
    · refine lv_aload_n hx hb dX10_hear_17 rfl (lv_at hl 0 rfl) ?_
      refine lv_dup hx hb dX10_hear_18 rfl ?_
      refine va_get (C := RX10) (T := TX10) (N := 14) hx hb hts i10 hown hK hP 0 rfl rfl 12 (Nat.le_of_ble_eq_true rfl) w1 (fun _ h9 => h9) rfl dX10_hear_19 ?_
      refine lv_iconst (v := 1) hx hb dX10_hear_22 rfl ?_
      refine lv_iadd hx hb dX10_hear_23 ?_
      refine xnm hf (fun x_1 hf => ?_)
      refine xput (C := RX10) (T := TX10) (N := 14) (wx := [(a0, .inr (10, [.ref a1, .ref a6, .ref a8, .ref a9, .ref a10, .ref a13, .ref a15, .ref a18, .int v0.2.2.2.2.2.2.2.2.1, .int v0.2.2.2.2.2.2.2.2.2.1, .int v0.2.2.2.2.2.2.2.2.2.2.1, .int v0.2.2.2.2.2.2.2.2.2.2.2.1, .int x_1, .int v0.2.2.2.2.2.2.2.2.2.2.2.2.2])), (a1, .inr (7, [.ref a2, .ref a3, .ref a4, .ref a5, .int v0.1.2.2.2.2])), (a2, .inl (ca 0, 9, .inl v0.1.1)), (a6, .inr (2, [.ref a7, .int v0.2.1.2.1, .int v0.2.1.2.2.1, .int v0.2.1.2.2.2.1, .int v0.2.1.2.2.2.2])), (a9, .inr (1, [.int v0.2.2.2.1.1, .int v0.2.2.2.1.2.1, .int v0.2.2.2.1.2.2.1, .int v0.2.2.2.1.2.2.2.1, .int v0.2.2.2.1.2.2.2.2.1, .int v0.2.2.2.1.2.2.2.2.2])), (a10, .inr (3, [.ref a11, .int v0.2.2.2.2.1.2.1, .int v0.2.2.2.2.1.2.2.1, .int v0.2.2.2.2.1.2.2.2.1, .int v0.2.2.2.2.1.2.2.2.2.1, .int v0.2.2.2.2.1.2.2.2.2.2.1, .int v0.2.2.2.2.1.2.2.2.2.2.2])), (a11, .inr (4, [.ref a12, .int v0.2.2.2.2.1.1.2.1, .int v0.2.2.2.2.1.1.2.2])), (a12, .inl (ca 0, 512, .inl v0.2.2.2.2.1.1.1)), (a13, .inr (4, [.ref a14, .int v0.2.2.2.2.2.1.2.1, .int v0.2.2.2.2.2.1.2.2])), (a14, .inl (ca 0, 512, .inl v0.2.2.2.2.2.1.1)), (a15, .inr (6, [.ref a16, .ref a17, .int v0.2.2.2.2.2.2.1.2.2])), (a16, .inl (ca 0, 15, .inl v0.2.2.2.2.2.2.1.1)), (a17, .inl (ca 0, 15, .inl v0.2.2.2.2.2.2.1.2.1))]) hx hb hts i10 tyX10 tyX10_ok nmX10 hown hK hP hD hS 0 rfl rfl 12 (Nat.le_of_ble_eq_true rfl) w1 (fun _ h9 => h9) rfl rfl rfl rfl (Nat.le_of_ble_eq_true rfl) dX10_hear_24 rfl (fun H locs hP hD hS => ?_)
      refine lv_aload_n hx hb dX10_hear_27 rfl (lv_at hl 0 rfl) ?_
      refine lv_dup hx hb dX10_hear_28 rfl ?_
      refine va_get (C := RX10) (T := TX10) (N := 14) hx hb hts i10 hown hK hP 0 rfl rfl 13 (Nat.le_of_ble_eq_true rfl) w2 (fun _ h9 => h9) rfl dX10_hear_29 ?_
      refine lv_iconst (v := 1) hx hb dX10_hear_32 rfl ?_
      refine lv_iadd hx hb dX10_hear_33 ?_
      refine xnm hf (fun x_2 hf => ?_)
      refine xput (C := RX10) (T := TX10) (N := 14) (wx := [(a0, .inr (10, [.ref a1, .ref a6, .ref a8, .ref a9, .ref a10, .ref a13, .ref a15, .ref a18, .int v0.2.2.2.2.2.2.2.2.1, .int v0.2.2.2.2.2.2.2.2.2.1, .int v0.2.2.2.2.2.2.2.2.2.2.1, .int v0.2.2.2.2.2.2.2.2.2.2.2.1, .int x_1, .int x_2])), (a1, .inr (7, [.ref a2, .ref a3, .ref a4, .ref a5, .int v0.1.2.2.2.2])), (a2, .inl (ca 0, 9, .inl v0.1.1)), (a6, .inr (2, [.ref a7, .int v0.2.1.2.1, .int v0.2.1.2.2.1, .int v0.2.1.2.2.2.1, .int v0.2.1.2.2.2.2])), (a9, .inr (1, [.int v0.2.2.2.1.1, .int v0.2.2.2.1.2.1, .int v0.2.2.2.1.2.2.1, .int v0.2.2.2.1.2.2.2.1, .int v0.2.2.2.1.2.2.2.2.1, .int v0.2.2.2.1.2.2.2.2.2])), (a10, .inr (3, [.ref a11, .int v0.2.2.2.2.1.2.1, .int v0.2.2.2.2.1.2.2.1, .int v0.2.2.2.2.1.2.2.2.1, .int v0.2.2.2.2.1.2.2.2.2.1, .int v0.2.2.2.2.1.2.2.2.2.2.1, .int v0.2.2.2.2.1.2.2.2.2.2.2])), (a11, .inr (4, [.ref a12, .int v0.2.2.2.2.1.1.2.1, .int v0.2.2.2.2.1.1.2.2])), (a12, .inl (ca 0, 512, .inl v0.2.2.2.2.1.1.1)), (a13, .inr (4, [.ref a14, .int v0.2.2.2.2.2.1.2.1, .int v0.2.2.2.2.2.1.2.2])), (a14, .inl (ca 0, 512, .inl v0.2.2.2.2.2.1.1)), (a15, .inr (6, [.ref a16, .ref a17, .int v0.2.2.2.2.2.2.1.2.2])), (a16, .inl (ca 0, 15, .inl v0.2.2.2.2.2.2.1.1)), (a17, .inl (ca 0, 15, .inl v0.2.2.2.2.2.2.1.2.1))]) hx hb hts i10 tyX10 tyX10_ok nmX10 hown hK hP hD hS 0 rfl rfl 13 (Nat.le_of_ble_eq_true rfl) w2 (fun _ h9 => h9) rfl rfl rfl rfl (Nat.le_of_ble_eq_true rfl) dX10_hear_34 rfl (fun H locs hP hD hS => ?_)
      refine lv_aload_n hx hb dX10_hear_37 rfl (lv_at hl 0 rfl) ?_
      refine va_get (C := RX10) (T := TX10) (N := 14) hx hb hts i10 hown hK hP 0 rfl rfl 5 (Nat.le_of_ble_eq_true rfl) w3 (fun _ h9 => h9) rfl dX10_hear_38 ?_
      refine va_getN (C := RX4) (T := TX4) (N := 3) hx hb hts i4 hown hK hP 8 rfl rfl 2 (Nat.le_of_ble_eq_true rfl) nw20 (fun _ h9 => h9) rfl dX10_hear_41 ?_
      refine lv_sipush (v := 400) hx hb dX10_hear_44 rfl ?_
      refine xc_lt (tgt := 58) hx hb dX10_hear_47 (by decide) hf (fun hf => ?_) (fun hf => ?_)
      · exact b58 ((v0.1, v0.2.1, v0.2.2.1, v0.2.2.2.1, v0.2.2.2.2.1, v0.2.2.2.2.2.1, v0.2.2.2.2.2.2.1, v0.2.2.2.2.2.2.2.1, v0.2.2.2.2.2.2.2.2.1, v0.2.2.2.2.2.2.2.2.2.1, v0.2.2.2.2.2.2.2.2.2.2.1, v0.2.2.2.2.2.2.2.2.2.2.2.1, x_1, x_2)) p1 hf _ _ _ hP hD hS (lv_sub hl [0, 1] rfl)
      · refine lv_aload_n hx hb dX10_hear_50 rfl (lv_at hl 0 rfl) ?_
        refine va_get (C := RX10) (T := TX10) (N := 14) hx hb hts i10 hown hK hP 0 rfl rfl 5 (Nat.le_of_ble_eq_true rfl) w3 (fun _ h9 => h9) rfl dX10_hear_51 ?_
        obtain ⟨r_11, u_12, hc12, hf⟩ := bnd2_el hf
        refine xV_I (As := []) (wx := [(a0, .inr (10, [.ref a1, .ref a6, .ref a8, .ref a9, .ref a10, .ref a13, .ref a15, .ref a18, .int v0.2.2.2.2.2.2.2.2.1, .int v0.2.2.2.2.2.2.2.2.2.1, .int v0.2.2.2.2.2.2.2.2.2.2.1, .int v0.2.2.2.2.2.2.2.2.2.2.2.1, .int x_1, .int x_2])), (a1, .inr (7, [.ref a2, .ref a3, .ref a4, .ref a5, .int v0.1.2.2.2.2])), (a2, .inl (ca 0, 9, .inl v0.1.1)), (a6, .inr (2, [.ref a7, .int v0.2.1.2.1, .int v0.2.1.2.2.1, .int v0.2.1.2.2.2.1, .int v0.2.1.2.2.2.2])), (a9, .inr (1, [.int v0.2.2.2.1.1, .int v0.2.2.2.1.2.1, .int v0.2.2.2.1.2.2.1, .int v0.2.2.2.1.2.2.2.1, .int v0.2.2.2.1.2.2.2.2.1, .int v0.2.2.2.1.2.2.2.2.2])), (a10, .inr (3, [.ref a11, .int v0.2.2.2.2.1.2.1, .int v0.2.2.2.2.1.2.2.1, .int v0.2.2.2.2.1.2.2.2.1, .int v0.2.2.2.2.1.2.2.2.2.1, .int v0.2.2.2.2.1.2.2.2.2.2.1, .int v0.2.2.2.2.1.2.2.2.2.2.2])), (a11, .inr (4, [.ref a12, .int v0.2.2.2.2.1.1.2.1, .int v0.2.2.2.2.1.1.2.2])), (a12, .inl (ca 0, 512, .inl v0.2.2.2.2.1.1.1)), (a13, .inr (4, [.ref a14, .int u_12.2.1, .int u_12.2.2])), (a14, .inl (ca 0, 512, .inl u_12.1)), (a15, .inr (6, [.ref a16, .ref a17, .int v0.2.2.2.2.2.2.1.2.2])), (a16, .inl (ca 0, 15, .inl v0.2.2.2.2.2.2.1.1)), (a17, .inl (ca 0, 15, .inl v0.2.2.2.2.2.2.1.2.1))]) ⟨hx, hb, hml, hown, hts⟩ (c_X4_dropFirst l D ca zz a13 a14 _ v0.2.2.2.2.2.1 r_11 u_12 hc12) (cwV 0 hts (gV gw_3_184 gw_3_185 gw_3_186 gw_1_8 gw_3_187) rfl rfl rfl (by decide +kernel) ⟨(Nat.le_of_ble_eq_true rfl), (Nat.le_of_ble_eq_true rfl)⟩) hK hN hZ hA hP hD hS [8, 9] rfl rfl rfl rfl 8 rfl rfl hl.1 rfl (Nat.le_of_ble_eq_true rfl) dX10_hear_54 ⟨Nat.zero_le _, Nat.zero_le _⟩ rfl (fun H locs hP hD hS => ?_)
        refine lv_pop hx hb dX10_hear_57 rfl ?_
        exact b58 ((v0.1, v0.2.1, v0.2.2.1, v0.2.2.2.1, v0.2.2.2.2.1, u_12, v0.2.2.2.2.2.2.1, v0.2.2.2.2.2.2.2.1, v0.2.2.2.2.2.2.2.2.1, v0.2.2.2.2.2.2.2.2.2.1, v0.2.2.2.2.2.2.2.2.2.2.1, v0.2.2.2.2.2.2.2.2.2.2.2.1, x_1, x_2)) p1 hf _ _ _ hP hD hS (lv_sub hl [0, 1] rfl)
    · refine lv_iconst (v := 0) hx hb dX10_hear_15 rfl ?_
      cases hf
      exact rt_Z hx hb hr hlocks hK hP hD hS hQ (Or.inl rfl) rfl rfl dX10_hear_16
