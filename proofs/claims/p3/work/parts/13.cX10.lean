abbrev wq_X8_belowSixteen : List Cond := Cond.code yX8_belowSixteen cX8_belowSixteen 1 (some .int) :: GL
set_option maxHeartbeats 4000000 in
set_option maxRecDepth 100000 in
theorem c_X8_belowSixteen (l : Launch) (D : va_G) (ca : Nat → ClassId) (zz : Nat → Nat) (a0 : Nat) (sz : Nat) (v0 : V8) (r : Int32) (v0' : V8) (hf : f_X8_belowSixteen v0 = some (r, v0')) : Met l yX8_belowSixteen wq_X8_belowSixteen ({ frames := 0, cells := 0, slots := 0, locals := 0 } : Room) (PR D ca zz [.ref a0] sz [(a0, .inr (8, [.int v0.1, .int v0.2.1, .int v0.2.2]))]) (QI D ca r [(a0, .inr (8, [.int v0'.1, .int v0'.2.1, .int v0'.2.2]))] (va_A [(a0, .inr (8, [.int v0.1, .int v0.2.1, .int v0.2.2]))] sz)) 0 0 (va_A [(a0, .inr (8, [.int v0.1, .int v0.2.1, .int v0.2.2]))] sz) := by
  refine en (y := yX8_belowSixteen) (wsm := wq_X8_belowSixteen) (av := [.ref a0]) (cc := cX8_belowSixteen) (maxL := 1) (ret := (some .int)) (Qf := fun A => (QI D ca r [(a0, .inr (8, [.int v0'.1, .int v0'.2.1, .int v0'.2.2]))] A)) (by decide) rfl (Nat.le_of_ble_eq_true rfl) ?_
  intro p e s m args below meth c A Q ls hx hb hr hml hown hts hlocks hnm hA hN hZ hK hQ hP hD hS hl
  have w0 := hts _ (List.mem_cons_of_mem _ gw_1_110)
  have w1 := hts _ (List.mem_cons_of_mem _ gw_3_174)
  have i8 : ∀ w ∈ u_ws RX8 TX8 3, w ∈ wq_X8_belowSixteen := fun w h => List.mem_cons_of_mem _ (inX8 w h)
  unfold f_X8_belowSixteen at hf
  refine lv_aload_n hx hb dX8_belowSixteen_0 rfl (lv_at hl 0 rfl) ?_
  refine lv_aload_n hx hb dX8_belowSixteen_1 rfl (lv_at hl 0 rfl) ?_
  refine va_get (C := RX8) (T := TX8) (N := 3) hx hb hts i8 hown hK hP 0 rfl rfl 0 (Nat.le_of_ble_eq_true rfl) w0 (fun _ h9 => h9) rfl dX8_belowSixteen_2 ?_
  refine lv_ldc hx hb hown w1 dX8_belowSixteen_5 ?_
  refine lv_imul hx hb dX8_belowSixteen_7 ?_
  refine lv_sipush (v := 12345) hx hb dX8_belowSixteen_8 rfl ?_
  refine lv_iadd hx hb dX8_belowSixteen_11 ?_
  refine xnm hf (fun x_1 hf => ?_)
  refine xput (C := RX8) (T := TX8) (N := 3) (wx := [(a0, .inr (8, [.int x_1, .int v0.2.1, .int v0.2.2]))]) hx hb hts i8 tyX8 tyX8_ok nmX8 hown hK hP hD hS 0 rfl rfl 0 (Nat.le_of_ble_eq_true rfl) w0 (fun _ h9 => h9) rfl rfl rfl rfl (Nat.le_of_ble_eq_true rfl) dX8_belowSixteen_12 rfl (fun H locs hP hD hS => ?_)
  refine lv_aload_n hx hb dX8_belowSixteen_15 rfl (lv_at hl 0 rfl) ?_
  refine va_get (C := RX8) (T := TX8) (N := 3) hx hb hts i8 hown hK hP 0 rfl rfl 0 (Nat.le_of_ble_eq_true rfl) w0 (fun _ h9 => h9) rfl dX8_belowSixteen_16 ?_
  refine lv_bipush (v := 16) hx hb dX8_belowSixteen_19 rfl ?_
  refine lv_iushr (v := jushr x_1 (16 : Int32)) hx hb dX8_belowSixteen_21 rfl ?_
  refine lv_bipush (v := 16) hx hb dX8_belowSixteen_22 rfl ?_
  refine xirem hx hb dX8_belowSixteen_24 hf (fun hf => ?_)
  have he := Option.some.inj hf
  obtain ⟨e_r, he⟩ := Prod.mk.inj he
  have e_v0 := he
  refine rt_I hx hb hr hlocks hK hP hD hS hQ e_r ?_ dX8_belowSixteen_25
  simp only [← e_v0]
abbrev wq_X7_stuckAt : List Cond := Cond.code yX7_stuckAt cX7_stuckAt 4 (some .int) :: GL
set_option maxHeartbeats 4000000 in
set_option maxRecDepth 100000 in
theorem c_X7_stuckAt (l : Launch) (D : va_G) (ca : Nat → ClassId) (zz : Nat → Nat) (a0 a1 a2 a3 a4 : Nat) (sz : Nat) (v0 : V7) (p1 : Int32) (p2 : Int32) (r : Int32) (hf : f_X7_stuckAt v0 p1 p2 = some r) : Met l yX7_stuckAt wq_X7_stuckAt ({ frames := 1, cells := 0, slots := 0, locals := 21 } : Room) (PR D ca zz [.ref a0, .int p1, .int p2] sz [(a0, .inr (7, [.ref a1, .ref a2, .ref a3, .ref a4, .int v0.2.2.2.2])), (a2, .inl (ca 0, 4, .inl v0.2.1)), (a3, .inl (ca 0, 4, .inl v0.2.2.1)), (a4, .inl (ca 0, 4, .inl v0.2.2.2.1))]) (QI D ca r [(a0, .inr (7, [.ref a1, .ref a2, .ref a3, .ref a4, .int v0.2.2.2.2])), (a2, .inl (ca 0, 4, .inl v0.2.1)), (a3, .inl (ca 0, 4, .inl v0.2.2.1)), (a4, .inl (ca 0, 4, .inl v0.2.2.2.1))] (va_A [(a0, .inr (7, [.ref a1, .ref a2, .ref a3, .ref a4, .int v0.2.2.2.2])), (a2, .inl (ca 0, 4, .inl v0.2.1)), (a3, .inl (ca 0, 4, .inl v0.2.2.1)), (a4, .inl (ca 0, 4, .inl v0.2.2.2.1))] sz)) 0 0 (va_A [(a0, .inr (7, [.ref a1, .ref a2, .ref a3, .ref a4, .int v0.2.2.2.2])), (a2, .inl (ca 0, 4, .inl v0.2.1)), (a3, .inl (ca 0, 4, .inl v0.2.2.1)), (a4, .inl (ca 0, 4, .inl v0.2.2.2.1))] sz) := by
  refine en (y := yX7_stuckAt) (wsm := wq_X7_stuckAt) (av := [.ref a0, .int p1, .int p2]) (cc := cX7_stuckAt) (maxL := 4) (ret := (some .int)) (Qf := fun A => (QI D ca r [(a0, .inr (7, [.ref a1, .ref a2, .ref a3, .ref a4, .int v0.2.2.2.2])), (a2, .inl (ca 0, 4, .inl v0.2.1)), (a3, .inl (ca 0, 4, .inl v0.2.2.1)), (a4, .inl (ca 0, 4, .inl v0.2.2.2.1))] A)) (by decide) rfl (Nat.le_of_ble_eq_true rfl) ?_
  intro p e s m args below meth c A Q ls hx hb hr hml hown hts hlocks hnm hA hN hZ hK hQ hP hD hS hl
  have w0 := hts _ (List.mem_cons_of_mem _ gw_1_59)
  have w1 := hts _ (List.mem_cons_of_mem _ gw_2_235)
  have w2 := hts _ (List.mem_cons_of_mem _ gw_2_30)
  have w3 := hts _ (List.mem_cons_of_mem _ gw_1_11)
  have w4 := hts _ (List.mem_cons_of_mem _ gw_2_31)
  have w5 := hts _ (List.mem_cons_of_mem _ gw_1_56)
  have w6 := hts _ (List.mem_cons_of_mem _ gw_1_57)
  have w7 := hts _ (List.mem_cons_of_mem _ gw_1_58)
  have i7 : ∀ w ∈ u_ws RX7 TX7 5, w ∈ wq_X7_stuckAt := fun w h => List.mem_cons_of_mem _ (inX7 w h)
  have bl11 : ∀ (k11 : Int32 → Int32 → Int32 → Option (Int32)) (q11 : ∀ (x1 : Int32) (x2 : Int32) (x3 : Int32), k11 x1 x2 x3 = some r → ∀ (H : Heap) (locs : List Loc) (ls : Array Slot), va_P D vwCl [(a0, .inr (7, [.ref a1, .ref a2, .ref a3, .ref a4, .int v0.2.2.2.2])), (a2, .inl (ca 0, 4, .inl v0.2.1)), (a3, .inl (ca 0, 4, .inl v0.2.2.1)), (a4, .inl (ca 0, 4, .inl v0.2.2.2.1))] H → va_D A [(a0, .inr (7, [.ref a1, .ref a2, .ref a3, .ref a4, .int v0.2.2.2.2])), (a2, .inl (ca 0, 4, .inl v0.2.1)), (a3, .inl (ca 0, 4, .inl v0.2.2.1)), (a4, .inl (ca 0, 4, .inl v0.2.2.2.1))] → va_S A s.heap H locs → lv_has ls 4 [(0, .ref a0), (1, .int x1), (2, .int x2), (3, .int x3)] → W p l e ({ frames := 1, cells := 0, slots := 0, locals := 21 } : Room) s m args below meth c H locs 0 0 Q (F0 m 11 ls [])) (x1 : Int32) (x2 : Int32) (x3 : Int32), fl_X7_stuckAt_11 v0 k11 x1 x2 x3 = some r → ∀ (H : Heap) (locs : List Loc) (ls : Array Slot), va_P D vwCl [(a0, .inr (7, [.ref a1, .ref a2, .ref a3, .ref a4, .int v0.2.2.2.2])), (a2, .inl (ca 0, 4, .inl v0.2.1)), (a3, .inl (ca 0, 4, .inl v0.2.2.1)), (a4, .inl (ca 0, 4, .inl v0.2.2.2.1))] H → va_D A [(a0, .inr (7, [.ref a1, .ref a2, .ref a3, .ref a4, .int v0.2.2.2.2])), (a2, .inl (ca 0, 4, .inl v0.2.1)), (a3, .inl (ca 0, 4, .inl v0.2.2.1)), (a4, .inl (ca 0, 4, .inl v0.2.2.2.1))] → va_S A s.heap H locs → lv_has ls 4 [(0, .ref a0), (1, .int x1), (2, .int x2), (3, .int x3)] → W p l e ({ frames := 1, cells := 0, slots := 0, locals := 21 } : Room) s m args below meth c H locs 0 0 Q (F0 m 11 ls []) := by
    intro k11 q11 x1 x2 x3 hf H locs ls hP hD hS hl
    unfold fl_X7_stuckAt_11 at hf
    refine lv_iload_n hx hb dX7_stuckAt_11 rfl (lv_at hl 3 rfl) ?_
    refine xi_lt (tgt := 48) hx hb dX7_stuckAt_12 (by decide) hf (fun hf => ?_) (fun hf => ?_)
    · refine lv_iload_n hx hb dX7_stuckAt_48 rfl (lv_at hl 2 rfl) ?_
      have he := Option.some.inj hf
      have e_r := he
      refine rt_I hx hb hr hlocks hK hP hD hS hQ e_r ?_ dX7_stuckAt_49
      rfl
    · refine lv_iload_n hx hb dX7_stuckAt_15 rfl (lv_at hl 1 rfl) ?_
      refine lv_aload_n hx hb dX7_stuckAt_16 rfl (lv_at hl 0 rfl) ?_
      refine va_get (C := RX7) (T := TX7) (N := 5) hx hb hts i7 hown hK hP 0 rfl rfl 1 (Nat.le_of_ble_eq_true rfl) w5 (fun _ h9 => h9) rfl dX7_stuckAt_17 ?_
      refine lv_iload_n hx hb dX7_stuckAt_20 rfl (lv_at hl 3 rfl) ?_
      refine xiald hx hb hK hP 1 rfl hf dX7_stuckAt_21 (fun hf => ?_)
      refine xc_lt (tgt := 42) hx hb dX7_stuckAt_22 (by decide) hf (fun hf => ?_) (fun hf => ?_)
      · obtain ⟨x_3, ex_3, hf⟩ := bnd_el hf
        refine lv_iinc (v := x_3) (lv' := [(3, .int x_3), (0, .ref a0), (1, .int x1), (2, .int x2)]) hx hb dX7_stuckAt_42 hl (k := 3) rfl (by rw [ex_3]; rfl) (Nat.le_of_ble_eq_true rfl) rfl (fun ls hl => ?_)
        refine lv_goto (tgt := 11) hx hb dX7_stuckAt_45 (by decide) ?_
        exact q11 x1 x2 x_3 hf _ _ _ hP hD hS (lv_sub hl [1, 2, 3, 0] rfl)
      · refine lv_iload_n hx hb dX7_stuckAt_25 rfl (lv_at hl 1 rfl) ?_
        refine lv_aload_n hx hb dX7_stuckAt_26 rfl (lv_at hl 0 rfl) ?_
        refine va_get (C := RX7) (T := TX7) (N := 5) hx hb hts i7 hown hK hP 0 rfl rfl 2 (Nat.le_of_ble_eq_true rfl) w6 (fun _ h9 => h9) rfl dX7_stuckAt_27 ?_
        refine lv_iload_n hx hb dX7_stuckAt_30 rfl (lv_at hl 3 rfl) ?_
        refine xiald hx hb hK hP 2 rfl hf dX7_stuckAt_31 (fun hf => ?_)
        refine xc_gt (tgt := 42) hx hb dX7_stuckAt_32 (by decide) hf (fun hf => ?_) (fun hf => ?_)
        · obtain ⟨x_4, ex_4, hf⟩ := bnd_el hf
          refine lv_iinc (v := x_4) (lv' := [(3, .int x_4), (0, .ref a0), (1, .int x1), (2, .int x2)]) hx hb dX7_stuckAt_42 hl (k := 3) rfl (by rw [ex_4]; rfl) (Nat.le_of_ble_eq_true rfl) rfl (fun ls hl => ?_)
          refine lv_goto (tgt := 11) hx hb dX7_stuckAt_45 (by decide) ?_
          exact q11 x1 x2 x_4 hf _ _ _ hP hD hS (lv_sub hl [1, 2, 3, 0] rfl)
        · refine lv_aload_n hx hb dX7_stuckAt_35 rfl (lv_at hl 0 rfl) ?_
          refine va_get (C := RX7) (T := TX7) (N := 5) hx hb hts i7 hown hK hP 0 rfl rfl 3 (Nat.le_of_ble_eq_true rfl) w7 (fun _ h9 => h9) rfl dX7_stuckAt_36 ?_
          refine lv_iload_n hx hb dX7_stuckAt_39 rfl (lv_at hl 3 rfl) ?_
          refine xiald hx hb hK hP 3 rfl hf dX7_stuckAt_40 (fun hf => ?_)
          have he := Option.some.inj hf
          have e_r := he
          refine rt_I hx hb hr hlocks hK hP hD hS hQ e_r ?_ dX7_stuckAt_41
          rfl
  have b11 : ∀ (n : Nat) (x1 : Int32) (x2 : Int32) (x3 : Int32), fb_X7_stuckAt_11 v0 n x1 x2 x3 = some r → ∀ (H : Heap) (locs : List Loc) (ls : Array Slot), va_P D vwCl [(a0, .inr (7, [.ref a1, .ref a2, .ref a3, .ref a4, .int v0.2.2.2.2])), (a2, .inl (ca 0, 4, .inl v0.2.1)), (a3, .inl (ca 0, 4, .inl v0.2.2.1)), (a4, .inl (ca 0, 4, .inl v0.2.2.2.1))] H → va_D A [(a0, .inr (7, [.ref a1, .ref a2, .ref a3, .ref a4, .int v0.2.2.2.2])), (a2, .inl (ca 0, 4, .inl v0.2.1)), (a3, .inl (ca 0, 4, .inl v0.2.2.1)), (a4, .inl (ca 0, 4, .inl v0.2.2.2.1))] → va_S A s.heap H locs → lv_has ls 4 [(0, .ref a0), (1, .int x1), (2, .int x2), (3, .int x3)] → W p l e ({ frames := 1, cells := 0, slots := 0, locals := 21 } : Room) s m args below meth c H locs 0 0 Q (F0 m 11 ls []) := by
    intro n
    induction n with
    | zero => intro x1 x2 x3 hf; exact no_el hf
    | succ n ih => exact bl11 (fb_X7_stuckAt_11 v0 n) ih
  unfold f_X7_stuckAt at hf
  refine lv_aload_n hx hb dX7_stuckAt_0 rfl (lv_at hl 0 rfl) ?_
  refine va_get (C := RX7) (T := TX7) (N := 5) hx hb hts i7 hown hK hP 0 rfl rfl 4 (Nat.le_of_ble_eq_true rfl) w0 (fun _ h9 => h9) rfl dX7_stuckAt_1 ?_
  refine lv_iconst (v := 4) hx hb dX7_stuckAt_4 rfl ?_
  refine va_mmin hx hb (hml.trans hl.1.symm) hown w1 w2 w3 w4 (Nat.le_of_ble_eq_true rfl) (Nat.le_of_ble_eq_true rfl) (Nat.zero_le _) (Nat.zero_le _) dX7_stuckAt_5 ?_
  refine xnm hf (fun x_1 hf => ?_)
  refine lv_iconst (v := 1) hx hb dX7_stuckAt_8 rfl ?_
  refine lv_isub hx hb dX7_stuckAt_9 ?_
  refine xnm hf (fun x_2 hf => ?_)
  refine lv_istore_n (lv' := [(3, .int x_2), (0, .ref a0), (1, .int p1), (2, .int p2)]) hx hb dX7_stuckAt_10 rfl hl (Nat.le_of_ble_eq_true rfl) rfl (fun ls hl => ?_)
  exact b11 FU p1 p2 x_2 hf _ _ _ hP hD hS (lv_sub hl [1, 2, 3, 0] rfl)
abbrev wq_X8_next : List Cond := Cond.code yX8_next cX8_next 3 (some .int) :: GL
set_option maxHeartbeats 4000000 in
set_option maxRecDepth 100000 in
theorem c_X8_next (l : Launch) (D : va_G) (ca : Nat → ClassId) (zz : Nat → Nat) (a0 b0 b1 b2 b3 b4 : Nat) (sz : Nat) (v0 : V8) (v1 : V7) (r : Int32) (v0' : V8) (hf : f_X8_next v0 v1 = some (r, v0')) : Met l yX8_next wq_X8_next ({ frames := 2, cells := 0, slots := 0, locals := 44 } : Room) (PR D ca zz [.ref a0, .ref b0] sz [(a0, .inr (8, [.int v0.1, .int v0.2.1, .int v0.2.2])), (b0, .inr (7, [.ref b1, .ref b2, .ref b3, .ref b4, .int v1.2.2.2.2])), (b1, .inl (ca 0, 9, .inl v1.1)), (b2, .inl (ca 0, 4, .inl v1.2.1)), (b3, .inl (ca 0, 4, .inl v1.2.2.1)), (b4, .inl (ca 0, 4, .inl v1.2.2.2.1))]) (QI D ca r [(a0, .inr (8, [.int v0'.1, .int v0'.2.1, .int v0'.2.2])), (b0, .inr (7, [.ref b1, .ref b2, .ref b3, .ref b4, .int v1.2.2.2.2])), (b1, .inl (ca 0, 9, .inl v1.1)), (b2, .inl (ca 0, 4, .inl v1.2.1)), (b3, .inl (ca 0, 4, .inl v1.2.2.1)), (b4, .inl (ca 0, 4, .inl v1.2.2.2.1))] (va_A [(a0, .inr (8, [.int v0.1, .int v0.2.1, .int v0.2.2])), (b0, .inr (7, [.ref b1, .ref b2, .ref b3, .ref b4, .int v1.2.2.2.2])), (b1, .inl (ca 0, 9, .inl v1.1)), (b2, .inl (ca 0, 4, .inl v1.2.1)), (b3, .inl (ca 0, 4, .inl v1.2.2.1)), (b4, .inl (ca 0, 4, .inl v1.2.2.2.1))] sz)) 0 0 (va_A [(a0, .inr (8, [.int v0.1, .int v0.2.1, .int v0.2.2])), (b0, .inr (7, [.ref b1, .ref b2, .ref b3, .ref b4, .int v1.2.2.2.2])), (b1, .inl (ca 0, 9, .inl v1.1)), (b2, .inl (ca 0, 4, .inl v1.2.1)), (b3, .inl (ca 0, 4, .inl v1.2.2.1)), (b4, .inl (ca 0, 4, .inl v1.2.2.2.1))] sz) := by
  refine en (y := yX8_next) (wsm := wq_X8_next) (av := [.ref a0, .ref b0]) (cc := cX8_next) (maxL := 3) (ret := (some .int)) (Qf := fun A => (QI D ca r [(a0, .inr (8, [.int v0'.1, .int v0'.2.1, .int v0'.2.2])), (b0, .inr (7, [.ref b1, .ref b2, .ref b3, .ref b4, .int v1.2.2.2.2])), (b1, .inl (ca 0, 9, .inl v1.1)), (b2, .inl (ca 0, 4, .inl v1.2.1)), (b3, .inl (ca 0, 4, .inl v1.2.2.1)), (b4, .inl (ca 0, 4, .inl v1.2.2.2.1))] A)) (by decide) rfl (Nat.le_of_ble_eq_true rfl) ?_
  intro p e s m args below meth c A Q ls hx hb hr hml hown hts hlocks hnm hA hN hZ hK hQ hP hD hS hl
  have w0 := hts _ (List.mem_cons_of_mem _ gw_1_113)
  have w1 := hts _ (List.mem_cons_of_mem _ gw_1_111)
  have i8 : ∀ w ∈ u_ws RX8 TX8 3, w ∈ wq_X8_next := fun w h => List.mem_cons_of_mem _ (inX8 w h)
  have b37 : ∀ (v0 : V8) (x2 : Int32), fc_X8_next_37 v1 v0 x2 = some (r, v0') → ∀ (H : Heap) (locs : List Loc) (ls : Array Slot), va_P D vwCl [(a0, .inr (8, [.int v0.1, .int v0.2.1, .int v0.2.2])), (b0, .inr (7, [.ref b1, .ref b2, .ref b3, .ref b4, .int v1.2.2.2.2])), (b1, .inl (ca 0, 9, .inl v1.1)), (b2, .inl (ca 0, 4, .inl v1.2.1)), (b3, .inl (ca 0, 4, .inl v1.2.2.1)), (b4, .inl (ca 0, 4, .inl v1.2.2.2.1))] H → va_D A [(a0, .inr (8, [.int v0.1, .int v0.2.1, .int v0.2.2])), (b0, .inr (7, [.ref b1, .ref b2, .ref b3, .ref b4, .int v1.2.2.2.2])), (b1, .inl (ca 0, 9, .inl v1.1)), (b2, .inl (ca 0, 4, .inl v1.2.1)), (b3, .inl (ca 0, 4, .inl v1.2.2.1)), (b4, .inl (ca 0, 4, .inl v1.2.2.2.1))] → va_S A s.heap H locs → lv_has ls 3 [(0, .ref a0), (1, .ref b0), (2, .int x2)] → W p l e ({ frames := 2, cells := 0, slots := 0, locals := 44 } : Room) s m args below meth c H locs 0 0 Q (F0 m 37 ls []) := by
    intro v0 x2 hf H locs ls hP hD hS hl
    unfold fc_X8_next_37 at hf
    refine lv_aload_n hx hb dX8_next_37 rfl (lv_at hl 0 rfl) ?_
    refine lv_aload_n hx hb dX8_next_38 rfl (lv_at hl 1 rfl) ?_
    refine lv_aload_n hx hb dX8_next_39 rfl (lv_at hl 0 rfl) ?_
    refine va_get (C := RX8) (T := TX8) (N := 3) hx hb hts i8 hown hK hP 0 rfl rfl 1 (Nat.le_of_ble_eq_true rfl) w1 (fun _ h9 => h9) rfl dX8_next_40 ?_
    refine lv_iload_n hx hb dX8_next_43 rfl (lv_at hl 2 rfl) ?_
    obtain ⟨r_4, hc4, hf⟩ := bnd1_el hf
    refine xV_I (As := [.int v0.2.1, .int x2]) (wx := [(a0, .inr (8, [.int v0.1, .int v0.2.1, .int v0.2.2])), (b0, .inr (7, [.ref b1, .ref b2, .ref b3, .ref b4, .int v1.2.2.2.2])), (b1, .inl (ca 0, 9, .inl v1.1)), (b2, .inl (ca 0, 4, .inl v1.2.1)), (b3, .inl (ca 0, 4, .inl v1.2.2.1)), (b4, .inl (ca 0, 4, .inl v1.2.2.2.1))]) ⟨hx, hb, hml, hown, hts⟩ (c_X7_stuckAt l D ca zz b0 b1 b2 b3 b4 _ v1 v0.2.1 x2 r_4 hc4) (cwV 2 hts (gV gw_3_176 gw_3_177 gw_3_178 gw_1_3 gw_3_179) rfl rfl rfl (by decide +kernel) ⟨(Nat.le_of_ble_eq_true rfl), (Nat.le_of_ble_eq_true rfl)⟩) hK hN hZ hA hP hD hS [1, 3, 4, 5] [none, some 0, none, some 1, some 2, some 3] (by decide +kernel) rfl rfl rfl rfl 1 rfl rfl hl.1 rfl (Nat.le_of_ble_eq_true rfl) dX8_next_44 ⟨Nat.zero_le _, Nat.zero_le _⟩ rfl (fun H locs hP hD hS => ?_)
    refine xput (C := RX8) (T := TX8) (N := 3) (wx := [(a0, .inr (8, [.int v0.1, .int v0.2.1, .int r_4])), (b0, .inr (7, [.ref b1, .ref b2, .ref b3, .ref b4, .int v1.2.2.2.2])), (b1, .inl (ca 0, 9, .inl v1.1)), (b2, .inl (ca 0, 4, .inl v1.2.1)), (b3, .inl (ca 0, 4, .inl v1.2.2.1)), (b4, .inl (ca 0, 4, .inl v1.2.2.2.1))]) hx hb hts i8 tyX8 tyX8_ok nmX8 hown hK hP hD hS 0 rfl rfl 2 (Nat.le_of_ble_eq_true rfl) w0 (fun _ h9 => h9) rfl rfl rfl rfl (Nat.le_of_ble_eq_true rfl) dX8_next_47 rfl (fun H locs hP hD hS => ?_)
    refine lv_aload_n hx hb dX8_next_50 rfl (lv_at hl 0 rfl) ?_
    refine lv_dup hx hb dX8_next_51 rfl ?_
    refine va_get (C := RX8) (T := TX8) (N := 3) hx hb hts i8 hown hK hP 0 rfl rfl 1 (Nat.le_of_ble_eq_true rfl) w1 (fun _ h9 => h9) rfl dX8_next_52 ?_
    refine lv_iconst (v := 1) hx hb dX8_next_55 rfl ?_
    refine lv_iadd hx hb dX8_next_56 ?_
    refine xnm hf (fun x_5 hf => ?_)
    refine xput (C := RX8) (T := TX8) (N := 3) (wx := [(a0, .inr (8, [.int v0.1, .int x_5, .int r_4])), (b0, .inr (7, [.ref b1, .ref b2, .ref b3, .ref b4, .int v1.2.2.2.2])), (b1, .inl (ca 0, 9, .inl v1.1)), (b2, .inl (ca 0, 4, .inl v1.2.1)), (b3, .inl (ca 0, 4, .inl v1.2.2.1)), (b4, .inl (ca 0, 4, .inl v1.2.2.2.1))]) hx hb hts i8 tyX8 tyX8_ok nmX8 hown hK hP hD hS 0 rfl rfl 1 (Nat.le_of_ble_eq_true rfl) w1 (fun _ h9 => h9) rfl rfl rfl rfl (Nat.le_of_ble_eq_true rfl) dX8_next_57 rfl (fun H locs hP hD hS => ?_)
    refine lv_aload_n hx hb dX8_next_60 rfl (lv_at hl 0 rfl) ?_
    refine va_get (C := RX8) (T := TX8) (N := 3) hx hb hts i8 hown hK hP 0 rfl rfl 2 (Nat.le_of_ble_eq_true rfl) w0 (fun _ h9 => h9) rfl dX8_next_61 ?_
    have he := Option.some.inj hf
    obtain ⟨e_r, he⟩ := Prod.mk.inj he
    have e_v0 := he
    refine rt_I hx hb hr hlocks hK hP hD hS hQ e_r ?_ dX8_next_64
    simp only [← e_v0]
  have b36 : ∀ (v0 : V8) (t0 : Int32), fc_X8_next_36 v1 v0 t0 = some (r, v0') → ∀ (H : Heap) (locs : List Loc) (ls : Array Slot), va_P D vwCl [(a0, .inr (8, [.int v0.1, .int v0.2.1, .int v0.2.2])), (b0, .inr (7, [.ref b1, .ref b2, .ref b3, .ref b4, .int v1.2.2.2.2])), (b1, .inl (ca 0, 9, .inl v1.1)), (b2, .inl (ca 0, 4, .inl v1.2.1)), (b3, .inl (ca 0, 4, .inl v1.2.2.1)), (b4, .inl (ca 0, 4, .inl v1.2.2.2.1))] H → va_D A [(a0, .inr (8, [.int v0.1, .int v0.2.1, .int v0.2.2])), (b0, .inr (7, [.ref b1, .ref b2, .ref b3, .ref b4, .int v1.2.2.2.2])), (b1, .inl (ca 0, 9, .inl v1.1)), (b2, .inl (ca 0, 4, .inl v1.2.1)), (b3, .inl (ca 0, 4, .inl v1.2.2.1)), (b4, .inl (ca 0, 4, .inl v1.2.2.2.1))] → va_S A s.heap H locs → lv_has ls 3 [(0, .ref a0), (1, .ref b0)] → W p l e ({ frames := 2, cells := 0, slots := 0, locals := 44 } : Room) s m args below meth c H locs 0 0 Q (F0 m 36 ls [.int t0]) := by
    intro v0 t0 hf H locs ls hP hD hS hl
    unfold fc_X8_next_36 at hf
    refine lv_istore_n (lv' := [(2, .int t0), (0, .ref a0), (1, .ref b0)]) hx hb dX8_next_36 rfl hl (Nat.le_of_ble_eq_true rfl) rfl (fun ls hl => ?_)
    exact b37 v0 t0 hf _ _ _ hP hD hS (lv_sub hl [1, 2, 0] rfl)
  unfold f_X8_next at hf
  refine lv_aload_n hx hb dX8_next_0 rfl (lv_at hl 0 rfl) ?_
  refine va_get (C := RX8) (T := TX8) (N := 3) hx hb hts i8 hown hK hP 0 rfl rfl 2 (Nat.le_of_ble_eq_true rfl) w0 (fun _ h9 => h9) rfl dX8_next_1 ?_
  refine lv_istore_n (lv' := [(2, .int v0.2.2), (0, .ref a0), (1, .ref b0)]) hx hb dX8_next_4 rfl hl (Nat.le_of_ble_eq_true rfl) rfl (fun ls hl => ?_)
  refine lv_aload_n hx hb dX8_next_5 rfl (lv_at hl 1 rfl) ?_
  obtain ⟨r_1, u_2, hc2, hf⟩ := bnd2_el hf
  refine xV_I (As := []) (wx := [(a0, .inr (8, [.int u_2.1, .int u_2.2.1, .int u_2.2.2])), (b0, .inr (7, [.ref b1, .ref b2, .ref b3, .ref b4, .int v1.2.2.2.2])), (b1, .inl (ca 0, 9, .inl v1.1)), (b2, .inl (ca 0, 4, .inl v1.2.1)), (b3, .inl (ca 0, 4, .inl v1.2.2.1)), (b4, .inl (ca 0, 4, .inl v1.2.2.2.1))]) ⟨hx, hb, hml, hown, hts⟩ (c_X8_belowSixteen l D ca zz a0 _ v0 r_1 u_2 hc2) (cwV 0 hts (gV gw_3_170 gw_3_172 gw_s_1_8 gw_1_5 gw_3_173) rfl rfl rfl (by decide +kernel) ⟨(Nat.le_of_ble_eq_true rfl), (Nat.le_of_ble_eq_true rfl)⟩) hK hN hZ hA hP hD hS [0] [some 0, none, none, none, none, none] (by decide +kernel) rfl rfl rfl rfl 0 rfl rfl hl.1 rfl (Nat.le_of_ble_eq_true rfl) dX8_next_6 ⟨Nat.zero_le _, Nat.zero_le _⟩ rfl (fun H locs hP hD hS => ?_)
  refine lv_aload_n hx hb dX8_next_9 rfl (lv_at hl 2 rfl) ?_
  refine lv_bipush (v := 7) hx hb dX8_next_10 rfl ?_
  obtain ⟨r_3, hc3, hf⟩ := bnd1_el hf
  refine xV_I (As := [.int (7 : Int32)]) (wx := [(a0, .inr (8, [.int u_2.1, .int u_2.2.1, .int u_2.2.2])), (b0, .inr (7, [.ref b1, .ref b2, .ref b3, .ref b4, .int v1.2.2.2.2])), (b1, .inl (ca 0, 9, .inl v1.1)), (b2, .inl (ca 0, 4, .inl v1.2.1)), (b3, .inl (ca 0, 4, .inl v1.2.2.1)), (b4, .inl (ca 0, 4, .inl v1.2.2.2.1))]) ⟨hx, hb, hml, hown, hts⟩ (c_X7_valueOf l D ca zz b0 b1 b2 b3 b4 _ v1 (7 : Int32) r_3 hc3) (cwV 1 hts (gV gw_3_175 gw_2_15 gw_2_16 gw_1_3 gw_2_17) rfl rfl rfl (by decide +kernel) ⟨(Nat.le_of_ble_eq_true rfl), (Nat.le_of_ble_eq_true rfl)⟩) hK hN hZ hA hP hD hS [1, 2] [none, some 0, some 1, none, none, none] (by decide +kernel) rfl rfl rfl rfl 1 rfl rfl hl.1 rfl (Nat.le_of_ble_eq_true rfl) dX8_next_12 ⟨Nat.zero_le _, Nat.zero_le _⟩ rfl (fun H locs hP hD hS => ?_)
  refine xc_lt (tgt := 37) hx hb dX8_next_15 (by decide) hf (fun hf => ?_) (fun hf => ?_)
  · exact b37 u_2 v0.2.2 hf _ _ _ hP hD hS (lv_sub hl [1, 2, 0] rfl)
  · refine lv_aload_n hx hb dX8_next_18 rfl (lv_at hl 1 rfl) ?_
    obtain ⟨r_6, u_7, hc7, hf⟩ := bnd2_el hf
    refine xV_I (As := []) (wx := [(a0, .inr (8, [.int u_7.1, .int u_7.2.1, .int u_7.2.2])), (b0, .inr (7, [.ref b1, .ref b2, .ref b3, .ref b4, .int v1.2.2.2.2])), (b1, .inl (ca 0, 9, .inl v1.1)), (b2, .inl (ca 0, 4, .inl v1.2.1)), (b3, .inl (ca 0, 4, .inl v1.2.2.1)), (b4, .inl (ca 0, 4, .inl v1.2.2.2.1))]) ⟨hx, hb, hml, hown, hts⟩ (c_X8_belowSixteen l D ca zz a0 _ u_2 r_6 u_7 hc7) (cwV 0 hts (gV gw_3_170 gw_3_172 gw_s_1_8 gw_1_5 gw_3_173) rfl rfl rfl (by decide +kernel) ⟨(Nat.le_of_ble_eq_true rfl), (Nat.le_of_ble_eq_true rfl)⟩) hK hN hZ hA hP hD hS [0] [some 0, none, none, none, none, none] (by decide +kernel) rfl rfl rfl rfl 0 rfl rfl hl.1 rfl (Nat.le_of_ble_eq_true rfl) dX8_next_19 ⟨Nat.zero_le _, Nat.zero_le _⟩ rfl (fun H locs hP hD hS => ?_)
    refine lv_aload_n hx hb dX8_next_22 rfl (lv_at hl 2 rfl) ?_
    refine lv_bipush (v := 6) hx hb dX8_next_23 rfl ?_
    obtain ⟨r_8, hc8, hf⟩ := bnd1_el hf
    refine xV_I (As := [.int (6 : Int32)]) (wx := [(a0, .inr (8, [.int u_7.1, .int u_7.2.1, .int u_7.2.2])), (b0, .inr (7, [.ref b1, .ref b2, .ref b3, .ref b4, .int v1.2.2.2.2])), (b1, .inl (ca 0, 9, .inl v1.1)), (b2, .inl (ca 0, 4, .inl v1.2.1)), (b3, .inl (ca 0, 4, .inl v1.2.2.1)), (b4, .inl (ca 0, 4, .inl v1.2.2.2.1))]) ⟨hx, hb, hml, hown, hts⟩ (c_X7_valueOf l D ca zz b0 b1 b2 b3 b4 _ v1 (6 : Int32) r_8 hc8) (cwV 1 hts (gV gw_3_175 gw_2_15 gw_2_16 gw_1_3 gw_2_17) rfl rfl rfl (by decide +kernel) ⟨(Nat.le_of_ble_eq_true rfl), (Nat.le_of_ble_eq_true rfl)⟩) hK hN hZ hA hP hD hS [1, 2] [none, some 0, some 1, none, none, none] (by decide +kernel) rfl rfl rfl rfl 1 rfl rfl hl.1 rfl (Nat.le_of_ble_eq_true rfl) dX8_next_25 ⟨Nat.zero_le _, Nat.zero_le _⟩ rfl (fun H locs hP hD hS => ?_)
    refine xc_ge (tgt := 35) hx hb dX8_next_28 (by decide) hf (fun hf => ?_) (fun hf => ?_)
    · refine lv_iconst (v := 0) hx hb dX8_next_35 rfl ?_
      exact b36 u_7 (0 : Int32) hf _ _ _ hP hD hS (lv_sub hl [1, 2] rfl)
    · refine lv_iconst (v := 1) hx hb dX8_next_31 rfl ?_
      refine lv_goto (tgt := 36) hx hb dX8_next_32 (by decide) ?_
      exact b36 u_7 (1 : Int32) hf _ _ _ hP hD hS (lv_sub hl [1, 2] rfl)
abbrev wq_X4_dropFirst : List Cond := Cond.code yX4_dropFirst cX4_dropFirst 2 (some .int) :: GL
set_option maxHeartbeats 4000000 in
set_option maxRecDepth 100000 in
theorem c_X4_dropFirst (l : Launch) (D : va_G) (ca : Nat → ClassId) (zz : Nat → Nat) (a0 a1 : Nat) (sz : Nat) (v0 : V4) (r : Int32) (v0' : V4) (hf : f_X4_dropFirst v0 = some (r, v0')) : Met l yX4_dropFirst wq_X4_dropFirst ({ frames := 0, cells := 0, slots := 0, locals := 0 } : Room) (PR D ca zz [.ref a0] sz [(a0, .inr (4, [.ref a1, .int v0.2.1, .int v0.2.2])), (a1, .inl (ca 0, 512, .inl v0.1))]) (QI D ca r [(a0, .inr (4, [.ref a1, .int v0'.2.1, .int v0'.2.2])), (a1, .inl (ca 0, 512, .inl v0'.1))] (va_A [(a0, .inr (4, [.ref a1, .int v0.2.1, .int v0.2.2])), (a1, .inl (ca 0, 512, .inl v0.1))] sz)) 0 0 (va_A [(a0, .inr (4, [.ref a1, .int v0.2.1, .int v0.2.2])), (a1, .inl (ca 0, 512, .inl v0.1))] sz) := by
  refine en (y := yX4_dropFirst) (wsm := wq_X4_dropFirst) (av := [.ref a0]) (cc := cX4_dropFirst) (maxL := 2) (ret := (some .int)) (Qf := fun A => (QI D ca r [(a0, .inr (4, [.ref a1, .int v0'.2.1, .int v0'.2.2])), (a1, .inl (ca 0, 512, .inl v0'.1))] A)) (by decide) rfl (Nat.le_of_ble_eq_true rfl) ?_
  intro p e s m args below meth c A Q ls hx hb hr hml hown hts hlocks hnm hA hN hZ hK hQ hP hD hS hl
  have w0 := hts _ (List.mem_cons_of_mem _ gw_1_167)
  have w1 := hts _ (List.mem_cons_of_mem _ gw_1_165)
  have w2 := hts _ (List.mem_cons_of_mem _ gw_1_166)
  have i4 : ∀ w ∈ u_ws RX4 TX4 3, w ∈ wq_X4_dropFirst := fun w h => List.mem_cons_of_mem _ (inX4 w h)
  unfold f_X4_dropFirst at hf
  refine lv_aload_n hx hb dX4_dropFirst_0 rfl (lv_at hl 0 rfl) ?_
  refine va_get (C := RX4) (T := TX4) (N := 3) hx hb hts i4 hown hK hP 0 rfl rfl 2 (Nat.le_of_ble_eq_true rfl) w0 (fun _ h9 => h9) rfl dX4_dropFirst_1 ?_
  refine xi_gt (tgt := 9) hx hb dX4_dropFirst_4 (by decide) hf (fun hf => ?_) (fun hf => ?_)
  · refine lv_aload_n hx hb dX4_dropFirst_9 rfl (lv_at hl 0 rfl) ?_
    refine va_get (C := RX4) (T := TX4) (N := 3) hx hb hts i4 hown hK hP 0 rfl rfl 0 (Nat.le_of_ble_eq_true rfl) w1 (fun _ h9 => h9) rfl dX4_dropFirst_10 ?_
    refine lv_aload_n hx hb dX4_dropFirst_13 rfl (lv_at hl 0 rfl) ?_
    refine va_get (C := RX4) (T := TX4) (N := 3) hx hb hts i4 hown hK hP 0 rfl rfl 1 (Nat.le_of_ble_eq_true rfl) w2 (fun _ h9 => h9) rfl dX4_dropFirst_14 ?_
    refine lv_sipush (v := 511) hx hb dX4_dropFirst_17 rfl ?_
    refine lv_iand hx hb dX4_dropFirst_20 ?_
    refine xiald hx hb hK hP 1 rfl hf dX4_dropFirst_21 (fun hf => ?_)
    refine xnm hf (fun x_1 hf => ?_)
    refine lv_istore_n (lv' := [(1, .int x_1), (0, .ref a0)]) hx hb dX4_dropFirst_22 rfl hl (Nat.le_of_ble_eq_true rfl) rfl (fun ls hl => ?_)
    refine lv_aload_n hx hb dX4_dropFirst_23 rfl (lv_at hl 1 rfl) ?_
    refine lv_aload_n hx hb dX4_dropFirst_24 rfl (lv_at hl 1 rfl) ?_
    refine va_get (C := RX4) (T := TX4) (N := 3) hx hb hts i4 hown hK hP 0 rfl rfl 1 (Nat.le_of_ble_eq_true rfl) w2 (fun _ h9 => h9) rfl dX4_dropFirst_25 ?_
    refine lv_iconst (v := 1) hx hb dX4_dropFirst_28 rfl ?_
    refine lv_iadd hx hb dX4_dropFirst_29 ?_
    refine lv_sipush (v := 511) hx hb dX4_dropFirst_30 rfl ?_
    refine lv_iand hx hb dX4_dropFirst_33 ?_
    refine xnm hf (fun x_2 hf => ?_)
    refine xput (C := RX4) (T := TX4) (N := 3) (wx := [(a0, .inr (4, [.ref a1, .int x_2, .int v0.2.2])), (a1, .inl (ca 0, 512, .inl v0.1))]) hx hb hts i4 tyX4 tyX4_ok nmX4 hown hK hP hD hS 0 rfl rfl 1 (Nat.le_of_ble_eq_true rfl) w2 (fun _ h9 => h9) rfl rfl rfl rfl (Nat.le_of_ble_eq_true rfl) dX4_dropFirst_34 rfl (fun H locs hP hD hS => ?_)
    refine lv_aload_n hx hb dX4_dropFirst_37 rfl (lv_at hl 1 rfl) ?_
    refine lv_dup hx hb dX4_dropFirst_38 rfl ?_
    refine va_get (C := RX4) (T := TX4) (N := 3) hx hb hts i4 hown hK hP 0 rfl rfl 2 (Nat.le_of_ble_eq_true rfl) w0 (fun _ h9 => h9) rfl dX4_dropFirst_39 ?_
    refine lv_iconst (v := 1) hx hb dX4_dropFirst_42 rfl ?_
    refine lv_isub hx hb dX4_dropFirst_43 ?_
    refine xnm hf (fun x_3 hf => ?_)
    refine xput (C := RX4) (T := TX4) (N := 3) (wx := [(a0, .inr (4, [.ref a1, .int x_2, .int x_3])), (a1, .inl (ca 0, 512, .inl v0.1))]) hx hb hts i4 tyX4 tyX4_ok nmX4 hown hK hP hD hS 0 rfl rfl 2 (Nat.le_of_ble_eq_true rfl) w0 (fun _ h9 => h9) rfl rfl rfl rfl (Nat.le_of_ble_eq_true rfl) dX4_dropFirst_44 rfl (fun H locs hP hD hS => ?_)
    refine lv_iload_n hx hb dX4_dropFirst_47 rfl (lv_at hl 0 rfl) ?_
    have he := Option.some.inj hf
    obtain ⟨e_r, he⟩ := Prod.mk.inj he
    have e_v0 := he
    refine rt_I hx hb hr hlocks hK hP hD hS hQ e_r ?_ dX4_dropFirst_48
    simp only [← e_v0]
  · refine lv_iconst (v := 0) hx hb dX4_dropFirst_7 rfl ?_
    have he := Option.some.inj hf
    obtain ⟨e_r, he⟩ := Prod.mk.inj he
    have e_v0 := he
    refine rt_I hx hb hr hlocks hK hP hD hS hQ e_r ?_ dX4_dropFirst_8
    simp only [← e_v0]
abbrev wq_X4_append : List Cond := Cond.code yX4_append cX4_append 2 none :: GL
set_option maxHeartbeats 4000000 in
set_option maxRecDepth 100000 in
theorem c_X4_append (l : Launch) (D : va_G) (ca : Nat → ClassId) (zz : Nat → Nat) (a0 a1 : Nat) (sz : Nat) (v0 : V4) (p1 : Int32) (v0' : V4) (hf : f_X4_append v0 p1 = some v0') : Met l yX4_append wq_X4_append ({ frames := 0, cells := 0, slots := 0, locals := 0 } : Room) (PR D ca zz [.ref a0, .int p1] sz [(a0, .inr (4, [.ref a1, .int v0.2.1, .int v0.2.2])), (a1, .inl (ca 0, 512, .inl v0.1))]) (QV D ca [(a0, .inr (4, [.ref a1, .int v0'.2.1, .int v0'.2.2])), (a1, .inl (ca 0, 512, .inl v0'.1))] (va_A [(a0, .inr (4, [.ref a1, .int v0.2.1, .int v0.2.2])), (a1, .inl (ca 0, 512, .inl v0.1))] sz)) 0 0 (va_A [(a0, .inr (4, [.ref a1, .int v0.2.1, .int v0.2.2])), (a1, .inl (ca 0, 512, .inl v0.1))] sz) := by
  refine en (y := yX4_append) (wsm := wq_X4_append) (av := [.ref a0, .int p1]) (cc := cX4_append) (maxL := 2) (ret := none) (Qf := fun A => (QV D ca [(a0, .inr (4, [.ref a1, .int v0'.2.1, .int v0'.2.2])), (a1, .inl (ca 0, 512, .inl v0'.1))] A)) (by decide) rfl (Nat.le_of_ble_eq_true rfl) ?_
  intro p e s m args below meth c A Q ls hx hb hr hml hown hts hlocks hnm hA hN hZ hK hQ hP hD hS hl
  have w0 := hts _ (List.mem_cons_of_mem _ gw_1_167)
  have w1 := hts _ (List.mem_cons_of_mem _ gw_1_165)
  have w2 := hts _ (List.mem_cons_of_mem _ gw_1_166)
  have i4 : ∀ w ∈ u_ws RX4 TX4 3, w ∈ wq_X4_append := fun w h => List.mem_cons_of_mem _ (inX4 w h)
  unfold f_X4_append at hf
  refine lv_aload_n hx hb dX4_append_0 rfl (lv_at hl 0 rfl) ?_
  refine va_get (C := RX4) (T := TX4) (N := 3) hx hb hts i4 hown hK hP 0 rfl rfl 2 (Nat.le_of_ble_eq_true rfl) w0 (fun _ h9 => h9) rfl dX4_append_1 ?_
  refine lv_sipush (v := 511) hx hb dX4_append_4 rfl ?_
  refine xc_gt (tgt := 39) hx hb dX4_append_7 (by decide) hf (fun hf => ?_) (fun hf => ?_)
  · have he := Option.some.inj hf
    have e_v0 := he
    refine rt_V hx hb hr hlocks hK hP hD hS hQ ?_ dX4_append_39
    simp only [← e_v0]
  · refine lv_aload_n hx hb dX4_append_10 rfl (lv_at hl 0 rfl) ?_
    refine va_get (C := RX4) (T := TX4) (N := 3) hx hb hts i4 hown hK hP 0 rfl rfl 0 (Nat.le_of_ble_eq_true rfl) w1 (fun _ h9 => h9) rfl dX4_append_11 ?_
    refine lv_aload_n hx hb dX4_append_14 rfl (lv_at hl 0 rfl) ?_
    refine va_get (C := RX4) (T := TX4) (N := 3) hx hb hts i4 hown hK hP 0 rfl rfl 1 (Nat.le_of_ble_eq_true rfl) w2 (fun _ h9 => h9) rfl dX4_append_15 ?_
    refine lv_aload_n hx hb dX4_append_18 rfl (lv_at hl 0 rfl) ?_
    refine va_get (C := RX4) (T := TX4) (N := 3) hx hb hts i4 hown hK hP 0 rfl rfl 2 (Nat.le_of_ble_eq_true rfl) w0 (fun _ h9 => h9) rfl dX4_append_19 ?_
    refine lv_iadd hx hb dX4_append_22 ?_
    refine lv_sipush (v := 511) hx hb dX4_append_23 rfl ?_
    refine lv_iand hx hb dX4_append_26 ?_
    refine lv_iload_n hx hb dX4_append_27 rfl (lv_at hl 1 rfl) ?_
    refine xiast (wx := [(a0, .inr (4, [.ref a1, .int v0.2.1, .int v0.2.2])), (a1, .inl (ca 0, 512, .inl ((upd v0.1 ((v0.2.1 + v0.2.2) &&& (511 : Int32)).toNatClampNeg p1))))]) hx hb hK hP hD hS 1 rfl hf dX4_append_28 rfl (fun H locs hf hP hD hS => ?_)
    obtain ⟨y_1, ey_1, hf⟩ := bnd_el hf
    rw [← ey_1] at hP hD
    refine lv_aload_n hx hb dX4_append_29 rfl (lv_at hl 0 rfl) ?_
    refine lv_dup hx hb dX4_append_30 rfl ?_
    refine va_get (C := RX4) (T := TX4) (N := 3) hx hb hts i4 hown hK hP 0 rfl rfl 2 (Nat.le_of_ble_eq_true rfl) w0 (fun _ h9 => h9) rfl dX4_append_31 ?_
    refine lv_iconst (v := 1) hx hb dX4_append_34 rfl ?_
    refine lv_iadd hx hb dX4_append_35 ?_
    refine xnm hf (fun x_2 hf => ?_)
    refine xput (C := RX4) (T := TX4) (N := 3) (wx := [(a0, .inr (4, [.ref a1, .int v0.2.1, .int x_2])), (a1, .inl (ca 0, 512, .inl y_1))]) hx hb hts i4 tyX4 tyX4_ok nmX4 hown hK hP hD hS 0 rfl rfl 2 (Nat.le_of_ble_eq_true rfl) w0 (fun _ h9 => h9) rfl rfl rfl rfl (Nat.le_of_ble_eq_true rfl) dX4_append_36 rfl (fun H locs hP hD hS => ?_)
    have he := Option.some.inj hf
    have e_v0 := he
    refine rt_V hx hb hr hlocks hK hP hD hS hQ ?_ dX4_append_39
    simp only [← e_v0]
abbrev wq_X6_append : List Cond := Cond.code yX6_append cX6_append 3 none :: GL
set_option maxHeartbeats 4000000 in
set_option maxRecDepth 100000 in
theorem c_X6_append (l : Launch) (D : va_G) (ca : Nat → ClassId) (zz : Nat → Nat) (a0 a1 a2 : Nat) (sz : Nat) (v0 : V6) (p1 : Int32) (v0' : V6) (hf : f_X6_append v0 p1 = some v0') : Met l yX6_append wq_X6_append ({ frames := 0, cells := 0, slots := 0, locals := 0 } : Room) (PR D ca zz [.ref a0, .int p1] sz [(a0, .inr (6, [.ref a1, .ref a2, .int v0.2.2])), (a1, .inl (ca 0, 15, .inl v0.1)), (a2, .inl (ca 0, 15, .inl v0.2.1))]) (QV D ca [(a0, .inr (6, [.ref a1, .ref a2, .int v0'.2.2])), (a1, .inl (ca 0, 15, .inl v0'.1)), (a2, .inl (ca 0, 15, .inl v0'.2.1))] (va_A [(a0, .inr (6, [.ref a1, .ref a2, .int v0.2.2])), (a1, .inl (ca 0, 15, .inl v0.1)), (a2, .inl (ca 0, 15, .inl v0.2.1))] sz)) 0 0 (va_A [(a0, .inr (6, [.ref a1, .ref a2, .int v0.2.2])), (a1, .inl (ca 0, 15, .inl v0.1)), (a2, .inl (ca 0, 15, .inl v0.2.1))] sz) := by
  refine en (y := yX6_append) (wsm := wq_X6_append) (av := [.ref a0, .int p1]) (cc := cX6_append) (maxL := 3) (ret := none) (Qf := fun A => (QV D ca [(a0, .inr (6, [.ref a1, .ref a2, .int v0'.2.2])), (a1, .inl (ca 0, 15, .inl v0'.1)), (a2, .inl (ca 0, 15, .inl v0'.2.1))] A)) (by decide) rfl (Nat.le_of_ble_eq_true rfl) ?_
  intro p e s m args below meth c A Q ls hx hb hr hml hown hts hlocks hnm hA hN hZ hK hQ hP hD hS hl
  have w0 := hts _ (List.mem_cons_of_mem _ gw_1_218)
  have w1 := hts _ (List.mem_cons_of_mem _ gw_1_217)
  have w2 := hts _ (List.mem_cons_of_mem _ gw_1_216)
  have i6 : ∀ w ∈ u_ws RX6 TX6 3, w ∈ wq_X6_append := fun w h => List.mem_cons_of_mem _ (inX6 w h)
  unfold f_X6_append at hf
  refine lv_aload_n hx hb dX6_append_0 rfl (lv_at hl 0 rfl) ?_
  refine va_get (C := RX6) (T := TX6) (N := 3) hx hb hts i6 hown hK hP 0 rfl rfl 2 (Nat.le_of_ble_eq_true rfl) w0 (fun _ h9 => h9) rfl dX6_append_1 ?_
  refine lv_iconst (v := 1) hx hb dX6_append_4 rfl ?_
  refine lv_isub hx hb dX6_append_5 ?_
  refine xnm hf (fun x_1 hf => ?_)
  refine lv_istore_n (lv' := [(2, .int x_1), (0, .ref a0), (1, .int p1)]) hx hb dX6_append_6 rfl hl (Nat.le_of_ble_eq_true rfl) rfl (fun ls hl => ?_)
  refine lv_iload_n hx hb dX6_append_7 rfl (lv_at hl 0 rfl) ?_
  refine xi_lt (tgt := 55) hx hb dX6_append_8 (by decide) hf (fun hf => ?_) (fun hf => ?_)
  · have he := Option.some.inj hf
    have e_v0 := he
    refine rt_V hx hb hr hlocks hK hP hD hS hQ ?_ dX6_append_55
    simp only [← e_v0]
  · refine lv_iload_n hx hb dX6_append_11 rfl (lv_at hl 0 rfl) ?_
    refine lv_bipush (v := 15) hx hb dX6_append_12 rfl ?_
    refine xc_ge (tgt := 55) hx hb dX6_append_14 (by decide) hf (fun hf => ?_) (fun hf => ?_)
    · have he := Option.some.inj hf
      have e_v0 := he
      refine rt_V hx hb hr hlocks hK hP hD hS hQ ?_ dX6_append_55
      simp only [← e_v0]
    · refine lv_aload_n hx hb dX6_append_17 rfl (lv_at hl 1 rfl) ?_
      refine va_get (C := RX6) (T := TX6) (N := 3) hx hb hts i6 hown hK hP 0 rfl rfl 1 (Nat.le_of_ble_eq_true rfl) w1 (fun _ h9 => h9) rfl dX6_append_18 ?_
      refine lv_iload_n hx hb dX6_append_21 rfl (lv_at hl 0 rfl) ?_
      refine xiald hx hb hK hP 2 rfl hf dX6_append_22 (fun hf => ?_)
      refine lv_bipush (v := 15) hx hb dX6_append_23 rfl ?_
      refine xc_ge (tgt := 55) hx hb dX6_append_25 (by decide) hf (fun hf => ?_) (fun hf => ?_)
      · have he := Option.some.inj hf
        have e_v0 := he
        refine rt_V hx hb hr hlocks hK hP hD hS hQ ?_ dX6_append_55
        simp only [← e_v0]
      · refine lv_aload_n hx hb dX6_append_28 rfl (lv_at hl 1 rfl) ?_
        refine va_get (C := RX6) (T := TX6) (N := 3) hx hb hts i6 hown hK hP 0 rfl rfl 0 (Nat.le_of_ble_eq_true rfl) w2 (fun _ h9 => h9) rfl dX6_append_29 ?_
        refine lv_iload_n hx hb dX6_append_32 rfl (lv_at hl 0 rfl) ?_
        refine lv_dup2_11 hx hb dX6_append_33 rfl rfl ?_
        refine xiald hx hb hK hP 1 rfl hf dX6_append_34 (fun hf => ?_)
        refine lv_iload_n hx hb dX6_append_35 rfl (lv_at hl 2 rfl) ?_
        refine lv_aload_n hx hb dX6_append_36 rfl (lv_at hl 1 rfl) ?_
        refine va_get (C := RX6) (T := TX6) (N := 3) hx hb hts i6 hown hK hP 0 rfl rfl 1 (Nat.le_of_ble_eq_true rfl) w1 (fun _ h9 => h9) rfl dX6_append_37 ?_
        refine lv_iload_n hx hb dX6_append_40 rfl (lv_at hl 0 rfl) ?_
        refine xiald hx hb hK hP 2 rfl hf dX6_append_41 (fun hf => ?_)
        refine lv_ishl hx hb dX6_append_42 ?_
        refine lv_ior hx hb dX6_append_43 ?_
        refine xiast (wx := [(a0, .inr (6, [.ref a1, .ref a2, .int v0.2.2])), (a1, .inl (ca 0, 15, .inl ((upd v0.1 (x_1).toNatClampNeg ((v0.1 (x_1).toNatClampNeg) ||| (p1 <<< ((v0.2.1 (x_1).toNatClampNeg) &&& 31))))))), (a2, .inl (ca 0, 15, .inl v0.2.1))]) hx hb hK hP hD hS 1 rfl hf dX6_append_44 rfl (fun H locs hf hP hD hS => ?_)
        obtain ⟨y_2, ey_2, hf⟩ := bnd_el hf
        rw [← ey_2] at hP hD
        refine lv_aload_n hx hb dX6_append_45 rfl (lv_at hl 1 rfl) ?_
        refine va_get (C := RX6) (T := TX6) (N := 3) hx hb hts i6 hown hK hP 0 rfl rfl 1 (Nat.le_of_ble_eq_true rfl) w1 (fun _ h9 => h9) rfl dX6_append_46 ?_
        refine lv_iload_n hx hb dX6_append_49 rfl (lv_at hl 0 rfl) ?_
        refine lv_dup2_11 hx hb dX6_append_50 rfl rfl ?_
        refine xiald hx hb hK hP 2 rfl hf dX6_append_51 (fun hf => ?_)
        refine lv_iconst (v := 1) hx hb dX6_append_52 rfl ?_
        refine lv_iadd hx hb dX6_append_53 ?_
        refine xiast (wx := [(a0, .inr (6, [.ref a1, .ref a2, .int v0.2.2])), (a1, .inl (ca 0, 15, .inl y_2)), (a2, .inl (ca 0, 15, .inl ((upd v0.2.1 (x_1).toNatClampNeg ((v0.2.1 (x_1).toNatClampNeg) + (1 : Int32))))))]) hx hb hK hP hD hS 2 rfl hf dX6_append_54 rfl (fun H locs hf hP hD hS => ?_)
        obtain ⟨y_3, ey_3, hf⟩ := bnd_el hf
        rw [← ey_3] at hP hD
        have he := Option.some.inj hf
        have e_v0 := he
        refine rt_V hx hb hr hlocks hK hP hD hS hQ ?_ dX6_append_55
        simp only [← e_v0]
abbrev wq_X1_hear : List Cond := Cond.code yX1_hear cX1_hear 3 none :: GL
set_option maxHeartbeats 4000000 in
set_option maxRecDepth 100000 in
theorem c_X1_hear (l : Launch) (D : va_G) (ca : Nat → ClassId) (zz : Nat → Nat) (a0 : Nat) (sz : Nat) (v0 : V1) (p1 : Int32) (p2 : Int32) (v0' : V1) (hf : f_X1_hear v0 p1 p2 = some v0') : Met l yX1_hear wq_X1_hear ({ frames := 0, cells := 0, slots := 0, locals := 0 } : Room) (PR D ca zz [.ref a0, .int p1, .int p2] sz [(a0, .inr (1, [.int v0.1, .int v0.2.1, .int v0.2.2.1, .int v0.2.2.2.1, .int v0.2.2.2.2.1, .int v0.2.2.2.2.2]))]) (QV D ca [(a0, .inr (1, [.int v0'.1, .int v0'.2.1, .int v0'.2.2.1, .int v0'.2.2.2.1, .int v0'.2.2.2.2.1, .int v0'.2.2.2.2.2]))] (va_A [(a0, .inr (1, [.int v0.1, .int v0.2.1, .int v0.2.2.1, .int v0.2.2.2.1, .int v0.2.2.2.2.1, .int v0.2.2.2.2.2]))] sz)) 0 0 (va_A [(a0, .inr (1, [.int v0.1, .int v0.2.1, .int v0.2.2.1, .int v0.2.2.2.1, .int v0.2.2.2.2.1, .int v0.2.2.2.2.2]))] sz) := by
  refine en (y := yX1_hear) (wsm := wq_X1_hear) (av := [.ref a0, .int p1, .int p2]) (cc := cX1_hear) (maxL := 3) (ret := none) (Qf := fun A => (QV D ca [(a0, .inr (1, [.int v0'.1, .int v0'.2.1, .int v0'.2.2.1, .int v0'.2.2.2.1, .int v0'.2.2.2.2.1, .int v0'.2.2.2.2.2]))] A)) (by decide) rfl (Nat.le_of_ble_eq_true rfl) ?_
  intro p e s m args below meth c A Q ls hx hb hr hml hown hts hlocks hnm hA hN hZ hK hQ hP hD hS hl
  have w0 := hts _ (List.mem_cons_of_mem _ gw_1_131)
  have w1 := hts _ (List.mem_cons_of_mem _ gw_1_130)
  have w2 := hts _ (List.mem_cons_of_mem _ gw_1_133)
  have w3 := hts _ (List.mem_cons_of_mem _ gw_1_127)
  have w4 := hts _ (List.mem_cons_of_mem _ gw_1_134)
  have w5 := hts _ (List.mem_cons_of_mem _ gw_1_137)
  have i1 : ∀ w ∈ u_ws RX1 TX1 6, w ∈ wq_X1_hear := fun w h => List.mem_cons_of_mem _ (inX1 w h)
  have b100 : ∀ (v0 : V1) (x1 : Int32) (t0 : Int32), fc_X1_hear_100 v0 x1 t0 = some v0' → ∀ (H : Heap) (locs : List Loc) (ls : Array Slot), va_P D vwCl [(a0, .inr (1, [.int v0.1, .int v0.2.1, .int v0.2.2.1, .int v0.2.2.2.1, .int v0.2.2.2.2.1, .int v0.2.2.2.2.2]))] H → va_D A [(a0, .inr (1, [.int v0.1, .int v0.2.1, .int v0.2.2.1, .int v0.2.2.2.1, .int v0.2.2.2.2.1, .int v0.2.2.2.2.2]))] → va_S A s.heap H locs → lv_has ls 3 [(0, .ref a0), (1, .int x1)] → W p l e ({ frames := 0, cells := 0, slots := 0, locals := 0 } : Room) s m args below meth c H locs 0 0 Q (F0 m 100 ls [.int t0, .ref a0]) := by
    intro v0 x1 t0 hf H locs ls hP hD hS hl
    unfold fc_X1_hear_100 at hf
    refine xput (C := RX1) (T := TX1) (N := 6) (wx := [(a0, .inr (1, [.int t0, .int v0.2.1, .int v0.2.2.1, .int v0.2.2.2.1, .int v0.2.2.2.2.1, .int v0.2.2.2.2.2]))]) hx hb hts i1 tyX1 tyX1_ok nmX1 hown hK hP hD hS 0 rfl rfl 0 (Nat.le_of_ble_eq_true rfl) w3 (fun _ h9 => h9) rfl rfl rfl rfl (Nat.le_of_ble_eq_true rfl) dX1_hear_100 rfl (fun H locs hP hD hS => ?_)
    refine lv_aload_n hx hb dX1_hear_103 rfl (lv_at hl 0 rfl) ?_
    refine lv_iload_n hx hb dX1_hear_104 rfl (lv_at hl 1 rfl) ?_
    refine xput (C := RX1) (T := TX1) (N := 6) (wx := [(a0, .inr (1, [.int t0, .int x1, .int v0.2.2.1, .int v0.2.2.2.1, .int v0.2.2.2.2.1, .int v0.2.2.2.2.2]))]) hx hb hts i1 tyX1 tyX1_ok nmX1 hown hK hP hD hS 0 rfl rfl 1 (Nat.le_of_ble_eq_true rfl) w1 (fun _ h9 => h9) rfl rfl rfl rfl (Nat.le_of_ble_eq_true rfl) dX1_hear_105 rfl (fun H locs hP hD hS => ?_)
    refine lv_aload_n hx hb dX1_hear_108 rfl (lv_at hl 0 rfl) ?_
    refine lv_dup hx hb dX1_hear_109 rfl ?_
    refine va_get (C := RX1) (T := TX1) (N := 6) hx hb hts i1 hown hK hP 0 rfl rfl 2 (Nat.le_of_ble_eq_true rfl) w0 (fun _ h9 => h9) rfl dX1_hear_110 ?_
    refine lv_iconst (v := 1) hx hb dX1_hear_113 rfl ?_
    refine lv_iadd hx hb dX1_hear_114 ?_
    refine xnm hf (fun x_1 hf => ?_)
    refine xput (C := RX1) (T := TX1) (N := 6) (wx := [(a0, .inr (1, [.int t0, .int x1, .int x_1, .int v0.2.2.2.1, .int v0.2.2.2.2.1, .int v0.2.2.2.2.2]))]) hx hb hts i1 tyX1 tyX1_ok nmX1 hown hK hP hD hS 0 rfl rfl 2 (Nat.le_of_ble_eq_true rfl) w0 (fun _ h9 => h9) rfl rfl rfl rfl (Nat.le_of_ble_eq_true rfl) dX1_hear_115 rfl (fun H locs hP hD hS => ?_)
    have he := Option.some.inj hf
    have e_v0 := he
    refine rt_V hx hb hr hlocks hK hP hD hS hQ ?_ dX1_hear_118
    simp only [← e_v0]
  have b99 : ∀ (v0 : V1) (x1 : Int32), fc_X1_hear_99 v0 x1 = some v0' → ∀ (H : Heap) (locs : List Loc) (ls : Array Slot), va_P D vwCl [(a0, .inr (1, [.int v0.1, .int v0.2.1, .int v0.2.2.1, .int v0.2.2.2.1, .int v0.2.2.2.2.1, .int v0.2.2.2.2.2]))] H → va_D A [(a0, .inr (1, [.int v0.1, .int v0.2.1, .int v0.2.2.1, .int v0.2.2.2.1, .int v0.2.2.2.2.1, .int v0.2.2.2.2.2]))] → va_S A s.heap H locs → lv_has ls 3 [(0, .ref a0), (1, .int x1)] → W p l e ({ frames := 0, cells := 0, slots := 0, locals := 0 } : Room) s m args below meth c H locs 0 0 Q (F0 m 99 ls [.ref a0]) := by
    intro v0 x1 hf H locs ls hP hD hS hl
    unfold fc_X1_hear_99 at hf
    refine lv_iconst (v := 1) hx hb dX1_hear_99 rfl ?_
    exact b100 v0 x1 (1 : Int32) hf _ _ _ hP hD hS (lv_sub hl [0, 1] rfl)
  have b74 : ∀ (v0 : V1) (x1 : Int32), fc_X1_hear_74 v0 x1 = some v0' → ∀ (H : Heap) (locs : List Loc) (ls : Array Slot), va_P D vwCl [(a0, .inr (1, [.int v0.1, .int v0.2.1, .int v0.2.2.1, .int v0.2.2.2.1, .int v0.2.2.2.2.1, .int v0.2.2.2.2.2]))] H → va_D A [(a0, .inr (1, [.int v0.1, .int v0.2.1, .int v0.2.2.1, .int v0.2.2.2.1, .int v0.2.2.2.2.1, .int v0.2.2.2.2.2]))] → va_S A s.heap H locs → lv_has ls 3 [(0, .ref a0), (1, .int x1)] → W p l e ({ frames := 0, cells := 0, slots := 0, locals := 0 } : Room) s m args below meth c H locs 0 0 Q (F0 m 74 ls []) := by
    intro v0 x1 hf H locs ls hP hD hS hl
    unfold fc_X1_hear_74 at hf
    refine lv_aload_n hx hb dX1_hear_74 rfl (lv_at hl 0 rfl) ?_
    refine lv_aload_n hx hb dX1_hear_75 rfl (lv_at hl 0 rfl) ?_
    refine va_get (C := RX1) (T := TX1) (N := 6) hx hb hts i1 hown hK hP 0 rfl rfl 0 (Nat.le_of_ble_eq_true rfl) w3 (fun _ h9 => h9) rfl dX1_hear_76 ?_
    refine xi_le (tgt := 99) hx hb dX1_hear_79 (by decide) hf (fun hf => ?_) (fun hf => ?_)
    · exact b99 v0 x1 hf _ _ _ hP hD hS (lv_sub hl [0, 1] rfl)
    · refine lv_iload_n hx hb dX1_hear_82 rfl (lv_at hl 1 rfl) ?_
      refine lv_aload_n hx hb dX1_hear_83 rfl (lv_at hl 0 rfl) ?_
      refine va_get (C := RX1) (T := TX1) (N := 6) hx hb hts i1 hown hK hP 0 rfl rfl 1 (Nat.le_of_ble_eq_true rfl) w1 (fun _ h9 => h9) rfl dX1_hear_84 ?_
      refine xc_ne (tgt := 99) hx hb dX1_hear_87 (by decide) hf (fun hf => ?_) (fun hf => ?_)
      · exact b99 v0 x1 hf _ _ _ hP hD hS (lv_sub hl [0, 1] rfl)
      · refine lv_aload_n hx hb dX1_hear_90 rfl (lv_at hl 0 rfl) ?_
        refine va_get (C := RX1) (T := TX1) (N := 6) hx hb hts i1 hown hK hP 0 rfl rfl 0 (Nat.le_of_ble_eq_true rfl) w3 (fun _ h9 => h9) rfl dX1_hear_91 ?_
        refine lv_iconst (v := 1) hx hb dX1_hear_94 rfl ?_
        refine lv_iadd hx hb dX1_hear_95 ?_
        refine lv_goto (tgt := 100) hx hb dX1_hear_96 (by decide) ?_
        exact b100 v0 x1 (v0.1 + (1 : Int32)) hf _ _ _ hP hD hS (lv_sub hl [0, 1] rfl)
  have b56 : ∀ (v0 : V1) (x1 : Int32), fc_X1_hear_56 v0 x1 = some v0' → ∀ (H : Heap) (locs : List Loc) (ls : Array Slot), va_P D vwCl [(a0, .inr (1, [.int v0.1, .int v0.2.1, .int v0.2.2.1, .int v0.2.2.2.1, .int v0.2.2.2.2.1, .int v0.2.2.2.2.2]))] H → va_D A [(a0, .inr (1, [.int v0.1, .int v0.2.1, .int v0.2.2.1, .int v0.2.2.2.1, .int v0.2.2.2.2.1, .int v0.2.2.2.2.2]))] → va_S A s.heap H locs → lv_has ls 3 [(0, .ref a0), (1, .int x1)] → W p l e ({ frames := 0, cells := 0, slots := 0, locals := 0 } : Room) s m args below meth c H locs 0 0 Q (F0 m 56 ls []) := by
    intro v0 x1 hf H locs ls hP hD hS hl
    unfold fc_X1_hear_56 at hf
    refine lv_iload_n hx hb dX1_hear_56 rfl (lv_at hl 1 rfl) ?_
    refine lv_aload_n hx hb dX1_hear_57 rfl (lv_at hl 0 rfl) ?_
    refine va_get (C := RX1) (T := TX1) (N := 6) hx hb hts i1 hown hK hP 0 rfl rfl 3 (Nat.le_of_ble_eq_true rfl) w2 (fun _ h9 => h9) rfl dX1_hear_58 ?_
    refine xc_ne (tgt := 74) hx hb dX1_hear_61 (by decide) hf (fun hf => ?_) (fun hf => ?_)
    · exact b74 v0 x1 hf _ _ _ hP hD hS (lv_sub hl [0, 1] rfl)
    · refine lv_aload_n hx hb dX1_hear_64 rfl (lv_at hl 0 rfl) ?_
      refine lv_dup hx hb dX1_hear_65 rfl ?_
      refine va_get (C := RX1) (T := TX1) (N := 6) hx hb hts i1 hown hK hP 0 rfl rfl 4 (Nat.le_of_ble_eq_true rfl) w4 (fun _ h9 => h9) rfl dX1_hear_66 ?_
      refine lv_iconst (v := 1) hx hb dX1_hear_69 rfl ?_
      refine lv_iadd hx hb dX1_hear_70 ?_
      refine xnm hf (fun x_2 hf => ?_)
      refine xput (C := RX1) (T := TX1) (N := 6) (wx := [(a0, .inr (1, [.int v0.1, .int v0.2.1, .int v0.2.2.1, .int v0.2.2.2.1, .int x_2, .int v0.2.2.2.2.2]))]) hx hb hts i1 tyX1 tyX1_ok nmX1 hown hK hP hD hS 0 rfl rfl 4 (Nat.le_of_ble_eq_true rfl) w4 (fun _ h9 => h9) rfl rfl rfl rfl (Nat.le_of_ble_eq_true rfl) dX1_hear_71 rfl (fun H locs hP hD hS => ?_)
      have jb := b74 ((v0.1, v0.2.1, v0.2.2.1, v0.2.2.2.1, x_2, v0.2.2.2.2.2)) x1
      dsimp only at jb
      exact jb hf _ _ _ hP hD hS (lv_sub hl [0, 1] rfl)
  have b23 : ∀ (v0 : V1) (x1 : Int32), fc_X1_hear_23 v0 x1 = some v0' → ∀ (H : Heap) (locs : List Loc) (ls : Array Slot), va_P D vwCl [(a0, .inr (1, [.int v0.1, .int v0.2.1, .int v0.2.2.1, .int v0.2.2.2.1, .int v0.2.2.2.2.1, .int v0.2.2.2.2.2]))] H → va_D A [(a0, .inr (1, [.int v0.1, .int v0.2.1, .int v0.2.2.1, .int v0.2.2.2.1, .int v0.2.2.2.2.1, .int v0.2.2.2.2.2]))] → va_S A s.heap H locs → lv_has ls 3 [(0, .ref a0), (1, .int x1)] → W p l e ({ frames := 0, cells := 0, slots := 0, locals := 0 } : Room) s m args below meth c H locs 0 0 Q (F0 m 23 ls []) := by
    intro v0 x1 hf H locs ls hP hD hS hl
    unfold fc_X1_hear_23 at hf
    refine lv_aload_n hx hb dX1_hear_23 rfl (lv_at hl 0 rfl) ?_
    refine va_get (C := RX1) (T := TX1) (N := 6) hx hb hts i1 hown hK hP 0 rfl rfl 2 (Nat.le_of_ble_eq_true rfl) w0 (fun _ h9 => h9) rfl dX1_hear_24 ?_
    refine xi_ne (tgt := 38) hx hb dX1_hear_27 (by decide) hf (fun hf => ?_) (fun hf => ?_)
    · refine lv_iload_n hx hb dX1_hear_38 rfl (lv_at hl 1 rfl) ?_
      refine lv_aload_n hx hb dX1_hear_39 rfl (lv_at hl 0 rfl) ?_
      refine va_get (C := RX1) (T := TX1) (N := 6) hx hb hts i1 hown hK hP 0 rfl rfl 1 (Nat.le_of_ble_eq_true rfl) w1 (fun _ h9 => h9) rfl dX1_hear_40 ?_
      refine xc_eq (tgt := 56) hx hb dX1_hear_43 (by decide) hf (fun hf => ?_) (fun hf => ?_)
      · exact b56 v0 x1 hf _ _ _ hP hD hS (lv_sub hl [0, 1] rfl)
      · refine lv_aload_n hx hb dX1_hear_46 rfl (lv_at hl 0 rfl) ?_
        refine lv_dup hx hb dX1_hear_47 rfl ?_
        refine va_get (C := RX1) (T := TX1) (N := 6) hx hb hts i1 hown hK hP 0 rfl rfl 5 (Nat.le_of_ble_eq_true rfl) w5 (fun _ h9 => h9) rfl dX1_hear_48 ?_
        refine lv_iconst (v := 1) hx hb dX1_hear_51 rfl ?_
        refine lv_iadd hx hb dX1_hear_52 ?_
        refine xnm hf (fun x_3 hf => ?_)
        refine xput (C := RX1) (T := TX1) (N := 6) (wx := [(a0, .inr (1, [.int v0.1, .int v0.2.1, .int v0.2.2.1, .int v0.2.2.2.1, .int v0.2.2.2.2.1, .int x_3]))]) hx hb hts i1 tyX1 tyX1_ok nmX1 hown hK hP hD hS 0 rfl rfl 5 (Nat.le_of_ble_eq_true rfl) w5 (fun _ h9 => h9) rfl rfl rfl rfl (Nat.le_of_ble_eq_true rfl) dX1_hear_53 rfl (fun H locs hP hD hS => ?_)
        have jb := b56 ((v0.1, v0.2.1, v0.2.2.1, v0.2.2.2.1, v0.2.2.2.2.1, x_3)) x1
        dsimp only at jb
        exact jb hf _ _ _ hP hD hS (lv_sub hl [0, 1] rfl)
    · refine lv_aload_n hx hb dX1_hear_30 rfl (lv_at hl 0 rfl) ?_
      refine lv_iload_n hx hb dX1_hear_31 rfl (lv_at hl 1 rfl) ?_
      refine xput (C := RX1) (T := TX1) (N := 6) (wx := [(a0, .inr (1, [.int v0.1, .int v0.2.1, .int v0.2.2.1, .int x1, .int v0.2.2.2.2.1, .int v0.2.2.2.2.2]))]) hx hb hts i1 tyX1 tyX1_ok nmX1 hown hK hP hD hS 0 rfl rfl 3 (Nat.le_of_ble_eq_true rfl) w2 (fun _ h9 => h9) rfl rfl rfl rfl (Nat.le_of_ble_eq_true rfl) dX1_hear_32 rfl (fun H locs hP hD hS => ?_)
      refine lv_goto (tgt := 56) hx hb dX1_hear_35 (by decide) ?_
      have jb := b56 ((v0.1, v0.2.1, v0.2.2.1, x1, v0.2.2.2.2)) x1
      dsimp only at jb
      exact jb hf _ _ _ hP hD hS (lv_sub hl [0, 1] rfl)
  unfold f_X1_hear at hf
  refine lv_aload_n hx hb dX1_hear_0 rfl (lv_at hl 0 rfl) ?_
  refine va_get (C := RX1) (T := TX1) (N := 6) hx hb hts i1 hown hK hP 0 rfl rfl 2 (Nat.le_of_ble_eq_true rfl) w0 (fun _ h9 => h9) rfl dX1_hear_1 ?_
  refine lv_iload_n hx hb dX1_hear_4 rfl (lv_at hl 2 rfl) ?_
  refine xc_lt (tgt := 23) hx hb dX1_hear_5 (by decide) hf (fun hf => ?_) (fun hf => ?_)
  · exact b23 v0 p1 hf _ _ _ hP hD hS (lv_sub hl [0, 1] rfl)
  · refine lv_aload_n hx hb dX1_hear_8 rfl (lv_at hl 0 rfl) ?_
    refine lv_iconst (v := 0) hx hb dX1_hear_9 rfl ?_
    refine xput (C := RX1) (T := TX1) (N := 6) (wx := [(a0, .inr (1, [.int v0.1, .int v0.2.1, .int (0 : Int32), .int v0.2.2.2.1, .int v0.2.2.2.2.1, .int v0.2.2.2.2.2]))]) hx hb hts i1 tyX1 tyX1_ok nmX1 hown hK hP hD hS 0 rfl rfl 2 (Nat.le_of_ble_eq_true rfl) w0 (fun _ h9 => h9) rfl rfl rfl rfl (Nat.le_of_ble_eq_true rfl) dX1_hear_10 rfl (fun H locs hP hD hS => ?_)
    refine lv_aload_n hx hb dX1_hear_13 rfl (lv_at hl 0 rfl) ?_
    refine lv_iconst (v := 0) hx hb dX1_hear_14 rfl ?_
    refine xput (C := RX1) (T := TX1) (N := 6) (wx := [(a0, .inr (1, [.int v0.1, .int v0.2.1, .int (0 : Int32), .int v0.2.2.2.1, .int (0 : Int32), .int v0.2.2.2.2.2]))]) hx hb hts i1 tyX1 tyX1_ok nmX1 hown hK hP hD hS 0 rfl rfl 4 (Nat.le_of_ble_eq_true rfl) w4 (fun _ h9 => h9) rfl rfl rfl rfl (Nat.le_of_ble_eq_true rfl) dX1_hear_15 rfl (fun H locs hP hD hS => ?_)
    refine lv_aload_n hx hb dX1_hear_18 rfl (lv_at hl 0 rfl) ?_
    refine lv_iconst (v := 0) hx hb dX1_hear_19 rfl ?_
    refine xput (C := RX1) (T := TX1) (N := 6) (wx := [(a0, .inr (1, [.int v0.1, .int v0.2.1, .int (0 : Int32), .int v0.2.2.2.1, .int (0 : Int32), .int (0 : Int32)]))]) hx hb hts i1 tyX1 tyX1_ok nmX1 hown hK hP hD hS 0 rfl rfl 5 (Nat.le_of_ble_eq_true rfl) w5 (fun _ h9 => h9) rfl rfl rfl rfl (Nat.le_of_ble_eq_true rfl) dX1_hear_20 rfl (fun H locs hP hD hS => ?_)
    have jb := b23 ((v0.1, v0.2.1, (0 : Int32), v0.2.2.2.1, (0 : Int32), (0 : Int32))) p1
    dsimp only at jb
    exact jb hf _ _ _ hP hD hS (lv_sub hl [0, 1] rfl)
abbrev wq_X2_failures : List Cond := Cond.code yX2_failures cX2_failures 3 (some .int) :: GL
set_option maxHeartbeats 4000000 in
set_option maxRecDepth 100000 in
theorem c_X2_failures (l : Launch) (D : va_G) (ca : Nat → ClassId) (zz : Nat → Nat) (a0 a1 b0 : Nat) (sz : Nat) (v0 : V2) (v1 : V1) (r : Int32) (hf : f_X2_failures v0 v1 = some r) : Met l yX2_failures wq_X2_failures ({ frames := 0, cells := 0, slots := 0, locals := 0 } : Room) (PR D ca zz [.ref a0, .ref b0] sz [(a0, .inr (2, [.ref a1, .int v0.2.1, .int v0.2.2.1, .int v0.2.2.2.1, .int v0.2.2.2.2])), (b0, .inr (1, [.int v1.1, .int v1.2.1, .int v1.2.2.1, .int v1.2.2.2.1, .int v1.2.2.2.2.1, .int v1.2.2.2.2.2]))]) (QI D ca r [(a0, .inr (2, [.ref a1, .int v0.2.1, .int v0.2.2.1, .int v0.2.2.2.1, .int v0.2.2.2.2])), (b0, .inr (1, [.int v1.1, .int v1.2.1, .int v1.2.2.1, .int v1.2.2.2.1, .int v1.2.2.2.2.1, .int v1.2.2.2.2.2]))] (va_A [(a0, .inr (2, [.ref a1, .int v0.2.1, .int v0.2.2.1, .int v0.2.2.2.1, .int v0.2.2.2.2])), (b0, .inr (1, [.int v1.1, .int v1.2.1, .int v1.2.2.1, .int v1.2.2.2.1, .int v1.2.2.2.2.1, .int v1.2.2.2.2.2]))] sz)) 0 0 (va_A [(a0, .inr (2, [.ref a1, .int v0.2.1, .int v0.2.2.1, .int v0.2.2.2.1, .int v0.2.2.2.2])), (b0, .inr (1, [.int v1.1, .int v1.2.1, .int v1.2.2.1, .int v1.2.2.2.1, .int v1.2.2.2.2.1, .int v1.2.2.2.2.2]))] sz) := by
  refine en (y := yX2_failures) (wsm := wq_X2_failures) (av := [.ref a0, .ref b0]) (cc := cX2_failures) (maxL := 3) (ret := (some .int)) (Qf := fun A => (QI D ca r [(a0, .inr (2, [.ref a1, .int v0.2.1, .int v0.2.2.1, .int v0.2.2.2.1, .int v0.2.2.2.2])), (b0, .inr (1, [.int v1.1, .int v1.2.1, .int v1.2.2.1, .int v1.2.2.2.1, .int v1.2.2.2.2.1, .int v1.2.2.2.2.2]))] A)) (by decide) rfl (Nat.le_of_ble_eq_true rfl) ?_
  intro p e s m args below meth c A Q ls hx hb hr hml hown hts hlocks hnm hA hN hZ hK hQ hP hD hS hl
  have w0 := hts _ (List.mem_cons_of_mem _ gw_1_83)
  have w1 := hts _ (List.mem_cons_of_mem _ gw_1_86)
  have w2 := hts _ (List.mem_cons_of_mem _ gw_1_89)
  have nw11 := NW.use (args := args) (w := .fieldLinkNest RX2 53 "NoiseWatch$Counts" "alike" "I" "NoiseWatch") hN 11 rfl
  have nw14 := NW.use (args := args) (w := .fieldLinkNest RX2 58 "NoiseWatch$Counts" "like" "I" "NoiseWatch") hN 14 rfl
  have nw16 := NW.use (args := args) (w := .fieldLinkNest RX2 61 "NoiseWatch$Counts" "unlike" "I" "NoiseWatch") hN 16 rfl
  have i1 : ∀ w ∈ u_ws RX1 TX1 6, w ∈ wq_X2_failures := fun w h => List.mem_cons_of_mem _ (inX1 w h)
  have i2 : ∀ w ∈ u_ws RX2 TX2 5, w ∈ wq_X2_failures := fun w h => List.mem_cons_of_mem _ (inX2 w h)
  have b32 : ∀ (x2 : Int32), fc_X2_failures_32 v0 v1 x2 = some r → ∀ (H : Heap) (locs : List Loc) (ls : Array Slot), va_P D vwCl [(a0, .inr (2, [.ref a1, .int v0.2.1, .int v0.2.2.1, .int v0.2.2.2.1, .int v0.2.2.2.2])), (b0, .inr (1, [.int v1.1, .int v1.2.1, .int v1.2.2.1, .int v1.2.2.2.1, .int v1.2.2.2.2.1, .int v1.2.2.2.2.2]))] H → va_D A [(a0, .inr (2, [.ref a1, .int v0.2.1, .int v0.2.2.1, .int v0.2.2.2.1, .int v0.2.2.2.2])), (b0, .inr (1, [.int v1.1, .int v1.2.1, .int v1.2.2.1, .int v1.2.2.2.1, .int v1.2.2.2.2.1, .int v1.2.2.2.2.2]))] → va_S A s.heap H locs → lv_has ls 3 [(0, .ref a0), (1, .ref b0), (2, .int x2)] → W p l e ({ frames := 0, cells := 0, slots := 0, locals := 0 } : Room) s m args below meth c H locs 0 0 Q (F0 m 32 ls []) := by
    intro x2 hf H locs ls hP hD hS hl
    unfold fc_X2_failures_32 at hf
    refine lv_aload_n hx hb dX2_failures_32 rfl (lv_at hl 1 rfl) ?_
    refine va_getN (C := RX1) (T := TX1) (N := 6) hx hb hts i1 hown hK hP 1 rfl rfl 5 (Nat.le_of_ble_eq_true rfl) nw16 (fun _ h9 => h9) rfl dX2_failures_33 ?_
    refine lv_aload_n hx hb dX2_failures_36 rfl (lv_at hl 0 rfl) ?_
    refine va_get (C := RX2) (T := TX2) (N := 5) hx hb hts i2 hown hK hP 0 rfl rfl 4 (Nat.le_of_ble_eq_true rfl) w2 (fun _ h9 => h9) rfl dX2_failures_37 ?_
    refine xc_lt (tgt := 47) hx hb dX2_failures_40 (by decide) hf (fun hf => ?_) (fun hf => ?_)
    · refine lv_iload_n hx hb dX2_failures_47 rfl (lv_at hl 2 rfl) ?_
      have he := Option.some.inj hf
      have e_r := he
      refine rt_I hx hb hr hlocks hK hP hD hS hQ e_r ?_ dX2_failures_48
      rfl
    · refine lv_iload_n hx hb dX2_failures_43 rfl (lv_at hl 2 rfl) ?_
      refine lv_iconst (v := 4) hx hb dX2_failures_44 rfl ?_
      refine lv_ior hx hb dX2_failures_45 ?_
      refine xnm hf (fun x_1 hf => ?_)
      refine lv_istore_n (lv' := [(2, .int x_1), (0, .ref a0), (1, .ref b0)]) hx hb dX2_failures_46 rfl hl (Nat.le_of_ble_eq_true rfl) rfl (fun ls hl => ?_)
      refine lv_iload_n hx hb dX2_failures_47 rfl (lv_at hl 0 rfl) ?_
      have he := Option.some.inj hf
      have e_r := he
      refine rt_I hx hb hr hlocks hK hP hD hS hQ e_r ?_ dX2_failures_48
      rfl
  have b16 : ∀ (t0 : Int32), fc_X2_failures_16 v0 v1 t0 = some r → ∀ (H : Heap) (locs : List Loc) (ls : Array Slot), va_P D vwCl [(a0, .inr (2, [.ref a1, .int v0.2.1, .int v0.2.2.1, .int v0.2.2.2.1, .int v0.2.2.2.2])), (b0, .inr (1, [.int v1.1, .int v1.2.1, .int v1.2.2.1, .int v1.2.2.2.1, .int v1.2.2.2.2.1, .int v1.2.2.2.2.2]))] H → va_D A [(a0, .inr (2, [.ref a1, .int v0.2.1, .int v0.2.2.1, .int v0.2.2.2.1, .int v0.2.2.2.2])), (b0, .inr (1, [.int v1.1, .int v1.2.1, .int v1.2.2.1, .int v1.2.2.2.1, .int v1.2.2.2.2.1, .int v1.2.2.2.2.2]))] → va_S A s.heap H locs → lv_has ls 3 [(0, .ref a0), (1, .ref b0)] → W p l e ({ frames := 0, cells := 0, slots := 0, locals := 0 } : Room) s m args below meth c H locs 0 0 Q (F0 m 16 ls [.int t0]) := by
    intro t0 hf H locs ls hP hD hS hl
    unfold fc_X2_failures_16 at hf
    refine lv_istore_n (lv' := [(2, .int t0), (0, .ref a0), (1, .ref b0)]) hx hb dX2_failures_16 rfl hl (Nat.le_of_ble_eq_true rfl) rfl (fun ls hl => ?_)
    refine lv_aload_n hx hb dX2_failures_17 rfl (lv_at hl 2 rfl) ?_
    refine va_getN (C := RX1) (T := TX1) (N := 6) hx hb hts i1 hown hK hP 1 rfl rfl 4 (Nat.le_of_ble_eq_true rfl) nw14 (fun _ h9 => h9) rfl dX2_failures_18 ?_
    refine lv_aload_n hx hb dX2_failures_21 rfl (lv_at hl 1 rfl) ?_
    refine va_get (C := RX2) (T := TX2) (N := 5) hx hb hts i2 hown hK hP 0 rfl rfl 3 (Nat.le_of_ble_eq_true rfl) w1 (fun _ h9 => h9) rfl dX2_failures_22 ?_
    refine xc_lt (tgt := 32) hx hb dX2_failures_25 (by decide) hf (fun hf => ?_) (fun hf => ?_)
    · exact b32 t0 hf _ _ _ hP hD hS (lv_sub hl [1, 2, 0] rfl)
    · refine lv_iload_n hx hb dX2_failures_28 rfl (lv_at hl 0 rfl) ?_
      refine lv_iconst (v := 2) hx hb dX2_failures_29 rfl ?_
      refine lv_ior hx hb dX2_failures_30 ?_
      refine xnm hf (fun x_2 hf => ?_)
      refine lv_istore_n (lv' := [(2, .int x_2), (0, .ref a0), (1, .ref b0)]) hx hb dX2_failures_31 rfl hl (Nat.le_of_ble_eq_true rfl) rfl (fun ls hl => ?_)
      exact b32 x_2 hf _ _ _ hP hD hS (lv_sub hl [1, 2, 0] rfl)
  unfold f_X2_failures at hf
  refine lv_aload_n hx hb dX2_failures_0 rfl (lv_at hl 1 rfl) ?_
  refine va_getN (C := RX1) (T := TX1) (N := 6) hx hb hts i1 hown hK hP 1 rfl rfl 0 (Nat.le_of_ble_eq_true rfl) nw11 (fun _ h9 => h9) rfl dX2_failures_1 ?_
  refine lv_aload_n hx hb dX2_failures_4 rfl (lv_at hl 0 rfl) ?_
  refine va_get (C := RX2) (T := TX2) (N := 5) hx hb hts i2 hown hK hP 0 rfl rfl 2 (Nat.le_of_ble_eq_true rfl) w0 (fun _ h9 => h9) rfl dX2_failures_5 ?_
  refine xc_lt (tgt := 15) hx hb dX2_failures_8 (by decide) hf (fun hf => ?_) (fun hf => ?_)
  · refine lv_iconst (v := 0) hx hb dX2_failures_15 rfl ?_
    exact b16 (0 : Int32) hf _ _ _ hP hD hS (lv_sub hl [0, 1] rfl)
  · refine lv_iconst (v := 1) hx hb dX2_failures_11 rfl ?_
    refine lv_goto (tgt := 16) hx hb dX2_failures_12 (by decide) ?_
    exact b16 (1 : Int32) hf _ _ _ hP hD hS (lv_sub hl [0, 1] rfl)
abbrev wq_X10_raiseAlarm : List Cond := Cond.code yX10_raiseAlarm cX10_raiseAlarm 2 none :: GL
set_option maxHeartbeats 4000000 in
set_option maxRecDepth 100000 in
theorem c_X10_raiseAlarm (l : Launch) (D : va_G) (ca : Nat → ClassId) (zz : Nat → Nat) (a0 a1 a2 a3 a4 a5 a6 a7 a8 a9 a10 a11 a12 a13 a14 a15 a16 a17 a18 a19 : Nat) (sz : Nat) (v0 : V10) (p1 : Int32) (v0' : V10) (hf : f_X10_raiseAlarm v0 p1 = some v0') : Met l yX10_raiseAlarm wq_X10_raiseAlarm ({ frames := 2, cells := 0, slots := 0, locals := 40 } : Room) (PR D ca zz [.ref a0, .int p1] sz [(a0, .inr (10, [.ref a1, .ref a6, .ref a8, .ref a9, .ref a10, .ref a13, .ref a15, .ref a18, .int v0.2.2.2.2.2.2.2.2.1, .int v0.2.2.2.2.2.2.2.2.2.1, .int v0.2.2.2.2.2.2.2.2.2.2.1, .int v0.2.2.2.2.2.2.2.2.2.2.2.1, .int v0.2.2.2.2.2.2.2.2.2.2.2.2.1, .int v0.2.2.2.2.2.2.2.2.2.2.2.2.2])), (a1, .inr (7, [.ref a2, .ref a3, .ref a4, .ref a5, .int v0.1.2.2.2.2])), (a2, .inl (ca 0, 9, .inl v0.1.1)), (a3, .inl (ca 0, 4, .inl v0.1.2.1)), (a4, .inl (ca 0, 4, .inl v0.1.2.2.1)), (a5, .inl (ca 0, 4, .inl v0.1.2.2.2.1)), (a6, .inr (2, [.ref a7, .int v0.2.1.2.1, .int v0.2.1.2.2.1, .int v0.2.1.2.2.2.1, .int v0.2.1.2.2.2.2])), (a7, .inl (ca 1, 17, .inr (.inl v0.2.1.1))), (a8, .inr (8, [.int v0.2.2.1.1, .int v0.2.2.1.2.1, .int v0.2.2.1.2.2])), (a9, .inr (1, [.int v0.2.2.2.1.1, .int v0.2.2.2.1.2.1, .int v0.2.2.2.1.2.2.1, .int v0.2.2.2.1.2.2.2.1, .int v0.2.2.2.1.2.2.2.2.1, .int v0.2.2.2.1.2.2.2.2.2])), (a10, .inr (3, [.ref a11, .int v0.2.2.2.2.1.2.1, .int v0.2.2.2.2.1.2.2.1, .int v0.2.2.2.2.1.2.2.2.1, .int v0.2.2.2.2.1.2.2.2.2.1, .int v0.2.2.2.2.1.2.2.2.2.2.1, .int v0.2.2.2.2.1.2.2.2.2.2.2])), (a11, .inr (4, [.ref a12, .int v0.2.2.2.2.1.1.2.1, .int v0.2.2.2.2.1.1.2.2])), (a12, .inl (ca 0, 512, .inl v0.2.2.2.2.1.1.1)), (a13, .inr (4, [.ref a14, .int v0.2.2.2.2.2.1.2.1, .int v0.2.2.2.2.2.1.2.2])), (a14, .inl (ca 0, 512, .inl v0.2.2.2.2.2.1.1)), (a15, .inr (6, [.ref a16, .ref a17, .int v0.2.2.2.2.2.2.1.2.2])), (a16, .inl (ca 0, 15, .inl v0.2.2.2.2.2.2.1.1)), (a17, .inl (ca 0, 15, .inl v0.2.2.2.2.2.2.1.2.1)), (a18, .inr (9, [.ref a19, .int v0.2.2.2.2.2.2.2.1.2.1, .int v0.2.2.2.2.2.2.2.1.2.2.1, .int v0.2.2.2.2.2.2.2.1.2.2.2])), (a19, .inl (ca 0, 300, .inl v0.2.2.2.2.2.2.2.1.1))]) (QV D ca [(a0, .inr (10, [.ref a1, .ref a6, .ref a8, .ref a9, .ref a10, .ref a13, .ref a15, .ref a18, .int v0'.2.2.2.2.2.2.2.2.1, .int v0'.2.2.2.2.2.2.2.2.2.1, .int v0'.2.2.2.2.2.2.2.2.2.2.1, .int v0'.2.2.2.2.2.2.2.2.2.2.2.1, .int v0'.2.2.2.2.2.2.2.2.2.2.2.2.1, .int v0'.2.2.2.2.2.2.2.2.2.2.2.2.2])), (a1, .inr (7, [.ref a2, .ref a3, .ref a4, .ref a5, .int v0'.1.2.2.2.2])), (a2, .inl (ca 0, 9, .inl v0'.1.1)), (a3, .inl (ca 0, 4, .inl v0'.1.2.1)), (a4, .inl (ca 0, 4, .inl v0'.1.2.2.1)), (a5, .inl (ca 0, 4, .inl v0'.1.2.2.2.1)), (a6, .inr (2, [.ref a7, .int v0'.2.1.2.1, .int v0'.2.1.2.2.1, .int v0'.2.1.2.2.2.1, .int v0'.2.1.2.2.2.2])), (a7, .inl (ca 1, 17, .inr (.inl v0'.2.1.1))), (a8, .inr (8, [.int v0'.2.2.1.1, .int v0'.2.2.1.2.1, .int v0'.2.2.1.2.2])), (a9, .inr (1, [.int v0'.2.2.2.1.1, .int v0'.2.2.2.1.2.1, .int v0'.2.2.2.1.2.2.1, .int v0'.2.2.2.1.2.2.2.1, .int v0'.2.2.2.1.2.2.2.2.1, .int v0'.2.2.2.1.2.2.2.2.2])), (a10, .inr (3, [.ref a11, .int v0'.2.2.2.2.1.2.1, .int v0'.2.2.2.2.1.2.2.1, .int v0'.2.2.2.2.1.2.2.2.1, .int v0'.2.2.2.2.1.2.2.2.2.1, .int v0'.2.2.2.2.1.2.2.2.2.2.1, .int v0'.2.2.2.2.1.2.2.2.2.2.2])), (a11, .inr (4, [.ref a12, .int v0'.2.2.2.2.1.1.2.1, .int v0'.2.2.2.2.1.1.2.2])), (a12, .inl (ca 0, 512, .inl v0'.2.2.2.2.1.1.1)), (a13, .inr (4, [.ref a14, .int v0'.2.2.2.2.2.1.2.1, .int v0'.2.2.2.2.2.1.2.2])), (a14, .inl (ca 0, 512, .inl v0'.2.2.2.2.2.1.1)), (a15, .inr (6, [.ref a16, .ref a17, .int v0'.2.2.2.2.2.2.1.2.2])), (a16, .inl (ca 0, 15, .inl v0'.2.2.2.2.2.2.1.1)), (a17, .inl (ca 0, 15, .inl v0'.2.2.2.2.2.2.1.2.1)), (a18, .inr (9, [.ref a19, .int v0'.2.2.2.2.2.2.2.1.2.1, .int v0'.2.2.2.2.2.2.2.1.2.2.1, .int v0'.2.2.2.2.2.2.2.1.2.2.2])), (a19, .inl (ca 0, 300, .inl v0'.2.2.2.2.2.2.2.1.1))] (va_A [(a0, .inr (10, [.ref a1, .ref a6, .ref a8, .ref a9, .ref a10, .ref a13, .ref a15, .ref a18, .int v0.2.2.2.2.2.2.2.2.1, .int v0.2.2.2.2.2.2.2.2.2.1, .int v0.2.2.2.2.2.2.2.2.2.2.1, .int v0.2.2.2.2.2.2.2.2.2.2.2.1, .int v0.2.2.2.2.2.2.2.2.2.2.2.2.1, .int v0.2.2.2.2.2.2.2.2.2.2.2.2.2])), (a1, .inr (7, [.ref a2, .ref a3, .ref a4, .ref a5, .int v0.1.2.2.2.2])), (a2, .inl (ca 0, 9, .inl v0.1.1)), (a3, .inl (ca 0, 4, .inl v0.1.2.1)), (a4, .inl (ca 0, 4, .inl v0.1.2.2.1)), (a5, .inl (ca 0, 4, .inl v0.1.2.2.2.1)), (a6, .inr (2, [.ref a7, .int v0.2.1.2.1, .int v0.2.1.2.2.1, .int v0.2.1.2.2.2.1, .int v0.2.1.2.2.2.2])), (a7, .inl (ca 1, 17, .inr (.inl v0.2.1.1))), (a8, .inr (8, [.int v0.2.2.1.1, .int v0.2.2.1.2.1, .int v0.2.2.1.2.2])), (a9, .inr (1, [.int v0.2.2.2.1.1, .int v0.2.2.2.1.2.1, .int v0.2.2.2.1.2.2.1, .int v0.2.2.2.1.2.2.2.1, .int v0.2.2.2.1.2.2.2.2.1, .int v0.2.2.2.1.2.2.2.2.2])), (a10, .inr (3, [.ref a11, .int v0.2.2.2.2.1.2.1, .int v0.2.2.2.2.1.2.2.1, .int v0.2.2.2.2.1.2.2.2.1, .int v0.2.2.2.2.1.2.2.2.2.1, .int v0.2.2.2.2.1.2.2.2.2.2.1, .int v0.2.2.2.2.1.2.2.2.2.2.2])), (a11, .inr (4, [.ref a12, .int v0.2.2.2.2.1.1.2.1, .int v0.2.2.2.2.1.1.2.2])), (a12, .inl (ca 0, 512, .inl v0.2.2.2.2.1.1.1)), (a13, .inr (4, [.ref a14, .int v0.2.2.2.2.2.1.2.1, .int v0.2.2.2.2.2.1.2.2])), (a14, .inl (ca 0, 512, .inl v0.2.2.2.2.2.1.1)), (a15, .inr (6, [.ref a16, .ref a17, .int v0.2.2.2.2.2.2.1.2.2])), (a16, .inl (ca 0, 15, .inl v0.2.2.2.2.2.2.1.1)), (a17, .inl (ca 0, 15, .inl v0.2.2.2.2.2.2.1.2.1)), (a18, .inr (9, [.ref a19, .int v0.2.2.2.2.2.2.2.1.2.1, .int v0.2.2.2.2.2.2.2.1.2.2.1, .int v0.2.2.2.2.2.2.2.1.2.2.2])), (a19, .inl (ca 0, 300, .inl v0.2.2.2.2.2.2.2.1.1))] sz)) 0 0 (va_A [(a0, .inr (10, [.ref a1, .ref a6, .ref a8, .ref a9, .ref a10, .ref a13, .ref a15, .ref a18, .int v0.2.2.2.2.2.2.2.2.1, .int v0.2.2.2.2.2.2.2.2.2.1, .int v0.2.2.2.2.2.2.2.2.2.2.1, .int v0.2.2.2.2.2.2.2.2.2.2.2.1, .int v0.2.2.2.2.2.2.2.2.2.2.2.2.1, .int v0.2.2.2.2.2.2.2.2.2.2.2.2.2])), (a1, .inr (7, [.ref a2, .ref a3, .ref a4, .ref a5, .int v0.1.2.2.2.2])), (a2, .inl (ca 0, 9, .inl v0.1.1)), (a3, .inl (ca 0, 4, .inl v0.1.2.1)), (a4, .inl (ca 0, 4, .inl v0.1.2.2.1)), (a5, .inl (ca 0, 4, .inl v0.1.2.2.2.1)), (a6, .inr (2, [.ref a7, .int v0.2.1.2.1, .int v0.2.1.2.2.1, .int v0.2.1.2.2.2.1, .int v0.2.1.2.2.2.2])), (a7, .inl (ca 1, 17, .inr (.inl v0.2.1.1))), (a8, .inr (8, [.int v0.2.2.1.1, .int v0.2.2.1.2.1, .int v0.2.2.1.2.2])), (a9, .inr (1, [.int v0.2.2.2.1.1, .int v0.2.2.2.1.2.1, .int v0.2.2.2.1.2.2.1, .int v0.2.2.2.1.2.2.2.1, .int v0.2.2.2.1.2.2.2.2.1, .int v0.2.2.2.1.2.2.2.2.2])), (a10, .inr (3, [.ref a11, .int v0.2.2.2.2.1.2.1, .int v0.2.2.2.2.1.2.2.1, .int v0.2.2.2.2.1.2.2.2.1, .int v0.2.2.2.2.1.2.2.2.2.1, .int v0.2.2.2.2.1.2.2.2.2.2.1, .int v0.2.2.2.2.1.2.2.2.2.2.2])), (a11, .inr (4, [.ref a12, .int v0.2.2.2.2.1.1.2.1, .int v0.2.2.2.2.1.1.2.2])), (a12, .inl (ca 0, 512, .inl v0.2.2.2.2.1.1.1)), (a13, .inr (4, [.ref a14, .int v0.2.2.2.2.2.1.2.1, .int v0.2.2.2.2.2.1.2.2])), (a14, .inl (ca 0, 512, .inl v0.2.2.2.2.2.1.1)), (a15, .inr (6, [.ref a16, .ref a17, .int v0.2.2.2.2.2.2.1.2.2])), (a16, .inl (ca 0, 15, .inl v0.2.2.2.2.2.2.1.1)), (a17, .inl (ca 0, 15, .inl v0.2.2.2.2.2.2.1.2.1)), (a18, .inr (9, [.ref a19, .int v0.2.2.2.2.2.2.2.1.2.1, .int v0.2.2.2.2.2.2.2.1.2.2.1, .int v0.2.2.2.2.2.2.2.1.2.2.2])), (a19, .inl (ca 0, 300, .inl v0.2.2.2.2.2.2.2.1.1))] sz) := by
  refine en (y := yX10_raiseAlarm) (wsm := wq_X10_raiseAlarm) (av := [.ref a0, .int p1]) (cc := cX10_raiseAlarm) (maxL := 2) (ret := none) (Qf := fun A => (QV D ca [(a0, .inr (10, [.ref a1, .ref a6, .ref a8, .ref a9, .ref a10, .ref a13, .ref a15, .ref a18, .int v0'.2.2.2.2.2.2.2.2.1, .int v0'.2.2.2.2.2.2.2.2.2.1, .int v0'.2.2.2.2.2.2.2.2.2.2.1, .int v0'.2.2.2.2.2.2.2.2.2.2.2.1, .int v0'.2.2.2.2.2.2.2.2.2.2.2.2.1, .int v0'.2.2.2.2.2.2.2.2.2.2.2.2.2])), (a1, .inr (7, [.ref a2, .ref a3, .ref a4, .ref a5, .int v0'.1.2.2.2.2])), (a2, .inl (ca 0, 9, .inl v0'.1.1)), (a3, .inl (ca 0, 4, .inl v0'.1.2.1)), (a4, .inl (ca 0, 4, .inl v0'.1.2.2.1)), (a5, .inl (ca 0, 4, .inl v0'.1.2.2.2.1)), (a6, .inr (2, [.ref a7, .int v0'.2.1.2.1, .int v0'.2.1.2.2.1, .int v0'.2.1.2.2.2.1, .int v0'.2.1.2.2.2.2])), (a7, .inl (ca 1, 17, .inr (.inl v0'.2.1.1))), (a8, .inr (8, [.int v0'.2.2.1.1, .int v0'.2.2.1.2.1, .int v0'.2.2.1.2.2])), (a9, .inr (1, [.int v0'.2.2.2.1.1, .int v0'.2.2.2.1.2.1, .int v0'.2.2.2.1.2.2.1, .int v0'.2.2.2.1.2.2.2.1, .int v0'.2.2.2.1.2.2.2.2.1, .int v0'.2.2.2.1.2.2.2.2.2])), (a10, .inr (3, [.ref a11, .int v0'.2.2.2.2.1.2.1, .int v0'.2.2.2.2.1.2.2.1, .int v0'.2.2.2.2.1.2.2.2.1, .int v0'.2.2.2.2.1.2.2.2.2.1, .int v0'.2.2.2.2.1.2.2.2.2.2.1, .int v0'.2.2.2.2.1.2.2.2.2.2.2])), (a11, .inr (4, [.ref a12, .int v0'.2.2.2.2.1.1.2.1, .int v0'.2.2.2.2.1.1.2.2])), (a12, .inl (ca 0, 512, .inl v0'.2.2.2.2.1.1.1)), (a13, .inr (4, [.ref a14, .int v0'.2.2.2.2.2.1.2.1, .int v0'.2.2.2.2.2.1.2.2])), (a14, .inl (ca 0, 512, .inl v0'.2.2.2.2.2.1.1)), (a15, .inr (6, [.ref a16, .ref a17, .int v0'.2.2.2.2.2.2.1.2.2])), (a16, .inl (ca 0, 15, .inl v0'.2.2.2.2.2.2.1.1)), (a17, .inl (ca 0, 15, .inl v0'.2.2.2.2.2.2.1.2.1)), (a18, .inr (9, [.ref a19, .int v0'.2.2.2.2.2.2.2.1.2.1, .int v0'.2.2.2.2.2.2.2.1.2.2.1, .int v0'.2.2.2.2.2.2.2.1.2.2.2])), (a19, .inl (ca 0, 300, .inl v0'.2.2.2.2.2.2.2.1.1))] A)) (by decide) rfl (Nat.le_of_ble_eq_true rfl) ?_
  intro p e s m args below meth c A Q ls hx hb hr hml hown hts hlocks hnm hA hN hZ hK hQ hP hD hS hl
  have w0 := hts _ (List.mem_cons_of_mem _ gw_2_87)
  have w1 := hts _ (List.mem_cons_of_mem _ gw_2_88)
  have w2 := hts _ (List.mem_cons_of_mem _ gw_2_85)
  have w3 := hts _ (List.mem_cons_of_mem _ gw_2_77)
  have i10 : ∀ w ∈ u_ws RX10 TX10 14, w ∈ wq_X10_raiseAlarm := fun w h => List.mem_cons_of_mem _ (inX10 w h)
  unfold f_X10_raiseAlarm at hf
  refine lv_aload_n hx hb dX10_raiseAlarm_0 rfl (lv_at hl 0 rfl) ?_
  refine lv_iload_n hx hb dX10_raiseAlarm_1 rfl (lv_at hl 1 rfl) ?_
  refine xput (C := RX10) (T := TX10) (N := 14) (wx := [(a0, .inr (10, [.ref a1, .ref a6, .ref a8, .ref a9, .ref a10, .ref a13, .ref a15, .ref a18, .int v0.2.2.2.2.2.2.2.2.1, .int p1, .int v0.2.2.2.2.2.2.2.2.2.2.1, .int v0.2.2.2.2.2.2.2.2.2.2.2.1, .int v0.2.2.2.2.2.2.2.2.2.2.2.2.1, .int v0.2.2.2.2.2.2.2.2.2.2.2.2.2])), (a1, .inr (7, [.ref a2, .ref a3, .ref a4, .ref a5, .int v0.1.2.2.2.2])), (a2, .inl (ca 0, 9, .inl v0.1.1)), (a3, .inl (ca 0, 4, .inl v0.1.2.1)), (a4, .inl (ca 0, 4, .inl v0.1.2.2.1)), (a5, .inl (ca 0, 4, .inl v0.1.2.2.2.1)), (a6, .inr (2, [.ref a7, .int v0.2.1.2.1, .int v0.2.1.2.2.1, .int v0.2.1.2.2.2.1, .int v0.2.1.2.2.2.2])), (a7, .inl (ca 1, 17, .inr (.inl v0.2.1.1))), (a8, .inr (8, [.int v0.2.2.1.1, .int v0.2.2.1.2.1, .int v0.2.2.1.2.2])), (a9, .inr (1, [.int v0.2.2.2.1.1, .int v0.2.2.2.1.2.1, .int v0.2.2.2.1.2.2.1, .int v0.2.2.2.1.2.2.2.1, .int v0.2.2.2.1.2.2.2.2.1, .int v0.2.2.2.1.2.2.2.2.2])), (a10, .inr (3, [.ref a11, .int v0.2.2.2.2.1.2.1, .int v0.2.2.2.2.1.2.2.1, .int v0.2.2.2.2.1.2.2.2.1, .int v0.2.2.2.2.1.2.2.2.2.1, .int v0.2.2.2.2.1.2.2.2.2.2.1, .int v0.2.2.2.2.1.2.2.2.2.2.2])), (a11, .inr (4, [.ref a12, .int v0.2.2.2.2.1.1.2.1, .int v0.2.2.2.2.1.1.2.2])), (a12, .inl (ca 0, 512, .inl v0.2.2.2.2.1.1.1)), (a13, .inr (4, [.ref a14, .int v0.2.2.2.2.2.1.2.1, .int v0.2.2.2.2.2.1.2.2])), (a14, .inl (ca 0, 512, .inl v0.2.2.2.2.2.1.1)), (a15, .inr (6, [.ref a16, .ref a17, .int v0.2.2.2.2.2.2.1.2.2])), (a16, .inl (ca 0, 15, .inl v0.2.2.2.2.2.2.1.1)), (a17, .inl (ca 0, 15, .inl v0.2.2.2.2.2.2.1.2.1)), (a18, .inr (9, [.ref a19, .int v0.2.2.2.2.2.2.2.1.2.1, .int v0.2.2.2.2.2.2.2.1.2.2.1, .int v0.2.2.2.2.2.2.2.1.2.2.2])), (a19, .inl (ca 0, 300, .inl v0.2.2.2.2.2.2.2.1.1))]) hx hb hts i10 tyX10 tyX10_ok nmX10 hown hK hP hD hS 0 rfl rfl 9 (Nat.le_of_ble_eq_true rfl) w0 (fun _ h9 => h9) rfl rfl rfl rfl (Nat.le_of_ble_eq_true rfl) dX10_raiseAlarm_2 rfl (fun H locs hP hD hS => ?_)
  refine lv_aload_n hx hb dX10_raiseAlarm_5 rfl (lv_at hl 0 rfl) ?_
  refine lv_dup hx hb dX10_raiseAlarm_6 rfl ?_
  refine va_get (C := RX10) (T := TX10) (N := 14) hx hb hts i10 hown hK hP 0 rfl rfl 10 (Nat.le_of_ble_eq_true rfl) w1 (fun _ h9 => h9) rfl dX10_raiseAlarm_7 ?_
  refine lv_iconst (v := 1) hx hb dX10_raiseAlarm_10 rfl ?_
  refine lv_iadd hx hb dX10_raiseAlarm_11 ?_
  refine xnm hf (fun x_1 hf => ?_)
  refine xput (C := RX10) (T := TX10) (N := 14) (wx := [(a0, .inr (10, [.ref a1, .ref a6, .ref a8, .ref a9, .ref a10, .ref a13, .ref a15, .ref a18, .int v0.2.2.2.2.2.2.2.2.1, .int p1, .int x_1, .int v0.2.2.2.2.2.2.2.2.2.2.2.1, .int v0.2.2.2.2.2.2.2.2.2.2.2.2.1, .int v0.2.2.2.2.2.2.2.2.2.2.2.2.2])), (a1, .inr (7, [.ref a2, .ref a3, .ref a4, .ref a5, .int v0.1.2.2.2.2])), (a2, .inl (ca 0, 9, .inl v0.1.1)), (a3, .inl (ca 0, 4, .inl v0.1.2.1)), (a4, .inl (ca 0, 4, .inl v0.1.2.2.1)), (a5, .inl (ca 0, 4, .inl v0.1.2.2.2.1)), (a6, .inr (2, [.ref a7, .int v0.2.1.2.1, .int v0.2.1.2.2.1, .int v0.2.1.2.2.2.1, .int v0.2.1.2.2.2.2])), (a7, .inl (ca 1, 17, .inr (.inl v0.2.1.1))), (a8, .inr (8, [.int v0.2.2.1.1, .int v0.2.2.1.2.1, .int v0.2.2.1.2.2])), (a9, .inr (1, [.int v0.2.2.2.1.1, .int v0.2.2.2.1.2.1, .int v0.2.2.2.1.2.2.1, .int v0.2.2.2.1.2.2.2.1, .int v0.2.2.2.1.2.2.2.2.1, .int v0.2.2.2.1.2.2.2.2.2])), (a10, .inr (3, [.ref a11, .int v0.2.2.2.2.1.2.1, .int v0.2.2.2.2.1.2.2.1, .int v0.2.2.2.2.1.2.2.2.1, .int v0.2.2.2.2.1.2.2.2.2.1, .int v0.2.2.2.2.1.2.2.2.2.2.1, .int v0.2.2.2.2.1.2.2.2.2.2.2])), (a11, .inr (4, [.ref a12, .int v0.2.2.2.2.1.1.2.1, .int v0.2.2.2.2.1.1.2.2])), (a12, .inl (ca 0, 512, .inl v0.2.2.2.2.1.1.1)), (a13, .inr (4, [.ref a14, .int v0.2.2.2.2.2.1.2.1, .int v0.2.2.2.2.2.1.2.2])), (a14, .inl (ca 0, 512, .inl v0.2.2.2.2.2.1.1)), (a15, .inr (6, [.ref a16, .ref a17, .int v0.2.2.2.2.2.2.1.2.2])), (a16, .inl (ca 0, 15, .inl v0.2.2.2.2.2.2.1.1)), (a17, .inl (ca 0, 15, .inl v0.2.2.2.2.2.2.1.2.1)), (a18, .inr (9, [.ref a19, .int v0.2.2.2.2.2.2.2.1.2.1, .int v0.2.2.2.2.2.2.2.1.2.2.1, .int v0.2.2.2.2.2.2.2.1.2.2.2])), (a19, .inl (ca 0, 300, .inl v0.2.2.2.2.2.2.2.1.1))]) hx hb hts i10 tyX10 tyX10_ok nmX10 hown hK hP hD hS 0 rfl rfl 10 (Nat.le_of_ble_eq_true rfl) w1 (fun _ h9 => h9) rfl rfl rfl rfl (Nat.le_of_ble_eq_true rfl) dX10_raiseAlarm_12 rfl (fun H locs hP hD hS => ?_)
  refine lv_aload_n hx hb dX10_raiseAlarm_15 rfl (lv_at hl 0 rfl) ?_
  refine lv_iconst (v := 3) hx hb dX10_raiseAlarm_16 rfl ?_
  refine xput (C := RX10) (T := TX10) (N := 14) (wx := [(a0, .inr (10, [.ref a1, .ref a6, .ref a8, .ref a9, .ref a10, .ref a13, .ref a15, .ref a18, .int (3 : Int32), .int p1, .int x_1, .int v0.2.2.2.2.2.2.2.2.2.2.2.1, .int v0.2.2.2.2.2.2.2.2.2.2.2.2.1, .int v0.2.2.2.2.2.2.2.2.2.2.2.2.2])), (a1, .inr (7, [.ref a2, .ref a3, .ref a4, .ref a5, .int v0.1.2.2.2.2])), (a2, .inl (ca 0, 9, .inl v0.1.1)), (a3, .inl (ca 0, 4, .inl v0.1.2.1)), (a4, .inl (ca 0, 4, .inl v0.1.2.2.1)), (a5, .inl (ca 0, 4, .inl v0.1.2.2.2.1)), (a6, .inr (2, [.ref a7, .int v0.2.1.2.1, .int v0.2.1.2.2.1, .int v0.2.1.2.2.2.1, .int v0.2.1.2.2.2.2])), (a7, .inl (ca 1, 17, .inr (.inl v0.2.1.1))), (a8, .inr (8, [.int v0.2.2.1.1, .int v0.2.2.1.2.1, .int v0.2.2.1.2.2])), (a9, .inr (1, [.int v0.2.2.2.1.1, .int v0.2.2.2.1.2.1, .int v0.2.2.2.1.2.2.1, .int v0.2.2.2.1.2.2.2.1, .int v0.2.2.2.1.2.2.2.2.1, .int v0.2.2.2.1.2.2.2.2.2])), (a10, .inr (3, [.ref a11, .int v0.2.2.2.2.1.2.1, .int v0.2.2.2.2.1.2.2.1, .int v0.2.2.2.2.1.2.2.2.1, .int v0.2.2.2.2.1.2.2.2.2.1, .int v0.2.2.2.2.1.2.2.2.2.2.1, .int v0.2.2.2.2.1.2.2.2.2.2.2])), (a11, .inr (4, [.ref a12, .int v0.2.2.2.2.1.1.2.1, .int v0.2.2.2.2.1.1.2.2])), (a12, .inl (ca 0, 512, .inl v0.2.2.2.2.1.1.1)), (a13, .inr (4, [.ref a14, .int v0.2.2.2.2.2.1.2.1, .int v0.2.2.2.2.2.1.2.2])), (a14, .inl (ca 0, 512, .inl v0.2.2.2.2.2.1.1)), (a15, .inr (6, [.ref a16, .ref a17, .int v0.2.2.2.2.2.2.1.2.2])), (a16, .inl (ca 0, 15, .inl v0.2.2.2.2.2.2.1.1)), (a17, .inl (ca 0, 15, .inl v0.2.2.2.2.2.2.1.2.1)), (a18, .inr (9, [.ref a19, .int v0.2.2.2.2.2.2.2.1.2.1, .int v0.2.2.2.2.2.2.2.1.2.2.1, .int v0.2.2.2.2.2.2.2.1.2.2.2])), (a19, .inl (ca 0, 300, .inl v0.2.2.2.2.2.2.2.1.1))]) hx hb hts i10 tyX10 tyX10_ok nmX10 hown hK hP hD hS 0 rfl rfl 8 (Nat.le_of_ble_eq_true rfl) w2 (fun _ h9 => h9) rfl rfl rfl rfl (Nat.le_of_ble_eq_true rfl) dX10_raiseAlarm_17 rfl (fun H locs hP hD hS => ?_)
  refine lv_aload_n hx hb dX10_raiseAlarm_20 rfl (lv_at hl 0 rfl) ?_
  refine va_get (C := RX10) (T := TX10) (N := 14) hx hb hts i10 hown hK hP 0 rfl rfl 4 (Nat.le_of_ble_eq_true rfl) w3 (fun _ h9 => h9) rfl dX10_raiseAlarm_21 ?_
  obtain ⟨u_2, hc2, hf⟩ := bnd1_el hf
  refine xV_V (As := []) (wx := [(a0, .inr (10, [.ref a1, .ref a6, .ref a8, .ref a9, .ref a10, .ref a13, .ref a15, .ref a18, .int (3 : Int32), .int p1, .int x_1, .int v0.2.2.2.2.2.2.2.2.2.2.2.1, .int v0.2.2.2.2.2.2.2.2.2.2.2.2.1, .int v0.2.2.2.2.2.2.2.2.2.2.2.2.2])), (a1, .inr (7, [.ref a2, .ref a3, .ref a4, .ref a5, .int v0.1.2.2.2.2])), (a2, .inl (ca 0, 9, .inl v0.1.1)), (a3, .inl (ca 0, 4, .inl v0.1.2.1)), (a4, .inl (ca 0, 4, .inl v0.1.2.2.1)), (a5, .inl (ca 0, 4, .inl v0.1.2.2.2.1)), (a6, .inr (2, [.ref a7, .int v0.2.1.2.1, .int v0.2.1.2.2.1, .int v0.2.1.2.2.2.1, .int v0.2.1.2.2.2.2])), (a7, .inl (ca 1, 17, .inr (.inl v0.2.1.1))), (a8, .inr (8, [.int v0.2.2.1.1, .int v0.2.2.1.2.1, .int v0.2.2.1.2.2])), (a9, .inr (1, [.int v0.2.2.2.1.1, .int v0.2.2.2.1.2.1, .int v0.2.2.2.1.2.2.1, .int v0.2.2.2.1.2.2.2.1, .int v0.2.2.2.1.2.2.2.2.1, .int v0.2.2.2.1.2.2.2.2.2])), (a10, .inr (3, [.ref a11, .int u_2.2.1, .int u_2.2.2.1, .int u_2.2.2.2.1, .int u_2.2.2.2.2.1, .int u_2.2.2.2.2.2.1, .int u_2.2.2.2.2.2.2])), (a11, .inr (4, [.ref a12, .int u_2.1.2.1, .int u_2.1.2.2])), (a12, .inl (ca 0, 512, .inl u_2.1.1)), (a13, .inr (4, [.ref a14, .int v0.2.2.2.2.2.1.2.1, .int v0.2.2.2.2.2.1.2.2])), (a14, .inl (ca 0, 512, .inl v0.2.2.2.2.2.1.1)), (a15, .inr (6, [.ref a16, .ref a17, .int v0.2.2.2.2.2.2.1.2.2])), (a16, .inl (ca 0, 15, .inl v0.2.2.2.2.2.2.1.1)), (a17, .inl (ca 0, 15, .inl v0.2.2.2.2.2.2.1.2.1)), (a18, .inr (9, [.ref a19, .int v0.2.2.2.2.2.2.2.1.2.1, .int v0.2.2.2.2.2.2.2.1.2.2.1, .int v0.2.2.2.2.2.2.2.1.2.2.2])), (a19, .inl (ca 0, 300, .inl v0.2.2.2.2.2.2.2.1.1))]) ⟨hx, hb, hml, hown, hts⟩ (c_X3_lose l D ca zz a10 a11 a12 _ v0.2.2.2.2.1 u_2 hc2) (cwV 0 hts (gV gw_3_141 gw_3_142 gw_3_143 gw_1_7 gw_3_144) rfl rfl rfl (by decide +kernel) ⟨(Nat.le_of_ble_eq_true rfl), (Nat.le_of_ble_eq_true rfl)⟩) hK hN hZ hA hP hD hS [10, 11, 12] [none, none, none, none, none, none, none, none, none, none, some 0, some 1, some 2, none, none, none, none, none, none, none] (by decide +kernel) rfl rfl rfl rfl 10 rfl rfl hl.1 rfl (Nat.le_of_ble_eq_true rfl) dX10_raiseAlarm_24 ⟨Nat.zero_le _, Nat.zero_le _⟩ rfl (fun H locs hP hD hS => ?_)
  have he := Option.some.inj hf
  have e_v0 := he
  refine rt_V hx hb hr hlocks hK hP hD hS hQ ?_ dX10_raiseAlarm_27
  simp only [← e_v0]
abbrev wq_X7_earned : List Cond := Cond.code yX7_earned cX7_earned 1 (some .int) :: GL
set_option maxHeartbeats 4000000 in
set_option maxRecDepth 100000 in
theorem c_X7_earned (l : Launch) (D : va_G) (ca : Nat → ClassId) (zz : Nat → Nat) (a0 a1 a2 a3 a4 : Nat) (sz : Nat) (v0 : V7) (r : Int32) (hf : f_X7_earned v0 = some r) : Met l yX7_earned wq_X7_earned ({ frames := 1, cells := 0, slots := 0, locals := 21 } : Room) (PR D ca zz [.ref a0] sz [(a0, .inr (7, [.ref a1, .ref a2, .ref a3, .ref a4, .int v0.2.2.2.2])), (a1, .inl (ca 0, 9, .inl v0.1))]) (QI D ca r [(a0, .inr (7, [.ref a1, .ref a2, .ref a3, .ref a4, .int v0.2.2.2.2])), (a1, .inl (ca 0, 9, .inl v0.1))] (va_A [(a0, .inr (7, [.ref a1, .ref a2, .ref a3, .ref a4, .int v0.2.2.2.2])), (a1, .inl (ca 0, 9, .inl v0.1))] sz)) 0 0 (va_A [(a0, .inr (7, [.ref a1, .ref a2, .ref a3, .ref a4, .int v0.2.2.2.2])), (a1, .inl (ca 0, 9, .inl v0.1))] sz) := by
  refine en (y := yX7_earned) (wsm := wq_X7_earned) (av := [.ref a0]) (cc := cX7_earned) (maxL := 1) (ret := (some .int)) (Qf := fun A => (QI D ca r [(a0, .inr (7, [.ref a1, .ref a2, .ref a3, .ref a4, .int v0.2.2.2.2])), (a1, .inl (ca 0, 9, .inl v0.1))] A)) (by decide) rfl (Nat.le_of_ble_eq_true rfl) ?_
  intro p e s m args below meth c A Q ls hx hb hr hml hown hts hlocks hnm hA hN hZ hK hQ hP hD hS hl
  unfold f_X7_earned at hf
  refine lv_bipush (v := 9) hx hb dX7_earned_0 rfl ?_
  refine lv_bipush (v := 16) hx hb dX7_earned_2 rfl ?_
  refine lv_aload_n hx hb dX7_earned_4 rfl (lv_at hl 0 rfl) ?_
  refine lv_iconst (v := 0) hx hb dX7_earned_5 rfl ?_
  obtain ⟨r_1, hc1, hf⟩ := bnd1_el hf
  refine xV_I (As := [.int (0 : Int32)]) (wx := [(a0, .inr (7, [.ref a1, .ref a2, .ref a3, .ref a4, .int v0.2.2.2.2])), (a1, .inl (ca 0, 9, .inl v0.1))]) ⟨hx, hb, hml, hown, hts⟩ (c_X7_valueOf l D ca zz a0 a1 a2 a3 a4 _ v0 (0 : Int32) r_1 hc1) (cwV 1 hts (gV gw_3_218 gw_2_15 gw_2_16 gw_1_3 gw_2_17) rfl rfl rfl (by decide +kernel) ⟨(Nat.le_of_ble_eq_true rfl), (Nat.le_of_ble_eq_true rfl)⟩) hK hN hZ hA hP hD hS [0, 1] [some 0, some 1] (by decide +kernel) rfl rfl rfl rfl 0 rfl rfl hl.1 rfl (Nat.le_of_ble_eq_true rfl) dX7_earned_6 ⟨Nat.zero_le _, Nat.zero_le _⟩ rfl (fun H locs hP hD hS => ?_)
  refine lv_isub hx hb dX7_earned_9 ?_
  refine lv_imul hx hb dX7_earned_10 ?_
  have he := Option.some.inj hf
  have e_r := he
  refine rt_I hx hb hr hlocks hK hP hD hS hQ e_r ?_ dX7_earned_11
  rfl
abbrev wq_X7_yielded : List Cond := Cond.code yX7_yielded cX7_yielded 1 (some .int) :: GL
set_option maxHeartbeats 4000000 in
set_option maxRecDepth 100000 in
theorem c_X7_yielded (l : Launch) (D : va_G) (ca : Nat → ClassId) (zz : Nat → Nat) (a0 a1 a2 a3 a4 : Nat) (sz : Nat) (v0 : V7) (r : Int32) (hf : f_X7_yielded v0 = some r) : Met l yX7_yielded wq_X7_yielded ({ frames := 2, cells := 0, slots := 0, locals := 41 } : Room) (PR D ca zz [.ref a0] sz [(a0, .inr (7, [.ref a1, .ref a2, .ref a3, .ref a4, .int v0.2.2.2.2])), (a1, .inl (ca 0, 9, .inl v0.1))]) (QI D ca r [(a0, .inr (7, [.ref a1, .ref a2, .ref a3, .ref a4, .int v0.2.2.2.2])), (a1, .inl (ca 0, 9, .inl v0.1))] (va_A [(a0, .inr (7, [.ref a1, .ref a2, .ref a3, .ref a4, .int v0.2.2.2.2])), (a1, .inl (ca 0, 9, .inl v0.1))] sz)) 0 0 (va_A [(a0, .inr (7, [.ref a1, .ref a2, .ref a3, .ref a4, .int v0.2.2.2.2])), (a1, .inl (ca 0, 9, .inl v0.1))] sz) := by
  refine en (y := yX7_yielded) (wsm := wq_X7_yielded) (av := [.ref a0]) (cc := cX7_yielded) (maxL := 1) (ret := (some .int)) (Qf := fun A => (QI D ca r [(a0, .inr (7, [.ref a1, .ref a2, .ref a3, .ref a4, .int v0.2.2.2.2])), (a1, .inl (ca 0, 9, .inl v0.1))] A)) (by decide) rfl (Nat.le_of_ble_eq_true rfl) ?_
  intro p e s m args below meth c A Q ls hx hb hr hml hown hts hlocks hnm hA hN hZ hK hQ hP hD hS hl
  have w0 := hts _ (List.mem_cons_of_mem _ gw_2_235)
  have w1 := hts _ (List.mem_cons_of_mem _ gw_2_30)
  have w2 := hts _ (List.mem_cons_of_mem _ gw_1_11)
  have w3 := hts _ (List.mem_cons_of_mem _ gw_2_31)
  unfold f_X7_yielded at hf
  refine lv_aload_n hx hb dX7_yielded_0 rfl (lv_at hl 0 rfl) ?_
  refine lv_iconst (v := 5) hx hb dX7_yielded_1 rfl ?_
  obtain ⟨r_1, hc1, hf⟩ := bnd1_el hf
  refine xV_I (As := [.int (5 : Int32)]) (wx := [(a0, .inr (7, [.ref a1, .ref a2, .ref a3, .ref a4, .int v0.2.2.2.2])), (a1, .inl (ca 0, 9, .inl v0.1))]) ⟨hx, hb, hml, hown, hts⟩ (c_X7_valueOf l D ca zz a0 a1 a2 a3 a4 _ v0 (5 : Int32) r_1 hc1) (cwV 1 hts (gV gw_3_218 gw_2_15 gw_2_16 gw_1_3 gw_2_17) rfl rfl rfl (by decide +kernel) ⟨(Nat.le_of_ble_eq_true rfl), (Nat.le_of_ble_eq_true rfl)⟩) hK hN hZ hA hP hD hS [0, 1] [some 0, some 1] (by decide +kernel) rfl rfl rfl rfl 0 rfl rfl hl.1 rfl (Nat.le_of_ble_eq_true rfl) dX7_yielded_2 ⟨Nat.zero_le _, Nat.zero_le _⟩ rfl (fun H locs hP hD hS => ?_)
  refine lv_aload_n hx hb dX7_yielded_5 rfl (lv_at hl 0 rfl) ?_
  refine lv_iconst (v := 4) hx hb dX7_yielded_6 rfl ?_
  obtain ⟨r_2, hc2, hf⟩ := bnd1_el hf
  refine xV_I (As := [.int (4 : Int32)]) (wx := [(a0, .inr (7, [.ref a1, .ref a2, .ref a3, .ref a4, .int v0.2.2.2.2])), (a1, .inl (ca 0, 9, .inl v0.1))]) ⟨hx, hb, hml, hown, hts⟩ (c_X7_valueOf l D ca zz a0 a1 a2 a3 a4 _ v0 (4 : Int32) r_2 hc2) (cwV 1 hts (gV gw_3_218 gw_2_15 gw_2_16 gw_1_3 gw_2_17) rfl rfl rfl (by decide +kernel) ⟨(Nat.le_of_ble_eq_true rfl), (Nat.le_of_ble_eq_true rfl)⟩) hK hN hZ hA hP hD hS [0, 1] [some 0, some 1] (by decide +kernel) rfl rfl rfl rfl 0 rfl rfl hl.1 rfl (Nat.le_of_ble_eq_true rfl) dX7_yielded_7 ⟨Nat.zero_le _, Nat.zero_le _⟩ rfl (fun H locs hP hD hS => ?_)
  refine lv_aload_n hx hb dX7_yielded_10 rfl (lv_at hl 0 rfl) ?_
  obtain ⟨r_3, hc3, hf⟩ := bnd1_el hf
  refine xV_I (As := []) (wx := [(a0, .inr (7, [.ref a1, .ref a2, .ref a3, .ref a4, .int v0.2.2.2.2])), (a1, .inl (ca 0, 9, .inl v0.1))]) ⟨hx, hb, hml, hown, hts⟩ (c_X7_earned l D ca zz a0 a1 a2 a3 a4 _ v0 r_3 hc3) (cwV 0 hts (gV gw_3_219 gw_3_220 gw_3_221 gw_1_3 gw_3_222) rfl rfl rfl (by decide +kernel) ⟨(Nat.le_of_ble_eq_true rfl), (Nat.le_of_ble_eq_true rfl)⟩) hK hN hZ hA hP hD hS [0, 1] [some 0, some 1] (by decide +kernel) rfl rfl rfl rfl 0 rfl rfl hl.1 rfl (Nat.le_of_ble_eq_true rfl) dX7_yielded_11 ⟨Nat.zero_le _, Nat.zero_le _⟩ rfl (fun H locs hP hD hS => ?_)
  refine lv_imul hx hb dX7_yielded_14 ?_
  refine lv_bipush (v := 100) hx hb dX7_yielded_15 rfl ?_
  refine xidiv hx hb dX7_yielded_17 hf (fun hf => ?_)
  refine va_mmin hx hb (hml.trans hl.1.symm) hown w0 w1 w2 w3 (Nat.le_of_ble_eq_true rfl) (Nat.le_of_ble_eq_true rfl) (Nat.zero_le _) (Nat.zero_le _) dX7_yielded_18 ?_
  refine xnm hf (fun x_4 hf => ?_)
  have he := Option.some.inj hf
  have e_r := he
  refine rt_I hx hb hr hlocks hK hP hD hS hQ e_r ?_ dX7_yielded_21
  rfl
abbrev wq_X3_fillFrom : List Cond := Cond.code yX3_fillFrom cX3_fillFrom 3 none :: GL
set_option maxHeartbeats 4000000 in
set_option maxRecDepth 100000 in
theorem c_X3_fillFrom (l : Launch) (D : va_G) (ca : Nat → ClassId) (zz : Nat → Nat) (a0 a1 a2 : Nat) (sz : Nat) (v0 : V3) (p1 : Int32) (v0' : V3) (hf : f_X3_fillFrom v0 p1 = some v0') : Met l yX3_fillFrom wq_X3_fillFrom ({ frames := 1, cells := 0, slots := 0, locals := 21 } : Room) (PR D ca zz [.ref a0, .int p1] sz [(a0, .inr (3, [.ref a1, .int v0.2.1, .int v0.2.2.1, .int v0.2.2.2.1, .int v0.2.2.2.2.1, .int v0.2.2.2.2.2.1, .int v0.2.2.2.2.2.2])), (a1, .inr (4, [.ref a2, .int v0.1.2.1, .int v0.1.2.2])), (a2, .inl (ca 0, 512, .inl v0.1.1))]) (QV D ca [(a0, .inr (3, [.ref a1, .int v0'.2.1, .int v0'.2.2.1, .int v0'.2.2.2.1, .int v0'.2.2.2.2.1, .int v0'.2.2.2.2.2.1, .int v0'.2.2.2.2.2.2])), (a1, .inr (4, [.ref a2, .int v0'.1.2.1, .int v0'.1.2.2])), (a2, .inl (ca 0, 512, .inl v0'.1.1))] (va_A [(a0, .inr (3, [.ref a1, .int v0.2.1, .int v0.2.2.1, .int v0.2.2.2.1, .int v0.2.2.2.2.1, .int v0.2.2.2.2.2.1, .int v0.2.2.2.2.2.2])), (a1, .inr (4, [.ref a2, .int v0.1.2.1, .int v0.1.2.2])), (a2, .inl (ca 0, 512, .inl v0.1.1))] sz)) 0 0 (va_A [(a0, .inr (3, [.ref a1, .int v0.2.1, .int v0.2.2.1, .int v0.2.2.2.1, .int v0.2.2.2.2.1, .int v0.2.2.2.2.2.1, .int v0.2.2.2.2.2.2])), (a1, .inr (4, [.ref a2, .int v0.1.2.1, .int v0.1.2.2])), (a2, .inl (ca 0, 512, .inl v0.1.1))] sz) := by
  refine en (y := yX3_fillFrom) (wsm := wq_X3_fillFrom) (av := [.ref a0, .int p1]) (cc := cX3_fillFrom) (maxL := 3) (ret := none) (Qf := fun A => (QV D ca [(a0, .inr (3, [.ref a1, .int v0'.2.1, .int v0'.2.2.1, .int v0'.2.2.2.1, .int v0'.2.2.2.2.1, .int v0'.2.2.2.2.2.1, .int v0'.2.2.2.2.2.2])), (a1, .inr (4, [.ref a2, .int v0'.1.2.1, .int v0'.1.2.2])), (a2, .inl (ca 0, 512, .inl v0'.1.1))] A)) (by decide) rfl (Nat.le_of_ble_eq_true rfl) ?_
  intro p e s m args below meth c A Q ls hx hb hr hml hown hts hlocks hnm hA hN hZ hK hQ hP hD hS hl
  have w0 := hts _ (List.mem_cons_of_mem _ gw_1_179)
  have w1 := hts _ (List.mem_cons_of_mem _ gw_1_187)
  have w2 := hts _ (List.mem_cons_of_mem _ gw_1_182)
  have w3 := hts _ (List.mem_cons_of_mem _ gw_1_185)
  have nw19 := NW.use (args := args) (w := .fieldLinkNest RX3 55 "NoiseWatch$Queue" "size" "I" "NoiseWatch") hN 19 rfl
  have i3 : ∀ w ∈ u_ws RX3 TX3 7, w ∈ wq_X3_fillFrom := fun w h => List.mem_cons_of_mem _ (inX3 w h)
  have i4 : ∀ w ∈ u_ws RX4 TX4 3, w ∈ wq_X3_fillFrom := fun w h => List.mem_cons_of_mem _ (inX4 w h)
  have bl4 : ∀ (k4 : V3 → Int32 → Option (V3)) (q4 : ∀ (v0 : V3) (x2 : Int32), k4 v0 x2 = some v0' → ∀ (H : Heap) (locs : List Loc) (ls : Array Slot), va_P D vwCl [(a0, .inr (3, [.ref a1, .int v0.2.1, .int v0.2.2.1, .int v0.2.2.2.1, .int v0.2.2.2.2.1, .int v0.2.2.2.2.2.1, .int v0.2.2.2.2.2.2])), (a1, .inr (4, [.ref a2, .int v0.1.2.1, .int v0.1.2.2])), (a2, .inl (ca 0, 512, .inl v0.1.1))] H → va_D A [(a0, .inr (3, [.ref a1, .int v0.2.1, .int v0.2.2.1, .int v0.2.2.2.1, .int v0.2.2.2.2.1, .int v0.2.2.2.2.2.1, .int v0.2.2.2.2.2.2])), (a1, .inr (4, [.ref a2, .int v0.1.2.1, .int v0.1.2.2])), (a2, .inl (ca 0, 512, .inl v0.1.1))] → va_S A s.heap H locs → lv_has ls 3 [(0, .ref a0), (2, .int x2)] → W p l e ({ frames := 1, cells := 0, slots := 0, locals := 21 } : Room) s m args below meth c H locs 0 0 Q (F0 m 4 ls [])) (v0 : V3) (x2 : Int32), fl_X3_fillFrom_4 k4 v0 x2 = some v0' → ∀ (H : Heap) (locs : List Loc) (ls : Array Slot), va_P D vwCl [(a0, .inr (3, [.ref a1, .int v0.2.1, .int v0.2.2.1, .int v0.2.2.2.1, .int v0.2.2.2.2.1, .int v0.2.2.2.2.2.1, .int v0.2.2.2.2.2.2])), (a1, .inr (4, [.ref a2, .int v0.1.2.1, .int v0.1.2.2])), (a2, .inl (ca 0, 512, .inl v0.1.1))] H → va_D A [(a0, .inr (3, [.ref a1, .int v0.2.1, .int v0.2.2.1, .int v0.2.2.2.1, .int v0.2.2.2.2.1, .int v0.2.2.2.2.2.1, .int v0.2.2.2.2.2.2])), (a1, .inr (4, [.ref a2, .int v0.1.2.1, .int v0.1.2.2])), (a2, .inl (ca 0, 512, .inl v0.1.1))] → va_S A s.heap H locs → lv_has ls 3 [(0, .ref a0), (2, .int x2)] → W p l e ({ frames := 1, cells := 0, slots := 0, locals := 21 } : Room) s m args below meth c H locs 0 0 Q (F0 m 4 ls []) := by
    intro k4 q4 v0 x2 hf H locs ls hP hD hS hl
    unfold fl_X3_fillFrom_4 at hf
    refine lv_iload_n hx hb dX3_fillFrom_4 rfl (lv_at hl 1 rfl) ?_
    refine xi_lt (tgt := 65) hx hb dX3_fillFrom_5 (by decide) hf (fun hf => ?_) (fun hf => ?_)
    · have he := Option.some.inj hf
      have e_v0 := he
      refine rt_V hx hb hr hlocks hK hP hD hS hQ ?_ dX3_fillFrom_65
      simp only [← e_v0]
    · refine lv_aload_n hx hb dX3_fillFrom_8 rfl (lv_at hl 0 rfl) ?_
      refine va_get (C := RX3) (T := TX3) (N := 7) hx hb hts i3 hown hK hP 0 rfl rfl 0 (Nat.le_of_ble_eq_true rfl) w0 (fun _ h9 => h9) rfl dX3_fillFrom_9 ?_
      refine va_getN (C := RX4) (T := TX4) (N := 3) hx hb hts i4 hown hK hP 1 rfl rfl 2 (Nat.le_of_ble_eq_true rfl) nw19 (fun _ h9 => h9) rfl dX3_fillFrom_12 ?_
      refine lv_sipush (v := 256) hx hb dX3_fillFrom_15 rfl ?_
      refine xc_ge (tgt := 49) hx hb dX3_fillFrom_18 (by decide) hf (fun hf => ?_) (fun hf => ?_)
      · refine lv_aload_n hx hb dX3_fillFrom_49 rfl (lv_at hl 0 rfl) ?_
        refine lv_dup hx hb dX3_fillFrom_50 rfl ?_
        refine va_get (C := RX3) (T := TX3) (N := 7) hx hb hts i3 hown hK hP 0 rfl rfl 4 (Nat.le_of_ble_eq_true rfl) w1 (fun _ h9 => h9) rfl dX3_fillFrom_51 ?_
        refine lv_iconst (v := 1) hx hb dX3_fillFrom_54 rfl ?_
        refine lv_iadd hx hb dX3_fillFrom_55 ?_
        refine xnm hf (fun x_2 hf => ?_)
        refine xput (C := RX3) (T := TX3) (N := 7) (wx := [(a0, .inr (3, [.ref a1, .int v0.2.1, .int v0.2.2.1, .int v0.2.2.2.1, .int x_2, .int v0.2.2.2.2.2.1, .int v0.2.2.2.2.2.2])), (a1, .inr (4, [.ref a2, .int v0.1.2.1, .int v0.1.2.2])), (a2, .inl (ca 0, 512, .inl v0.1.1))]) hx hb hts i3 tyX3 tyX3_ok nmX3 hown hK hP hD hS 0 rfl rfl 4 (Nat.le_of_ble_eq_true rfl) w1 (fun _ h9 => h9) rfl rfl rfl rfl (Nat.le_of_ble_eq_true rfl) dX3_fillFrom_56 rfl (fun H locs hP hD hS => ?_)
        obtain ⟨x_3, ex_3, hf⟩ := bnd_el hf
        refine lv_iinc (v := x_3) (lv' := [(2, .int x_3), (0, .ref a0)]) hx hb dX3_fillFrom_59 hl (k := 1) rfl (by rw [ex_3]; rfl) (Nat.le_of_ble_eq_true rfl) rfl (fun ls hl => ?_)
        refine lv_goto (tgt := 4) hx hb dX3_fillFrom_62 (by decide) ?_
        have jb := q4 ((v0.1, v0.2.1, v0.2.2.1, v0.2.2.2.1, x_2, v0.2.2.2.2.2)) x_3
        dsimp only at jb
        exact jb hf _ _ _ hP hD hS (lv_sub hl [1, 0] rfl)
      · refine lv_aload_n hx hb dX3_fillFrom_21 rfl (lv_at hl 0 rfl) ?_
        refine va_get (C := RX3) (T := TX3) (N := 7) hx hb hts i3 hown hK hP 0 rfl rfl 0 (Nat.le_of_ble_eq_true rfl) w0 (fun _ h9 => h9) rfl dX3_fillFrom_22 ?_
        refine lv_aload_n hx hb dX3_fillFrom_25 rfl (lv_at hl 0 rfl) ?_
        refine va_get (C := RX3) (T := TX3) (N := 7) hx hb hts i3 hown hK hP 0 rfl rfl 1 (Nat.le_of_ble_eq_true rfl) w2 (fun _ h9 => h9) rfl dX3_fillFrom_26 ?_
        refine lv_iload_n hx hb dX3_fillFrom_29 rfl (lv_at hl 1 rfl) ?_
        refine lv_iushr (v := jushr v0.2.1 x2) hx hb dX3_fillFrom_30 rfl ?_
        refine lv_iconst (v := 1) hx hb dX3_fillFrom_31 rfl ?_
        refine lv_iand hx hb dX3_fillFrom_32 ?_
        obtain ⟨u_4, hc4, hf⟩ := bnd1_el hf
        refine xV_V (As := [.int ((jushr v0.2.1 x2) &&& (1 : Int32))]) (wx := [(a0, .inr (3, [.ref a1, .int v0.2.1, .int v0.2.2.1, .int v0.2.2.2.1, .int v0.2.2.2.2.1, .int v0.2.2.2.2.2.1, .int v0.2.2.2.2.2.2])), (a1, .inr (4, [.ref a2, .int u_4.2.1, .int u_4.2.2])), (a2, .inl (ca 0, 512, .inl u_4.1))]) ⟨hx, hb, hml, hown, hts⟩ (c_X4_append l D ca zz a1 a2 _ v0.1 ((jushr v0.2.1 x2) &&& (1 : Int32)) u_4 hc4) (cwV 1 hts (gV gw_3_227 gw_3_189 gw_3_190 gw_1_8 gw_3_191) rfl rfl rfl (by decide +kernel) ⟨(Nat.le_of_ble_eq_true rfl), (Nat.le_of_ble_eq_true rfl)⟩) hK hN hZ hA hP hD hS [1, 2] [none, some 0, some 1] (by decide +kernel) rfl rfl rfl rfl 1 rfl rfl hl.1 rfl (Nat.le_of_ble_eq_true rfl) dX3_fillFrom_33 ⟨Nat.zero_le _, Nat.zero_le _⟩ rfl (fun H locs hP hD hS => ?_)
        refine lv_aload_n hx hb dX3_fillFrom_36 rfl (lv_at hl 0 rfl) ?_
        refine lv_dup hx hb dX3_fillFrom_37 rfl ?_
        refine va_get (C := RX3) (T := TX3) (N := 7) hx hb hts i3 hown hK hP 0 rfl rfl 3 (Nat.le_of_ble_eq_true rfl) w3 (fun _ h9 => h9) rfl dX3_fillFrom_38 ?_
        refine lv_iconst (v := 1) hx hb dX3_fillFrom_41 rfl ?_
        refine lv_iadd hx hb dX3_fillFrom_42 ?_
        refine xnm hf (fun x_5 hf => ?_)
        refine xput (C := RX3) (T := TX3) (N := 7) (wx := [(a0, .inr (3, [.ref a1, .int v0.2.1, .int v0.2.2.1, .int x_5, .int v0.2.2.2.2.1, .int v0.2.2.2.2.2.1, .int v0.2.2.2.2.2.2])), (a1, .inr (4, [.ref a2, .int u_4.2.1, .int u_4.2.2])), (a2, .inl (ca 0, 512, .inl u_4.1))]) hx hb hts i3 tyX3 tyX3_ok nmX3 hown hK hP hD hS 0 rfl rfl 3 (Nat.le_of_ble_eq_true rfl) w3 (fun _ h9 => h9) rfl rfl rfl rfl (Nat.le_of_ble_eq_true rfl) dX3_fillFrom_43 rfl (fun H locs hP hD hS => ?_)
        refine lv_goto (tgt := 59) hx hb dX3_fillFrom_46 (by decide) ?_
        obtain ⟨x_6, ex_6, hf⟩ := bnd_el hf
        refine lv_iinc (v := x_6) (lv' := [(2, .int x_6), (0, .ref a0)]) hx hb dX3_fillFrom_59 hl (k := 1) rfl (by rw [ex_6]; rfl) (Nat.le_of_ble_eq_true rfl) rfl (fun ls hl => ?_)
        refine lv_goto (tgt := 4) hx hb dX3_fillFrom_62 (by decide) ?_
        have jb := q4 ((u_4, v0.2.1, v0.2.2.1, x_5, v0.2.2.2.2)) x_6
        dsimp only at jb
        exact jb hf _ _ _ hP hD hS (lv_sub hl [1, 0] rfl)
  have b4 : ∀ (n : Nat) (v0 : V3) (x2 : Int32), fb_X3_fillFrom_4 n v0 x2 = some v0' → ∀ (H : Heap) (locs : List Loc) (ls : Array Slot), va_P D vwCl [(a0, .inr (3, [.ref a1, .int v0.2.1, .int v0.2.2.1, .int v0.2.2.2.1, .int v0.2.2.2.2.1, .int v0.2.2.2.2.2.1, .int v0.2.2.2.2.2.2])), (a1, .inr (4, [.ref a2, .int v0.1.2.1, .int v0.1.2.2])), (a2, .inl (ca 0, 512, .inl v0.1.1))] H → va_D A [(a0, .inr (3, [.ref a1, .int v0.2.1, .int v0.2.2.1, .int v0.2.2.2.1, .int v0.2.2.2.2.1, .int v0.2.2.2.2.2.1, .int v0.2.2.2.2.2.2])), (a1, .inr (4, [.ref a2, .int v0.1.2.1, .int v0.1.2.2])), (a2, .inl (ca 0, 512, .inl v0.1.1))] → va_S A s.heap H locs → lv_has ls 3 [(0, .ref a0), (2, .int x2)] → W p l e ({ frames := 1, cells := 0, slots := 0, locals := 21 } : Room) s m args below meth c H locs 0 0 Q (F0 m 4 ls []) := by
    intro n
    induction n with
    | zero => intro v0 x2 hf; exact no_el hf
    | succ n ih => exact bl4 (fb_X3_fillFrom_4 n) ih
  unfold f_X3_fillFrom at hf
  refine lv_iload_n hx hb dX3_fillFrom_0 rfl (lv_at hl 1 rfl) ?_
  refine lv_iconst (v := 1) hx hb dX3_fillFrom_1 rfl ?_
  refine lv_isub hx hb dX3_fillFrom_2 ?_
  refine xnm hf (fun x_1 hf => ?_)
  refine lv_istore_n (lv' := [(2, .int x_1), (0, .ref a0), (1, .int p1)]) hx hb dX3_fillFrom_3 rfl hl (Nat.le_of_ble_eq_true rfl) rfl (fun ls hl => ?_)
  exact b4 FU v0 x_1 hf _ _ _ hP hD hS (lv_sub hl [1, 0] rfl)
