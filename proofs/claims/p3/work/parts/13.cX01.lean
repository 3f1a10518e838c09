abbrev wq_X1_init : List Cond := Cond.code yX1_init cX1_init 1 none :: GL
set_option maxHeartbeats 4000000 in
set_option maxRecDepth 100000 in
theorem c_X1_init (l : Launch) (D : va_G) (ca : Nat → ClassId) (zz : Nat → Nat) (a0 : Nat) (sz : Nat) (v' : V1) (hf : f_X1_init = some v') : Met l yX1_init wq_X1_init ({ frames := 1, cells := 0, slots := 0, locals := 20 } : Room) (PR D ca zz [.ref a0] sz [(a0, .inr (1, [.int 0, .int 0, .int 0, .int 0, .int 0, .int 0]))]) (QN D ca (fun q => [(a0, .inr (1, [.int v'.1, .int v'.2.1, .int v'.2.2.1, .int v'.2.2.2.1, .int v'.2.2.2.2.1, .int v'.2.2.2.2.2]))]) (va_A [(a0, .inr (1, [.int 0, .int 0, .int 0, .int 0, .int 0, .int 0]))] sz)) 0 0 (va_A [(a0, .inr (1, [.int 0, .int 0, .int 0, .int 0, .int 0, .int 0]))] sz) := by
  refine en (y := yX1_init) (wsm := wq_X1_init) (av := [.ref a0]) (cc := cX1_init) (maxL := 1) (ret := none) (Qf := fun A => QN D ca (fun q => [(a0, .inr (1, [.int v'.1, .int v'.2.1, .int v'.2.2.1, .int v'.2.2.2.1, .int v'.2.2.2.2.1, .int v'.2.2.2.2.2]))]) A) (by decide) rfl (Nat.le_of_ble_eq_true rfl) ?_
  intro p e s m args below meth c A Q ls hx hb hr hml hown hts hlocks hnm hA hN hZ hK hQ hP hD hS hl
  have w0 := hts _ (List.mem_cons_of_mem _ gw_1_126)
  have w1 := hts _ (List.mem_cons_of_mem _ gw_1_32)
  have w2 := hts _ (List.mem_cons_of_mem _ gw_1_33)
  have w3 := hts _ (List.mem_cons_of_mem _ gw_1_127)
  have w4 := hts _ (List.mem_cons_of_mem _ gw_1_130)
  have w5 := hts _ (List.mem_cons_of_mem _ gw_1_131)
  have w6 := hts _ (List.mem_cons_of_mem _ gw_1_133)
  have w7 := hts _ (List.mem_cons_of_mem _ gw_1_134)
  have w8 := hts _ (List.mem_cons_of_mem _ gw_1_137)
  have i1 : ∀ w ∈ u_ws RX1 TX1 6, w ∈ wq_X1_init := fun w h => List.mem_cons_of_mem _ (inX1 w h)
  unfold f_X1_init at hf
  refine lv_aload_n hx hb dX1_init_0 rfl (lv_at hl 0 rfl) ?_
  refine W.objInit hx hb hown w0 w1 w2 rfl (by rw [hml]; exact hl.1) rfl dX1_init_1 (Nat.le_of_ble_eq_true rfl) (Nat.le_of_ble_eq_true rfl) ?_
  refine lv_aload_n hx hb dX1_init_4 rfl (lv_at hl 0 rfl) ?_
  refine lv_iconst (v := 0) hx hb dX1_init_5 rfl ?_
  refine xput (C := RX1) (T := TX1) (N := 6) (ty := tyX1 0) (wx := [(a0, .inr (1, [.int (0 : Int32), .int (0 : Int32), .int (0 : Int32), .int (0 : Int32), .int (0 : Int32), .int (0 : Int32)]))]) hx hb hts i1 tyX1 tyX1_ok nmX1 hown hK hP hD hS 0 rfl rfl 0 (Nat.le_of_ble_eq_true rfl) w3 (fun _ h9 => h9) rfl rfl rfl rfl (Nat.le_of_ble_eq_true rfl) dX1_init_6 rfl (fun H locs hP hD hS => ?_)
  refine lv_aload_n hx hb dX1_init_9 rfl (lv_at hl 0 rfl) ?_
  refine lv_iconst (v := 0) hx hb dX1_init_10 rfl ?_
  refine xput (C := RX1) (T := TX1) (N := 6) (ty := tyX1 1) (wx := [(a0, .inr (1, [.int (0 : Int32), .int (0 : Int32), .int (0 : Int32), .int (0 : Int32), .int (0 : Int32), .int (0 : Int32)]))]) hx hb hts i1 tyX1 tyX1_ok nmX1 hown hK hP hD hS 0 rfl rfl 1 (Nat.le_of_ble_eq_true rfl) w4 (fun _ h9 => h9) rfl rfl rfl rfl (Nat.le_of_ble_eq_true rfl) dX1_init_11 rfl (fun H locs hP hD hS => ?_)
  refine lv_aload_n hx hb dX1_init_14 rfl (lv_at hl 0 rfl) ?_
  refine lv_iconst (v := 0) hx hb dX1_init_15 rfl ?_
  refine xput (C := RX1) (T := TX1) (N := 6) (ty := tyX1 2) (wx := [(a0, .inr (1, [.int (0 : Int32), .int (0 : Int32), .int (0 : Int32), .int (0 : Int32), .int (0 : Int32), .int (0 : Int32)]))]) hx hb hts i1 tyX1 tyX1_ok nmX1 hown hK hP hD hS 0 rfl rfl 2 (Nat.le_of_ble_eq_true rfl) w5 (fun _ h9 => h9) rfl rfl rfl rfl (Nat.le_of_ble_eq_true rfl) dX1_init_16 rfl (fun H locs hP hD hS => ?_)
  refine lv_aload_n hx hb dX1_init_19 rfl (lv_at hl 0 rfl) ?_
  refine lv_iconst (v := 0) hx hb dX1_init_20 rfl ?_
  refine xput (C := RX1) (T := TX1) (N := 6) (ty := tyX1 3) (wx := [(a0, .inr (1, [.int (0 : Int32), .int (0 : Int32), .int (0 : Int32), .int (0 : Int32), .int (0 : Int32), .int (0 : Int32)]))]) hx hb hts i1 tyX1 tyX1_ok nmX1 hown hK hP hD hS 0 rfl rfl 3 (Nat.le_of_ble_eq_true rfl) w6 (fun _ h9 => h9) rfl rfl rfl rfl (Nat.le_of_ble_eq_true rfl) dX1_init_21 rfl (fun H locs hP hD hS => ?_)
  refine lv_aload_n hx hb dX1_init_24 rfl (lv_at hl 0 rfl) ?_
  refine lv_iconst (v := 0) hx hb dX1_init_25 rfl ?_
  refine xput (C := RX1) (T := TX1) (N := 6) (ty := tyX1 4) (wx := [(a0, .inr (1, [.int (0 : Int32), .int (0 : Int32), .int (0 : Int32), .int (0 : Int32), .int (0 : Int32), .int (0 : Int32)]))]) hx hb hts i1 tyX1 tyX1_ok nmX1 hown hK hP hD hS 0 rfl rfl 4 (Nat.le_of_ble_eq_true rfl) w7 (fun _ h9 => h9) rfl rfl rfl rfl (Nat.le_of_ble_eq_true rfl) dX1_init_26 rfl (fun H locs hP hD hS => ?_)
  refine lv_aload_n hx hb dX1_init_29 rfl (lv_at hl 0 rfl) ?_
  refine lv_iconst (v := 0) hx hb dX1_init_30 rfl ?_
  refine xput (C := RX1) (T := TX1) (N := 6) (ty := tyX1 5) (wx := [(a0, .inr (1, [.int (0 : Int32), .int (0 : Int32), .int (0 : Int32), .int (0 : Int32), .int (0 : Int32), .int (0 : Int32)]))]) hx hb hts i1 tyX1 tyX1_ok nmX1 hown hK hP hD hS 0 rfl rfl 5 (Nat.le_of_ble_eq_true rfl) w8 (fun _ h9 => h9) rfl rfl rfl rfl (Nat.le_of_ble_eq_true rfl) dX1_init_31 rfl (fun H locs hP hD hS => ?_)
  have hP := hP.sub (ws' := [(a0, .inr (1, [.int (0 : Int32), .int (0 : Int32), .int (0 : Int32), .int (0 : Int32), .int (0 : Int32), .int (0 : Int32)]))]) [0] rfl
  have hD := hD.sub (ws' := [(a0, .inr (1, [.int (0 : Int32), .int (0 : Int32), .int (0 : Int32), .int (0 : Int32), .int (0 : Int32), .int (0 : Int32)]))]) [0] (by decide) rfl
  cases hf
  exact rt_N (fun k => match k with  | _ => 0) hx hb hr hlocks hK hP hD hS hQ rfl (Nat.le_of_ble_eq_true rfl) (Nat.le_of_ble_eq_true rfl) dX1_init_34
abbrev wq_X2_init : List Cond := Cond.code yX2_init cX2_init 1 none :: GL
set_option maxHeartbeats 4000000 in
set_option maxRecDepth 100000 in
theorem c_X2_init (l : Launch) (D : va_G) (ca : Nat → ClassId) (zz : Nat → Nat) (a0 : Nat) (sz : Nat) (v' : V2) (hf : f_X2_init = some v') : Met l yX2_init wq_X2_init ({ frames := 1, cells := 1, slots := 17, locals := 20 } : Room) (PR D ca zz [.ref a0] sz [(a0, .inr (2, [.null, .int 0, .int 0, .int 0, .int 0]))]) (QN D ca (fun q => [(a0, .inr (2, [.ref (q 1), .int v'.2.1, .int v'.2.2.1, .int v'.2.2.2.1, .int v'.2.2.2.2])), ((q 1), .inl (ca 1, 17, .inr (.inl v'.1)))]) (va_A [(a0, .inr (2, [.null, .int 0, .int 0, .int 0, .int 0]))] sz)) 1 17 (va_A [(a0, .inr (2, [.null, .int 0, .int 0, .int 0, .int 0]))] sz) := by
  refine en (y := yX2_init) (wsm := wq_X2_init) (av := [.ref a0]) (cc := cX2_init) (maxL := 1) (ret := none) (Qf := fun A => QN D ca (fun q => [(a0, .inr (2, [.ref (q 1), .int v'.2.1, .int v'.2.2.1, .int v'.2.2.2.1, .int v'.2.2.2.2])), ((q 1), .inl (ca 1, 17, .inr (.inl v'.1)))]) A) (by decide) rfl (Nat.le_of_ble_eq_true rfl) ?_
  intro p e s m args below meth c A Q ls hx hb hr hml hown hts hlocks hnm hA hN hZ hK hQ hP hD hS hl
  have w0 := hts _ (List.mem_cons_of_mem _ gw_1_80)
  have w1 := hts _ (List.mem_cons_of_mem _ gw_1_32)
  have w2 := hts _ (List.mem_cons_of_mem _ gw_1_33)
  have w3 := hts _ (List.mem_cons_of_mem _ gw_1_103)
  have w4 := hts _ (List.mem_cons_of_mem _ gw_1_81)
  have w5 := hts _ (List.mem_cons_of_mem _ gw_1_82)
  have w6 := hts _ (List.mem_cons_of_mem _ gw_1_83)
  have w7 := hts _ (List.mem_cons_of_mem _ gw_1_86)
  have w8 := hts _ (List.mem_cons_of_mem _ gw_1_89)
  have i2 : ∀ w ∈ u_ws RX2 TX2 5, w ∈ wq_X2_init := fun w h => List.mem_cons_of_mem _ (inX2 w h)
  unfold f_X2_init at hf
  refine lv_aload_n hx hb dX2_init_0 rfl (lv_at hl 0 rfl) ?_
  refine W.objInit hx hb hown w0 w1 w2 rfl (by rw [hml]; exact hl.1) rfl dX2_init_1 (Nat.le_of_ble_eq_true rfl) (Nat.le_of_ble_eq_true rfl) ?_
  refine lv_aload_n hx hb dX2_init_4 rfl (lv_at hl 0 rfl) ?_
  refine lv_bipush (v := 17) hx hb dX2_init_5 rfl ?_
  refine xnewa 1 (atype := .long) (ty := .long) (N' := 17) (a0 := (17, .inr (.inl (fun _ => 0)))) hx hb w3 rfl hK hP hD hS hA (fun _ => rfl) (by decide) rfl (Nat.le_of_ble_eq_true rfl) rfl (fun _ h => h) (Nat.le_of_ble_eq_true rfl) (Nat.le_of_ble_eq_true rfl) dX2_init_7 (fun q_1 H hP hD hS => ?_)
  have hP : va_P D vwCl [(a0, .inr (2, [.null, .int (0 : Int32), .int (0 : Int32), .int (0 : Int32), .int (0 : Int32)])), (q_1, .inl (ca 1, 17, .inr (.inl ((fun _ => 0)))))] H := hP
  have hD : va_D A [(a0, .inr (2, [.null, .int (0 : Int32), .int (0 : Int32), .int (0 : Int32), .int (0 : Int32)])), (q_1, .inl (ca 1, 17, .inr (.inl ((fun _ => 0)))))] := hD
  refine xputF (C := RX2) (T := TX2) (N := 5) (ty := tyX2 0) (wx := [(a0, .inr (2, [.ref q_1, .int (0 : Int32), .int (0 : Int32), .int (0 : Int32), .int (0 : Int32)])), (q_1, .inl (ca 1, 17, .inr (.inl ((fun _ => 0)))))]) hx hb hts i2 tyX2 tyX2_ok nmX2 hown hK hP hD hS 0 rfl rfl 0 (Nat.le_of_ble_eq_true rfl) w4 (fun _ h9 => h9) rfl hnm rfl rfl rfl rfl (Nat.le_of_ble_eq_true rfl) dX2_init_9 rfl (fun H locs hP hD hS => ?_)
  refine lv_aload_n hx hb dX2_init_12 rfl (lv_at hl 0 rfl) ?_
  refine lv_iconst (v := 0) hx hb dX2_init_13 rfl ?_
  refine xput (C := RX2) (T := TX2) (N := 5) (ty := tyX2 1) (wx := [(a0, .inr (2, [.ref q_1, .int (0 : Int32), .int (0 : Int32), .int (0 : Int32), .int (0 : Int32)])), (q_1, .inl (ca 1, 17, .inr (.inl ((fun _ => 0)))))]) hx hb hts i2 tyX2 tyX2_ok nmX2 hown hK hP hD hS 0 rfl rfl 1 (Nat.le_of_ble_eq_true rfl) w5 (fun _ h9 => h9) rfl rfl rfl rfl (Nat.le_of_ble_eq_true rfl) dX2_init_14 rfl (fun H locs hP hD hS => ?_)
  refine lv_aload_n hx hb dX2_init_17 rfl (lv_at hl 0 rfl) ?_
  refine lv_iconst (v := 0) hx hb dX2_init_18 rfl ?_
  refine xput (C := RX2) (T := TX2) (N := 5) (ty := tyX2 2) (wx := [(a0, .inr (2, [.ref q_1, .int (0 : Int32), .int (0 : Int32), .int (0 : Int32), .int (0 : Int32)])), (q_1, .inl (ca 1, 17, .inr (.inl ((fun _ => 0)))))]) hx hb hts i2 tyX2 tyX2_ok nmX2 hown hK hP hD hS 0 rfl rfl 2 (Nat.le_of_ble_eq_true rfl) w6 (fun _ h9 => h9) rfl rfl rfl rfl (Nat.le_of_ble_eq_true rfl) dX2_init_19 rfl (fun H locs hP hD hS => ?_)
  refine lv_aload_n hx hb dX2_init_22 rfl (lv_at hl 0 rfl) ?_
  refine lv_iconst (v := 0) hx hb dX2_init_23 rfl ?_
  refine xput (C := RX2) (T := TX2) (N := 5) (ty := tyX2 3) (wx := [(a0, .inr (2, [.ref q_1, .int (0 : Int32), .int (0 : Int32), .int (0 : Int32), .int (0 : Int32)])), (q_1, .inl (ca 1, 17, .inr (.inl ((fun _ => 0)))))]) hx hb hts i2 tyX2 tyX2_ok nmX2 hown hK hP hD hS 0 rfl rfl 3 (Nat.le_of_ble_eq_true rfl) w7 (fun _ h9 => h9) rfl rfl rfl rfl (Nat.le_of_ble_eq_true rfl) dX2_init_24 rfl (fun H locs hP hD hS => ?_)
  refine lv_aload_n hx hb dX2_init_27 rfl (lv_at hl 0 rfl) ?_
  refine lv_iconst (v := 0) hx hb dX2_init_28 rfl ?_
  refine xput (C := RX2) (T := TX2) (N := 5) (ty := tyX2 4) (wx := [(a0, .inr (2, [.ref q_1, .int (0 : Int32), .int (0 : Int32), .int (0 : Int32), .int (0 : Int32)])), (q_1, .inl (ca 1, 17, .inr (.inl ((fun _ => 0)))))]) hx hb hts i2 tyX2 tyX2_ok nmX2 hown hK hP hD hS 0 rfl rfl 4 (Nat.le_of_ble_eq_true rfl) w8 (fun _ h9 => h9) rfl rfl rfl rfl (Nat.le_of_ble_eq_true rfl) dX2_init_29 rfl (fun H locs hP hD hS => ?_)
  have hP := hP.sub (ws' := [(a0, .inr (2, [.ref q_1, .int (0 : Int32), .int (0 : Int32), .int (0 : Int32), .int (0 : Int32)])), (q_1, .inl (ca 1, 17, .inr (.inl ((fun _ => 0)))))]) [0, 1] rfl
  have hD := hD.sub (ws' := [(a0, .inr (2, [.ref q_1, .int (0 : Int32), .int (0 : Int32), .int (0 : Int32), .int (0 : Int32)])), (q_1, .inl (ca 1, 17, .inr (.inl ((fun _ => 0)))))]) [0, 1] (by decide) rfl
  cases hf
  exact rt_N (fun k => match k with | 1 => q_1 | _ => 0) hx hb hr hlocks hK hP hD hS hQ rfl (Nat.le_of_ble_eq_true rfl) (Nat.le_of_ble_eq_true rfl) dX2_init_32
abbrev wq_X4_init : List Cond := Cond.code yX4_init cX4_init 1 none :: GL
set_option maxHeartbeats 4000000 in
set_option maxRecDepth 100000 in
theorem c_X4_init (l : Launch) (D : va_G) (ca : Nat → ClassId) (zz : Nat → Nat) (a0 : Nat) (sz : Nat) (v' : V4) (hf : f_X4_init = some v') : Met l yX4_init wq_X4_init ({ frames := 1, cells := 1, slots := 512, locals := 20 } : Room) (PR D ca zz [.ref a0] sz [(a0, .inr (4, [.null, .int 0, .int 0]))]) (QN D ca (fun q => [(a0, .inr (4, [.ref (q 1), .int v'.2.1, .int v'.2.2])), ((q 1), .inl (ca 0, 512, .inl v'.1))]) (va_A [(a0, .inr (4, [.null, .int 0, .int 0]))] sz)) 1 512 (va_A [(a0, .inr (4, [.null, .int 0, .int 0]))] sz) := by
  refine en (y := yX4_init) (wsm := wq_X4_init) (av := [.ref a0]) (cc := cX4_init) (maxL := 1) (ret := none) (Qf := fun A => QN D ca (fun q => [(a0, .inr (4, [.ref (q 1), .int v'.2.1, .int v'.2.2])), ((q 1), .inl (ca 0, 512, .inl v'.1))]) A) (by decide) rfl (Nat.le_of_ble_eq_true rfl) ?_
  intro p e s m args below meth c A Q ls hx hb hr hml hown hts hlocks hnm hA hN hZ hK hQ hP hD hS hl
  have w0 := hts _ (List.mem_cons_of_mem _ gw_1_164)
  have w1 := hts _ (List.mem_cons_of_mem _ gw_1_32)
  have w2 := hts _ (List.mem_cons_of_mem _ gw_1_33)
  have w3 := hts _ (List.mem_cons_of_mem _ gw_1_74)
  have w4 := hts _ (List.mem_cons_of_mem _ gw_1_165)
  have w5 := hts _ (List.mem_cons_of_mem _ gw_1_166)
  have w6 := hts _ (List.mem_cons_of_mem _ gw_1_167)
  have i4 : ∀ w ∈ u_ws RX4 TX4 3, w ∈ wq_X4_init := fun w h => List.mem_cons_of_mem _ (inX4 w h)
  unfold f_X4_init at hf
  refine lv_aload_n hx hb dX4_init_0 rfl (lv_at hl 0 rfl) ?_
  refine W.objInit hx hb hown w0 w1 w2 rfl (by rw [hml]; exact hl.1) rfl dX4_init_1 (Nat.le_of_ble_eq_true rfl) (Nat.le_of_ble_eq_true rfl) ?_
  refine lv_aload_n hx hb dX4_init_4 rfl (lv_at hl 0 rfl) ?_
  refine lv_sipush (v := 512) hx hb dX4_init_5 rfl ?_
  refine xnewa 0 (atype := .int) (ty := .int) (N' := 512) (a0 := (512, .inl (fun _ => 0))) hx hb w3 rfl hK hP hD hS hA (fun _ => rfl) (by decide) rfl (Nat.le_of_ble_eq_true rfl) rfl (fun _ h => h) (Nat.le_of_ble_eq_true rfl) (Nat.le_of_ble_eq_true rfl) dX4_init_8 (fun q_1 H hP hD hS => ?_)
  have hP : va_P D vwCl [(a0, .inr (4, [.null, .int (0 : Int32), .int (0 : Int32)])), (q_1, .inl (ca 0, 512, .inl ((fun _ => 0))))] H := hP
  have hD : va_D A [(a0, .inr (4, [.null, .int (0 : Int32), .int (0 : Int32)])), (q_1, .inl (ca 0, 512, .inl ((fun _ => 0))))] := hD
  refine xputF (C := RX4) (T := TX4) (N := 3) (ty := tyX4 0) (wx := [(a0, .inr (4, [.ref q_1, .int (0 : Int32), .int (0 : Int32)])), (q_1, .inl (ca 0, 512, .inl ((fun _ => 0))))]) hx hb hts i4 tyX4 tyX4_ok nmX4 hown hK hP hD hS 0 rfl rfl 0 (Nat.le_of_ble_eq_true rfl) w4 (fun _ h9 => h9) rfl hnm rfl rfl rfl rfl (Nat.le_of_ble_eq_true rfl) dX4_init_10 rfl (fun H locs hP hD hS => ?_)
  refine lv_aload_n hx hb dX4_init_13 rfl (lv_at hl 0 rfl) ?_
  refine lv_iconst (v := 0) hx hb dX4_init_14 rfl ?_
  refine xput (C := RX4) (T := TX4) (N := 3) (ty := tyX4 1) (wx := [(a0, .inr (4, [.ref q_1, .int (0 : Int32), .int (0 : Int32)])), (q_1, .inl (ca 0, 512, .inl ((fun _ => 0))))]) hx hb hts i4 tyX4 tyX4_ok nmX4 hown hK hP hD hS 0 rfl rfl 1 (Nat.le_of_ble_eq_true rfl) w5 (fun _ h9 => h9) rfl rfl rfl rfl (Nat.le_of_ble_eq_true rfl) dX4_init_15 rfl (fun H locs hP hD hS => ?_)
  refine lv_aload_n hx hb dX4_init_18 rfl (lv_at hl 0 rfl) ?_
  refine lv_iconst (v := 0) hx hb dX4_init_19 rfl ?_
  refine xput (C := RX4) (T := TX4) (N := 3) (ty := tyX4 2) (wx := [(a0, .inr (4, [.ref q_1, .int (0 : Int32), .int (0 : Int32)])), (q_1, .inl (ca 0, 512, .inl ((fun _ => 0))))]) hx hb hts i4 tyX4 tyX4_ok nmX4 hown hK hP hD hS 0 rfl rfl 2 (Nat.le_of_ble_eq_true rfl) w6 (fun _ h9 => h9) rfl rfl rfl rfl (Nat.le_of_ble_eq_true rfl) dX4_init_20 rfl (fun H locs hP hD hS => ?_)
  have hP := hP.sub (ws' := [(a0, .inr (4, [.ref q_1, .int (0 : Int32), .int (0 : Int32)])), (q_1, .inl (ca 0, 512, .inl ((fun _ => 0))))]) [0, 1] rfl
  have hD := hD.sub (ws' := [(a0, .inr (4, [.ref q_1, .int (0 : Int32), .int (0 : Int32)])), (q_1, .inl (ca 0, 512, .inl ((fun _ => 0))))]) [0, 1] (by decide) rfl
  cases hf
  exact rt_N (fun k => match k with | 1 => q_1 | _ => 0) hx hb hr hlocks hK hP hD hS hQ rfl (Nat.le_of_ble_eq_true rfl) (Nat.le_of_ble_eq_true rfl) dX4_init_23
abbrev wq_X7_init : List Cond := Cond.code yX7_init cX7_init 1 none :: GL
set_option maxHeartbeats 4000000 in
set_option maxRecDepth 100000 in
theorem c_X7_init (l : Launch) (D : va_G) (ca : Nat → ClassId) (zz : Nat → Nat) (a0 : Nat) (sz : Nat) (v' : V7) (hf : f_X7_init = some v') : Met l yX7_init wq_X7_init ({ frames := 1, cells := 4, slots := 21, locals := 22 } : Room) (PR D ca zz [.ref a0] sz [(a0, .inr (7, [.null, .null, .null, .null, .int 0]))]) (QN D ca (fun q => [(a0, .inr (7, [.ref (q 1), .ref (q 2), .ref (q 3), .ref (q 4), .int v'.2.2.2.2])), ((q 1), .inl (ca 0, 9, .inl v'.1)), ((q 2), .inl (ca 0, 4, .inl v'.2.1)), ((q 3), .inl (ca 0, 4, .inl v'.2.2.1)), ((q 4), .inl (ca 0, 4, .inl v'.2.2.2.1))]) (va_A [(a0, .inr (7, [.null, .null, .null, .null, .int 0]))] sz)) 4 21 (va_A [(a0, .inr (7, [.null, .null, .null, .null, .int 0]))] sz) := by
  refine en (y := yX7_init) (wsm := wq_X7_init) (av := [.ref a0]) (cc := cX7_init) (maxL := 1) (ret := none) (Qf := fun A => QN D ca (fun q => [(a0, .inr (7, [.ref (q 1), .ref (q 2), .ref (q 3), .ref (q 4), .int v'.2.2.2.2])), ((q 1), .inl (ca 0, 9, .inl v'.1)), ((q 2), .inl (ca 0, 4, .inl v'.2.1)), ((q 3), .inl (ca 0, 4, .inl v'.2.2.1)), ((q 4), .inl (ca 0, 4, .inl v'.2.2.2.1))]) A) (by decide) rfl (Nat.le_of_ble_eq_true rfl) ?_
  intro p e s m args below meth c A Q ls hx hb hr hml hown hts hlocks hnm hA hN hZ hK hQ hP hD hS hl
  have w0 := hts _ (List.mem_cons_of_mem _ gw_1_45)
  have w1 := hts _ (List.mem_cons_of_mem _ gw_1_32)
  have w2 := hts _ (List.mem_cons_of_mem _ gw_1_33)
  have w3 := hts _ (List.mem_cons_of_mem _ gw_1_48)
  have w4 := hts _ (List.mem_cons_of_mem _ gw_1_49)
  have w5 := hts _ (List.mem_cons_of_mem _ gw_1_50)
  have w6 := hts _ (List.mem_cons_of_mem _ gw_1_51)
  have w7 := hts _ (List.mem_cons_of_mem _ gw_1_52)
  have w8 := hts _ (List.mem_cons_of_mem _ gw_1_54)
  have w9 := hts _ (List.mem_cons_of_mem _ gw_1_55)
  have w10 := hts _ (List.mem_cons_of_mem _ gw_1_74)
  have w11 := hts _ (List.mem_cons_of_mem _ gw_1_56)
  have w12 := hts _ (List.mem_cons_of_mem _ gw_1_57)
  have w13 := hts _ (List.mem_cons_of_mem _ gw_1_58)
  have w14 := hts _ (List.mem_cons_of_mem _ gw_1_59)
  have nw0 := NW.use (args := args) (w := .fieldLinkNest RX7 9 "NoiseWatch" "FIRST" "[I" "NoiseWatch") hN 0 rfl
  have i7 : ∀ w ∈ u_ws RX7 TX7 5, w ∈ wq_X7_init := fun w h => List.mem_cons_of_mem _ (inX7 w h)
  unfold f_X7_init at hf
  refine lv_aload_n hx hb dX7_init_0 rfl (lv_at hl 0 rfl) ?_
  refine W.objInit hx hb hown w0 w1 w2 rfl (by rw [hml]; exact hl.1) rfl dX7_init_1 (Nat.le_of_ble_eq_true rfl) (Nat.le_of_ble_eq_true rfl) ?_
  refine lv_aload_n hx hb dX7_init_4 rfl (lv_at hl 0 rfl) ?_
  refine va_getsN hx hb hZ.1.1 hS hown nw0 (fun _ h9 => h9) dX7_init_5 ?_
  refine xclone hx hb (hml.trans hl.1.symm) hown w3 w4 w5 w6 w7 hN.2.1 hK hP hD hS hA hZ.1.2.1 hZ.1.2.2 (Nat.le_of_ble_eq_true rfl) (Nat.le_of_ble_eq_true rfl) (Nat.le_of_ble_eq_true rfl) (Nat.le_of_ble_eq_true rfl) dX7_init_8 (fun q_1 H hP hD hS => ?_)
  have hP : va_P D vwCl [(a0, .inr (7, [.null, .null, .null, .null, .int (0 : Int32)])), (q_1, .inl (ca 0, 9, .inl stF))] H := hP
  have hD : va_D A [(a0, .inr (7, [.null, .null, .null, .null, .int (0 : Int32)])), (q_1, .inl (ca 0, 9, .inl stF))] := hD
  refine va_castA hx hb hown w8 hP 1 rfl (hK.2 0 _ rfl).2 dX7_init_11 ?_
  refine xputF (C := RX7) (T := TX7) (N := 5) (ty := tyX7 0) (wx := [(a0, .inr (7, [.ref q_1, .null, .null, .null, .int (0 : Int32)])), (q_1, .inl (ca 0, 9, .inl stF))]) hx hb hts i7 tyX7 tyX7_ok nmX7 hown hK hP hD hS 0 rfl rfl 0 (Nat.le_of_ble_eq_true rfl) w9 (fun _ h9 => h9) rfl hnm rfl rfl rfl rfl (Nat.le_of_ble_eq_true rfl) dX7_init_14 rfl (fun H locs hP hD hS => ?_)
  refine lv_aload_n hx hb dX7_init_17 rfl (lv_at hl 0 rfl) ?_
  refine lv_iconst (v := 4) hx hb dX7_init_18 rfl ?_
  refine xnewa 0 (atype := .int) (ty := .int) (N' := 4) (a0 := (4, .inl (fun _ => 0))) hx hb w10 rfl hK hP hD hS hA (fun _ => rfl) (by decide) rfl (Nat.le_of_ble_eq_true rfl) rfl (fun _ h => h) (Nat.le_of_ble_eq_true rfl) (Nat.le_of_ble_eq_true rfl) dX7_init_19 (fun q_2 H hP hD hS => ?_)
  have hP : va_P D vwCl [(a0, .inr (7, [.ref q_1, .null, .null, .null, .int (0 : Int32)])), (q_1, .inl (ca 0, 9, .inl stF)), (q_2, .inl (ca 0, 4, .inl ((fun _ => 0))))] H := hP
  have hD : va_D A [(a0, .inr (7, [.ref q_1, .null, .null, .null, .int (0 : Int32)])), (q_1, .inl (ca 0, 9, .inl stF)), (q_2, .inl (ca 0, 4, .inl ((fun _ => 0))))] := hD
  refine xputF (C := RX7) (T := TX7) (N := 5) (ty := tyX7 1) (wx := [(a0, .inr (7, [.ref q_1, .ref q_2, .null, .null, .int (0 : Int32)])), (q_1, .inl (ca 0, 9, .inl stF)), (q_2, .inl (ca 0, 4, .inl ((fun _ => 0))))]) hx hb hts i7 tyX7 tyX7_ok nmX7 hown hK hP hD hS 0 rfl rfl 1 (Nat.le_of_ble_eq_true rfl) w11 (fun _ h9 => h9) rfl hnm rfl rfl rfl rfl (Nat.le_of_ble_eq_true rfl) dX7_init_21 rfl (fun H locs hP hD hS => ?_)
  refine lv_aload_n hx hb dX7_init_24 rfl (lv_at hl 0 rfl) ?_
  refine lv_iconst (v := 4) hx hb dX7_init_25 rfl ?_
  refine xnewa 0 (atype := .int) (ty := .int) (N' := 4) (a0 := (4, .inl (fun _ => 0))) hx hb w10 rfl hK hP hD hS hA (fun _ => rfl) (by decide) rfl (Nat.le_of_ble_eq_true rfl) rfl (fun _ h => h) (Nat.le_of_ble_eq_true rfl) (Nat.le_of_ble_eq_true rfl) dX7_init_26 (fun q_3 H hP hD hS => ?_)
  have hP : va_P D vwCl [(a0, .inr (7, [.ref q_1, .ref q_2, .null, .null, .int (0 : Int32)])), (q_1, .inl (ca 0, 9, .inl stF)), (q_2, .inl (ca 0, 4, .inl ((fun _ => 0)))), (q_3, .inl (ca 0, 4, .inl ((fun _ => 0))))] H := hP
  have hD : va_D A [(a0, .inr (7, [.ref q_1, .ref q_2, .null, .null, .int (0 : Int32)])), (q_1, .inl (ca 0, 9, .inl stF)), (q_2, .inl (ca 0, 4, .inl ((fun _ => 0)))), (q_3, .inl (ca 0, 4, .inl ((fun _ => 0))))] := hD
  refine xputF (C := RX7) (T := TX7) (N := 5) (ty := tyX7 2) (wx := [(a0, .inr (7, [.ref q_1, .ref q_2, .ref q_3, .null, .int (0 : Int32)])), (q_1, .inl (ca 0, 9, .inl stF)), (q_2, .inl (ca 0, 4, .inl ((fun _ => 0)))), (q_3, .inl (ca 0, 4, .inl ((fun _ => 0))))]) hx hb hts i7 tyX7 tyX7_ok nmX7 hown hK hP hD hS 0 rfl rfl 2 (Nat.le_of_ble_eq_true rfl) w12 (fun _ h9 => h9) rfl hnm rfl rfl rfl rfl (Nat.le_of_ble_eq_true rfl) dX7_init_28 rfl (fun H locs hP hD hS => ?_)
  refine lv_aload_n hx hb dX7_init_31 rfl (lv_at hl 0 rfl) ?_
  refine lv_iconst (v := 4) hx hb dX7_init_32 rfl ?_
  refine xnewa 0 (atype := .int) (ty := .int) (N' := 4) (a0 := (4, .inl (fun _ => 0))) hx hb w10 rfl hK hP hD hS hA (fun _ => rfl) (by decide) rfl (Nat.le_of_ble_eq_true rfl) rfl (fun _ h => h) (Nat.le_of_ble_eq_true rfl) (Nat.le_of_ble_eq_true rfl) dX7_init_33 (fun q_4 H hP hD hS => ?_)
  have hP : va_P D vwCl [(a0, .inr (7, [.ref q_1, .ref q_2, .ref q_3, .null, .int (0 : Int32)])), (q_1, .inl (ca 0, 9, .inl stF)), (q_2, .inl (ca 0, 4, .inl ((fun _ => 0)))), (q_3, .inl (ca 0, 4, .inl ((fun _ => 0)))), (q_4, .inl (ca 0, 4, .inl ((fun _ => 0))))] H := hP
  have hD : va_D A [(a0, .inr (7, [.ref q_1, .ref q_2, .ref q_3, .null, .int (0 : Int32)])), (q_1, .inl (ca 0, 9, .inl stF)), (q_2, .inl (ca 0, 4, .inl ((fun _ => 0)))), (q_3, .inl (ca 0, 4, .inl ((fun _ => 0)))), (q_4, .inl (ca 0, 4, .inl ((fun _ => 0))))] := hD
  refine xputF (C := RX7) (T := TX7) (N := 5) (ty := tyX7 3) (wx := [(a0, .inr (7, [.ref q_1, .ref q_2, .ref q_3, .ref q_4, .int (0 : Int32)])), (q_1, .inl (ca 0, 9, .inl stF)), (q_2, .inl (ca 0, 4, .inl ((fun _ => 0)))), (q_3, .inl (ca 0, 4, .inl ((fun _ => 0)))), (q_4, .inl (ca 0, 4, .inl ((fun _ => 0))))]) hx hb hts i7 tyX7 tyX7_ok nmX7 hown hK hP hD hS 0 rfl rfl 3 (Nat.le_of_ble_eq_true rfl) w13 (fun _ h9 => h9) rfl hnm rfl rfl rfl rfl (Nat.le_of_ble_eq_true rfl) dX7_init_35 rfl (fun H locs hP hD hS => ?_)
  refine lv_aload_n hx hb dX7_init_38 rfl (lv_at hl 0 rfl) ?_
  refine lv_iconst (v := 0) hx hb dX7_init_39 rfl ?_
  refine xput (C := RX7) (T := TX7) (N := 5) (ty := tyX7 4) (wx := [(a0, .inr (7, [.ref q_1, .ref q_2, .ref q_3, .ref q_4, .int (0 : Int32)])), (q_1, .inl (ca 0, 9, .inl stF)), (q_2, .inl (ca 0, 4, .inl ((fun _ => 0)))), (q_3, .inl (ca 0, 4, .inl ((fun _ => 0)))), (q_4, .inl (ca 0, 4, .inl ((fun _ => 0))))]) hx hb hts i7 tyX7 tyX7_ok nmX7 hown hK hP hD hS 0 rfl rfl 4 (Nat.le_of_ble_eq_true rfl) w14 (fun _ h9 => h9) rfl rfl rfl rfl (Nat.le_of_ble_eq_true rfl) dX7_init_40 rfl (fun H locs hP hD hS => ?_)
  have hP := hP.sub (ws' := [(a0, .inr (7, [.ref q_1, .ref q_2, .ref q_3, .ref q_4, .int (0 : Int32)])), (q_1, .inl (ca 0, 9, .inl stF)), (q_2, .inl (ca 0, 4, .inl ((fun _ => 0)))), (q_3, .inl (ca 0, 4, .inl ((fun _ => 0)))), (q_4, .inl (ca 0, 4, .inl ((fun _ => 0))))]) [0, 1, 2, 3, 4] rfl
  have hD := hD.sub (ws' := [(a0, .inr (7, [.ref q_1, .ref q_2, .ref q_3, .ref q_4, .int (0 : Int32)])), (q_1, .inl (ca 0, 9, .inl stF)), (q_2, .inl (ca 0, 4, .inl ((fun _ => 0)))), (q_3, .inl (ca 0, 4, .inl ((fun _ => 0)))), (q_4, .inl (ca 0, 4, .inl ((fun _ => 0))))]) [0, 1, 2, 3, 4] (by decide) rfl
  cases hf
  exact rt_N (fun k => match k with | 1 => q_1 | 2 => q_2 | 3 => q_3 | 4 => q_4 | _ => 0) hx hb hr hlocks hK hP hD hS hQ rfl (Nat.le_of_ble_eq_true rfl) (Nat.le_of_ble_eq_true rfl) dX7_init_43
abbrev wq_X8_init : List Cond := Cond.code yX8_init cX8_init 1 none :: GL
set_option maxHeartbeats 4000000 in
set_option maxRecDepth 100000 in
theorem c_X8_init (l : Launch) (D : va_G) (ca : Nat → ClassId) (zz : Nat → Nat) (a0 : Nat) (sz : Nat) (v' : V8) (hf : f_X8_init = some v') : Met l yX8_init wq_X8_init ({ frames := 1, cells := 0, slots := 0, locals := 20 } : Room) (PR D ca zz [.ref a0] sz [(a0, .inr (8, [.int 0, .int 0, .int 0]))]) (QN D ca (fun q => [(a0, .inr (8, [.int v'.1, .int v'.2.1, .int v'.2.2]))]) (va_A [(a0, .inr (8, [.int 0, .int 0, .int 0]))] sz)) 0 0 (va_A [(a0, .inr (8, [.int 0, .int 0, .int 0]))] sz) := by
  refine en (y := yX8_init) (wsm := wq_X8_init) (av := [.ref a0]) (cc := cX8_init) (maxL := 1) (ret := none) (Qf := fun A => QN D ca (fun q => [(a0, .inr (8, [.int v'.1, .int v'.2.1, .int v'.2.2]))]) A) (by decide) rfl (Nat.le_of_ble_eq_true rfl) ?_
  intro p e s m args below meth c A Q ls hx hb hr hml hown hts hlocks hnm hA hN hZ hK hQ hP hD hS hl
  have w0 := hts _ (List.mem_cons_of_mem _ gw_1_109)
  have w1 := hts _ (List.mem_cons_of_mem _ gw_1_32)
  have w2 := hts _ (List.mem_cons_of_mem _ gw_1_33)
  have w3 := hts _ (List.mem_cons_of_mem _ gw_1_110)
  have w4 := hts _ (List.mem_cons_of_mem _ gw_1_111)
  have w5 := hts _ (List.mem_cons_of_mem _ gw_1_113)
  have i8 : ∀ w ∈ u_ws RX8 TX8 3, w ∈ wq_X8_init := fun w h => List.mem_cons_of_mem _ (inX8 w h)
  unfold f_X8_init at hf
  refine lv_aload_n hx hb dX8_init_0 rfl (lv_at hl 0 rfl) ?_
  refine W.objInit hx hb hown w0 w1 w2 rfl (by rw [hml]; exact hl.1) rfl dX8_init_1 (Nat.le_of_ble_eq_true rfl) (Nat.le_of_ble_eq_true rfl) ?_
  refine lv_aload_n hx hb dX8_init_4 rfl (lv_at hl 0 rfl) ?_
  refine lv_iconst (v := 0) hx hb dX8_init_5 rfl ?_
  refine xput (C := RX8) (T := TX8) (N := 3) (ty := tyX8 0) (wx := [(a0, .inr (8, [.int (0 : Int32), .int (0 : Int32), .int (0 : Int32)]))]) hx hb hts i8 tyX8 tyX8_ok nmX8 hown hK hP hD hS 0 rfl rfl 0 (Nat.le_of_ble_eq_true rfl) w3 (fun _ h9 => h9) rfl rfl rfl rfl (Nat.le_of_ble_eq_true rfl) dX8_init_6 rfl (fun H locs hP hD hS => ?_)
  refine lv_aload_n hx hb dX8_init_9 rfl (lv_at hl 0 rfl) ?_
  refine lv_iconst (v := 0) hx hb dX8_init_10 rfl ?_
  refine xput (C := RX8) (T := TX8) (N := 3) (ty := tyX8 1) (wx := [(a0, .inr (8, [.int (0 : Int32), .int (0 : Int32), .int (0 : Int32)]))]) hx hb hts i8 tyX8 tyX8_ok nmX8 hown hK hP hD hS 0 rfl rfl 1 (Nat.le_of_ble_eq_true rfl) w4 (fun _ h9 => h9) rfl rfl rfl rfl (Nat.le_of_ble_eq_true rfl) dX8_init_11 rfl (fun H locs hP hD hS => ?_)
  refine lv_aload_n hx hb dX8_init_14 rfl (lv_at hl 0 rfl) ?_
  refine lv_iconst (v := 0) hx hb dX8_init_15 rfl ?_
  refine xput (C := RX8) (T := TX8) (N := 3) (ty := tyX8 2) (wx := [(a0, .inr (8, [.int (0 : Int32), .int (0 : Int32), .int (0 : Int32)]))]) hx hb hts i8 tyX8 tyX8_ok nmX8 hown hK hP hD hS 0 rfl rfl 2 (Nat.le_of_ble_eq_true rfl) w5 (fun _ h9 => h9) rfl rfl rfl rfl (Nat.le_of_ble_eq_true rfl) dX8_init_16 rfl (fun H locs hP hD hS => ?_)
  have hP := hP.sub (ws' := [(a0, .inr (8, [.int (0 : Int32), .int (0 : Int32), .int (0 : Int32)]))]) [0] rfl
  have hD := hD.sub (ws' := [(a0, .inr (8, [.int (0 : Int32), .int (0 : Int32), .int (0 : Int32)]))]) [0] (by decide) rfl
  cases hf
  exact rt_N (fun k => match k with  | _ => 0) hx hb hr hlocks hK hP hD hS hQ rfl (Nat.le_of_ble_eq_true rfl) (Nat.le_of_ble_eq_true rfl) dX8_init_19
abbrev wq_X9_init : List Cond := Cond.code yX9_init cX9_init 1 none :: GL
set_option maxHeartbeats 4000000 in
set_option maxRecDepth 100000 in
theorem c_X9_init (l : Launch) (D : va_G) (ca : Nat → ClassId) (zz : Nat → Nat) (a0 : Nat) (sz : Nat) (v' : V9) (hf : f_X9_init = some v') : Met l yX9_init wq_X9_init ({ frames := 1, cells := 1, slots := 300, locals := 20 } : Room) (PR D ca zz [.ref a0] sz [(a0, .inr (9, [.null, .int 0, .int 0, .int 0]))]) (QN D ca (fun q => [(a0, .inr (9, [.ref (q 1), .int v'.2.1, .int v'.2.2.1, .int v'.2.2.2])), ((q 1), .inl (ca 0, 300, .inl v'.1))]) (va_A [(a0, .inr (9, [.null, .int 0, .int 0, .int 0]))] sz)) 1 300 (va_A [(a0, .inr (9, [.null, .int 0, .int 0, .int 0]))] sz) := by
  refine en (y := yX9_init) (wsm := wq_X9_init) (av := [.ref a0]) (cc := cX9_init) (maxL := 1) (ret := none) (Qf := fun A => QN D ca (fun q => [(a0, .inr (9, [.ref (q 1), .int v'.2.1, .int v'.2.2.1, .int v'.2.2.2])), ((q 1), .inl (ca 0, 300, .inl v'.1))]) A) (by decide) rfl (Nat.le_of_ble_eq_true rfl) ?_
  intro p e s m args below meth c A Q ls hx hb hr hml hown hts hlocks hnm hA hN hZ hK hQ hP hD hS hl
  have w0 := hts _ (List.mem_cons_of_mem _ gw_1_232)
  have w1 := hts _ (List.mem_cons_of_mem _ gw_1_32)
  have w2 := hts _ (List.mem_cons_of_mem _ gw_1_33)
  have w3 := hts _ (List.mem_cons_of_mem _ gw_1_74)
  have w4 := hts _ (List.mem_cons_of_mem _ gw_1_233)
  have w5 := hts _ (List.mem_cons_of_mem _ gw_1_234)
  have w6 := hts _ (List.mem_cons_of_mem _ gw_1_237)
  have w7 := hts _ (List.mem_cons_of_mem _ gw_1_239)
  have i9 : ∀ w ∈ u_ws RX9 TX9 4, w ∈ wq_X9_init := fun w h => List.mem_cons_of_mem _ (inX9 w h)
  unfold f_X9_init at hf
  refine lv_aload_n hx hb dX9_init_0 rfl (lv_at hl 0 rfl) ?_
  refine W.objInit hx hb hown w0 w1 w2 rfl (by rw [hml]; exact hl.1) rfl dX9_init_1 (Nat.le_of_ble_eq_true rfl) (Nat.le_of_ble_eq_true rfl) ?_
  refine lv_aload_n hx hb dX9_init_4 rfl (lv_at hl 0 rfl) ?_
  refine lv_sipush (v := 300) hx hb dX9_init_5 rfl ?_
  refine xnewa 0 (atype := .int) (ty := .int) (N' := 300) (a0 := (300, .inl (fun _ => 0))) hx hb w3 rfl hK hP hD hS hA (fun _ => rfl) (by decide) rfl (Nat.le_of_ble_eq_true rfl) rfl (fun _ h => h) (Nat.le_of_ble_eq_true rfl) (Nat.le_of_ble_eq_true rfl) dX9_init_8 (fun q_1 H hP hD hS => ?_)
  have hP : va_P D vwCl [(a0, .inr (9, [.null, .int (0 : Int32), .int (0 : Int32), .int (0 : Int32)])), (q_1, .inl (ca 0, 300, .inl ((fun _ => 0))))] H := hP
  have hD : va_D A [(a0, .inr (9, [.null, .int (0 : Int32), .int (0 : Int32), .int (0 : Int32)])), (q_1, .inl (ca 0, 300, .inl ((fun _ => 0))))] := hD
  refine xputF (C := RX9) (T := TX9) (N := 4) (ty := tyX9 0) (wx := [(a0, .inr (9, [.ref q_1, .int (0 : Int32), .int (0 : Int32), .int (0 : Int32)])), (q_1, .inl (ca 0, 300, .inl ((fun _ => 0))))]) hx hb hts i9 tyX9 tyX9_ok nmX9 hown hK hP hD hS 0 rfl rfl 0 (Nat.le_of_ble_eq_true rfl) w4 (fun _ h9 => h9) rfl hnm rfl rfl rfl rfl (Nat.le_of_ble_eq_true rfl) dX9_init_10 rfl (fun H locs hP hD hS => ?_)
  refine lv_aload_n hx hb dX9_init_13 rfl (lv_at hl 0 rfl) ?_
  refine lv_iconst (v := 0) hx hb dX9_init_14 rfl ?_
  refine xput (C := RX9) (T := TX9) (N := 4) (ty := tyX9 1) (wx := [(a0, .inr (9, [.ref q_1, .int (0 : Int32), .int (0 : Int32), .int (0 : Int32)])), (q_1, .inl (ca 0, 300, .inl ((fun _ => 0))))]) hx hb hts i9 tyX9 tyX9_ok nmX9 hown hK hP hD hS 0 rfl rfl 1 (Nat.le_of_ble_eq_true rfl) w5 (fun _ h9 => h9) rfl rfl rfl rfl (Nat.le_of_ble_eq_true rfl) dX9_init_15 rfl (fun H locs hP hD hS => ?_)
  refine lv_aload_n hx hb dX9_init_18 rfl (lv_at hl 0 rfl) ?_
  refine lv_iconst (v := 0) hx hb dX9_init_19 rfl ?_
  refine xput (C := RX9) (T := TX9) (N := 4) (ty := tyX9 2) (wx := [(a0, .inr (9, [.ref q_1, .int (0 : Int32), .int (0 : Int32), .int (0 : Int32)])), (q_1, .inl (ca 0, 300, .inl ((fun _ => 0))))]) hx hb hts i9 tyX9 tyX9_ok nmX9 hown hK hP hD hS 0 rfl rfl 2 (Nat.le_of_ble_eq_true rfl) w6 (fun _ h9 => h9) rfl rfl rfl rfl (Nat.le_of_ble_eq_true rfl) dX9_init_20 rfl (fun H locs hP hD hS => ?_)
  refine lv_aload_n hx hb dX9_init_23 rfl (lv_at hl 0 rfl) ?_
  refine lv_iconst (v := -1) hx hb dX9_init_24 rfl ?_
  refine xput (C := RX9) (T := TX9) (N := 4) (ty := tyX9 3) (wx := [(a0, .inr (9, [.ref q_1, .int (0 : Int32), .int (0 : Int32), .int (-1 : Int32)])), (q_1, .inl (ca 0, 300, .inl ((fun _ => 0))))]) hx hb hts i9 tyX9 tyX9_ok nmX9 hown hK hP hD hS 0 rfl rfl 3 (Nat.le_of_ble_eq_true rfl) w7 (fun _ h9 => h9) rfl rfl rfl rfl (Nat.le_of_ble_eq_true rfl) dX9_init_25 rfl (fun H locs hP hD hS => ?_)
  have hP := hP.sub (ws' := [(a0, .inr (9, [.ref q_1, .int (0 : Int32), .int (0 : Int32), .int (-1 : Int32)])), (q_1, .inl (ca 0, 300, .inl ((fun _ => 0))))]) [0, 1] rfl
  have hD := hD.sub (ws' := [(a0, .inr (9, [.ref q_1, .int (0 : Int32), .int (0 : Int32), .int (-1 : Int32)])), (q_1, .inl (ca 0, 300, .inl ((fun _ => 0))))]) [0, 1] (by decide) rfl
  cases hf
  exact rt_N (fun k => match k with | 1 => q_1 | _ => 0) hx hb hr hlocks hK hP hD hS hQ rfl (Nat.le_of_ble_eq_true rfl) (Nat.le_of_ble_eq_true rfl) dX9_init_28
abbrev wq_X0_init : List Cond := Cond.code yX0_init cX0_init 1 none :: GL
set_option maxHeartbeats 4000000 in
set_option maxRecDepth 100000 in
theorem c_X0_init (l : Launch) (D : va_G) (ca : Nat → ClassId) (zz : Nat → Nat) (a0 : Nat) (sz : Nat) (v' : V0) (hf : f_X0_init = some v') : Met l yX0_init wq_X0_init ({ frames := 1, cells := 2, slots := 656, locals := 20 } : Room) (PR D ca zz [.ref a0] sz [(a0, .inr (0, [.null, .null, .int 0, .int 0, .int 0]))]) (QN D ca (fun q => [(a0, .inr (0, [.ref (q 1), .ref (q 2), .int v'.2.2.1, .int v'.2.2.2.1, .int v'.2.2.2.2])), ((q 1), .inl (ca 0, 400, .inl v'.1)), ((q 2), .inl (ca 0, 256, .inl v'.2.1))]) (va_A [(a0, .inr (0, [.null, .null, .int 0, .int 0, .int 0]))] sz)) 2 656 (va_A [(a0, .inr (0, [.null, .null, .int 0, .int 0, .int 0]))] sz) := by
  refine en (y := yX0_init) (wsm := wq_X0_init) (av := [.ref a0]) (cc := cX0_init) (maxL := 1) (ret := none) (Qf := fun A => QN D ca (fun q => [(a0, .inr (0, [.ref (q 1), .ref (q 2), .int v'.2.2.1, .int v'.2.2.2.1, .int v'.2.2.2.2])), ((q 1), .inl (ca 0, 400, .inl v'.1)), ((q 2), .inl (ca 0, 256, .inl v'.2.1))]) A) (by decide) rfl (Nat.le_of_ble_eq_true rfl) ?_
  intro p e s m args below meth c A Q ls hx hb hr hml hown hts hlocks hnm hA hN hZ hK hQ hP hD hS hl
  have w0 := hts _ (List.mem_cons_of_mem _ gw_2_164)
  have w1 := hts _ (List.mem_cons_of_mem _ gw_1_32)
  have w2 := hts _ (List.mem_cons_of_mem _ gw_1_33)
  have w3 := hts _ (List.mem_cons_of_mem _ gw_1_74)
  have w4 := hts _ (List.mem_cons_of_mem _ gw_2_165)
  have w5 := hts _ (List.mem_cons_of_mem _ gw_2_166)
  have w6 := hts _ (List.mem_cons_of_mem _ gw_2_167)
  have w7 := hts _ (List.mem_cons_of_mem _ gw_2_168)
  have w8 := hts _ (List.mem_cons_of_mem _ gw_2_170)
  have i0 : ∀ w ∈ u_ws RX0 TX0 5, w ∈ wq_X0_init := fun w h => List.mem_cons_of_mem _ (inX0 w h)
  unfold f_X0_init at hf
  refine lv_aload_n hx hb dX0_init_0 rfl (lv_at hl 0 rfl) ?_
  refine W.objInit hx hb hown w0 w1 w2 rfl (by rw [hml]; exact hl.1) rfl dX0_init_1 (Nat.le_of_ble_eq_true rfl) (Nat.le_of_ble_eq_true rfl) ?_
  refine lv_aload_n hx hb dX0_init_4 rfl (lv_at hl 0 rfl) ?_
  refine lv_sipush (v := 400) hx hb dX0_init_5 rfl ?_
  refine xnewa 0 (atype := .int) (ty := .int) (N' := 400) (a0 := (400, .inl (fun _ => 0))) hx hb w3 rfl hK hP hD hS hA (fun _ => rfl) (by decide) rfl (Nat.le_of_ble_eq_true rfl) rfl (fun _ h => h) (Nat.le_of_ble_eq_true rfl) (Nat.le_of_ble_eq_true rfl) dX0_init_8 (fun q_1 H hP hD hS => ?_)
  have hP : va_P D vwCl [(a0, .inr (0, [.null, .null, .int (0 : Int32), .int (0 : Int32), .int (0 : Int32)])), (q_1, .inl (ca 0, 400, .inl ((fun _ => 0))))] H := hP
  have hD : va_D A [(a0, .inr (0, [.null, .null, .int (0 : Int32), .int (0 : Int32), .int (0 : Int32)])), (q_1, .inl (ca 0, 400, .inl ((fun _ => 0))))] := hD
  refine xputF (C := RX0) (T := TX0) (N := 5) (ty := tyX0 0) (wx := [(a0, .inr (0, [.ref q_1, .null, .int (0 : Int32), .int (0 : Int32), .int (0 : Int32)])), (q_1, .inl (ca 0, 400, .inl ((fun _ => 0))))]) hx hb hts i0 tyX0 tyX0_ok nmX0 hown hK hP hD hS 0 rfl rfl 0 (Nat.le_of_ble_eq_true rfl) w4 (fun _ h9 => h9) rfl hnm rfl rfl rfl rfl (Nat.le_of_ble_eq_true rfl) dX0_init_10 rfl (fun H locs hP hD hS => ?_)
  refine lv_aload_n hx hb dX0_init_13 rfl (lv_at hl 0 rfl) ?_
  refine lv_sipush (v := 256) hx hb dX0_init_14 rfl ?_
  refine xnewa 0 (atype := .int) (ty := .int) (N' := 256) (a0 := (256, .inl (fun _ => 0))) hx hb w3 rfl hK hP hD hS hA (fun _ => rfl) (by decide) rfl (Nat.le_of_ble_eq_true rfl) rfl (fun _ h => h) (Nat.le_of_ble_eq_true rfl) (Nat.le_of_ble_eq_true rfl) dX0_init_17 (fun q_2 H hP hD hS => ?_)
  have hP : va_P D vwCl [(a0, .inr (0, [.ref q_1, .null, .int (0 : Int32), .int (0 : Int32), .int (0 : Int32)])), (q_1, .inl (ca 0, 400, .inl ((fun _ => 0)))), (q_2, .inl (ca 0, 256, .inl ((fun _ => 0))))] H := hP
  have hD : va_D A [(a0, .inr (0, [.ref q_1, .null, .int (0 : Int32), .int (0 : Int32), .int (0 : Int32)])), (q_1, .inl (ca 0, 400, .inl ((fun _ => 0)))), (q_2, .inl (ca 0, 256, .inl ((fun _ => 0))))] := hD
  refine xputF (C := RX0) (T := TX0) (N := 5) (ty := tyX0 1) (wx := [(a0, .inr (0, [.ref q_1, .ref q_2, .int (0 : Int32), .int (0 : Int32), .int (0 : Int32)])), (q_1, .inl (ca 0, 400, .inl ((fun _ => 0)))), (q_2, .inl (ca 0, 256, .inl ((fun _ => 0))))]) hx hb hts i0 tyX0 tyX0_ok nmX0 hown hK hP hD hS 0 rfl rfl 1 (Nat.le_of_ble_eq_true rfl) w5 (fun _ h9 => h9) rfl hnm rfl rfl rfl rfl (Nat.le_of_ble_eq_true rfl) dX0_init_19 rfl (fun H locs hP hD hS => ?_)
  refine lv_aload_n hx hb dX0_init_22 rfl (lv_at hl 0 rfl) ?_
  refine lv_iconst (v := 0) hx hb dX0_init_23 rfl ?_
  refine xput (C := RX0) (T := TX0) (N := 5) (ty := tyX0 2) (wx := [(a0, .inr (0, [.ref q_1, .ref q_2, .int (0 : Int32), .int (0 : Int32), .int (0 : Int32)])), (q_1, .inl (ca 0, 400, .inl ((fun _ => 0)))), (q_2, .inl (ca 0, 256, .inl ((fun _ => 0))))]) hx hb hts i0 tyX0 tyX0_ok nmX0 hown hK hP hD hS 0 rfl rfl 2 (Nat.le_of_ble_eq_true rfl) w6 (fun _ h9 => h9) rfl rfl rfl rfl (Nat.le_of_ble_eq_true rfl) dX0_init_24 rfl (fun H locs hP hD hS => ?_)
  refine lv_aload_n hx hb dX0_init_27 rfl (lv_at hl 0 rfl) ?_
  refine lv_iconst (v := 0) hx hb dX0_init_28 rfl ?_
  refine xput (C := RX0) (T := TX0) (N := 5) (ty := tyX0 3) (wx := [(a0, .inr (0, [.ref q_1, .ref q_2, .int (0 : Int32), .int (0 : Int32), .int (0 : Int32)])), (q_1, .inl (ca 0, 400, .inl ((fun _ => 0)))), (q_2, .inl (ca 0, 256, .inl ((fun _ => 0))))]) hx hb hts i0 tyX0 tyX0_ok nmX0 hown hK hP hD hS 0 rfl rfl 3 (Nat.le_of_ble_eq_true rfl) w7 (fun _ h9 => h9) rfl rfl rfl rfl (Nat.le_of_ble_eq_true rfl) dX0_init_29 rfl (fun H locs hP hD hS => ?_)
  refine lv_aload_n hx hb dX0_init_32 rfl (lv_at hl 0 rfl) ?_
  refine lv_iconst (v := 0) hx hb dX0_init_33 rfl ?_
  refine xput (C := RX0) (T := TX0) (N := 5) (ty := tyX0 4) (wx := [(a0, .inr (0, [.ref q_1, .ref q_2, .int (0 : Int32), .int (0 : Int32), .int (0 : Int32)])), (q_1, .inl (ca 0, 400, .inl ((fun _ => 0)))), (q_2, .inl (ca 0, 256, .inl ((fun _ => 0))))]) hx hb hts i0 tyX0 tyX0_ok nmX0 hown hK hP hD hS 0 rfl rfl 4 (Nat.le_of_ble_eq_true rfl) w8 (fun _ h9 => h9) rfl rfl rfl rfl (Nat.le_of_ble_eq_true rfl) dX0_init_34 rfl (fun H locs hP hD hS => ?_)
  have hP := hP.sub (ws' := [(a0, .inr (0, [.ref q_1, .ref q_2, .int (0 : Int32), .int (0 : Int32), .int (0 : Int32)])), (q_1, .inl (ca 0, 400, .inl ((fun _ => 0)))), (q_2, .inl (ca 0, 256, .inl ((fun _ => 0))))]) [0, 1, 2] rfl
  have hD := hD.sub (ws' := [(a0, .inr (0, [.ref q_1, .ref q_2, .int (0 : Int32), .int (0 : Int32), .int (0 : Int32)])), (q_1, .inl (ca 0, 400, .inl ((fun _ => 0)))), (q_2, .inl (ca 0, 256, .inl ((fun _ => 0))))]) [0, 1, 2] (by decide) rfl
  cases hf
  exact rt_N (fun k => match k with | 1 => q_1 | 2 => q_2 | _ => 0) hx hb hr hlocks hK hP hD hS hQ rfl (Nat.le_of_ble_eq_true rfl) (Nat.le_of_ble_eq_true rfl) dX0_init_37
abbrev wq_X6_init : List Cond := Cond.code yX6_init cX6_init 1 none :: GL
set_option maxHeartbeats 4000000 in
set_option maxRecDepth 100000 in
theorem c_X6_init (l : Launch) (D : va_G) (ca : Nat → ClassId) (zz : Nat → Nat) (a0 : Nat) (sz : Nat) (v' : V6) (hf : f_X6_init = some v') : Met l yX6_init wq_X6_init ({ frames := 1, cells := 2, slots := 30, locals := 20 } : Room) (PR D ca zz [.ref a0] sz [(a0, .inr (6, [.null, .null, .int 0]))]) (QN D ca (fun q => [(a0, .inr (6, [.ref (q 1), .ref (q 2), .int v'.2.2])), ((q 1), .inl (ca 0, 15, .inl v'.1)), ((q 2), .inl (ca 0, 15, .inl v'.2.1))]) (va_A [(a0, .inr (6, [.null, .null, .int 0]))] sz)) 2 30 (va_A [(a0, .inr (6, [.null, .null, .int 0]))] sz) := by
  refine en (y := yX6_init) (wsm := wq_X6_init) (av := [.ref a0]) (cc := cX6_init) (maxL := 1) (ret := none) (Qf := fun A => QN D ca (fun q => [(a0, .inr (6, [.ref (q 1), .ref (q 2), .int v'.2.2])), ((q 1), .inl (ca 0, 15, .inl v'.1)), ((q 2), .inl (ca 0, 15, .inl v'.2.1))]) A) (by decide) rfl (Nat.le_of_ble_eq_true rfl) ?_
  intro p e s m args below meth c A Q ls hx hb hr hml hown hts hlocks hnm hA hN hZ hK hQ hP hD hS hl
  have w0 := hts _ (List.mem_cons_of_mem _ gw_1_215)
  have w1 := hts _ (List.mem_cons_of_mem _ gw_1_32)
  have w2 := hts _ (List.mem_cons_of_mem _ gw_1_33)
  have w3 := hts _ (List.mem_cons_of_mem _ gw_1_74)
  have w4 := hts _ (List.mem_cons_of_mem _ gw_1_216)
  have w5 := hts _ (List.mem_cons_of_mem _ gw_1_217)
  have w6 := hts _ (List.mem_cons_of_mem _ gw_1_218)
  have i6 : ∀ w ∈ u_ws RX6 TX6 3, w ∈ wq_X6_init := fun w h => List.mem_cons_of_mem _ (inX6 w h)
  unfold f_X6_init at hf
  refine lv_aload_n hx hb dX6_init_0 rfl (lv_at hl 0 rfl) ?_
  refine W.objInit hx hb hown w0 w1 w2 rfl (by rw [hml]; exact hl.1) rfl dX6_init_1 (Nat.le_of_ble_eq_true rfl) (Nat.le_of_ble_eq_true rfl) ?_
  refine lv_aload_n hx hb dX6_init_4 rfl (lv_at hl 0 rfl) ?_
  refine lv_bipush (v := 15) hx hb dX6_init_5 rfl ?_
  refine xnewa 0 (atype := .int) (ty := .int) (N' := 15) (a0 := (15, .inl (fun _ => 0))) hx hb w3 rfl hK hP hD hS hA (fun _ => rfl) (by decide) rfl (Nat.le_of_ble_eq_true rfl) rfl (fun _ h => h) (Nat.le_of_ble_eq_true rfl) (Nat.le_of_ble_eq_true rfl) dX6_init_7 (fun q_1 H hP hD hS => ?_)
  have hP : va_P D vwCl [(a0, .inr (6, [.null, .null, .int (0 : Int32)])), (q_1, .inl (ca 0, 15, .inl ((fun _ => 0))))] H := hP
  have hD : va_D A [(a0, .inr (6, [.null, .null, .int (0 : Int32)])), (q_1, .inl (ca 0, 15, .inl ((fun _ => 0))))] := hD
  refine xputF (C := RX6) (T := TX6) (N := 3) (ty := tyX6 0) (wx := [(a0, .inr (6, [.ref q_1, .null, .int (0 : Int32)])), (q_1, .inl (ca 0, 15, .inl ((fun _ => 0))))]) hx hb hts i6 tyX6 tyX6_ok nmX6 hown hK hP hD hS 0 rfl rfl 0 (Nat.le_of_ble_eq_true rfl) w4 (fun _ h9 => h9) rfl hnm rfl rfl rfl rfl (Nat.le_of_ble_eq_true rfl) dX6_init_9 rfl (fun H locs hP hD hS => ?_)
  refine lv_aload_n hx hb dX6_init_12 rfl (lv_at hl 0 rfl) ?_
  refine lv_bipush (v := 15) hx hb dX6_init_13 rfl ?_
  refine xnewa 0 (atype := .int) (ty := .int) (N' := 15) (a0 := (15, .inl (fun _ => 0))) hx hb w3 rfl hK hP hD hS hA (fun _ => rfl) (by decide) rfl (Nat.le_of_ble_eq_true rfl) rfl (fun _ h => h) (Nat.le_of_ble_eq_true rfl) (Nat.le_of_ble_eq_true rfl) dX6_init_15 (fun q_2 H hP hD hS => ?_)
  have hP : va_P D vwCl [(a0, .inr (6, [.ref q_1, .null, .int (0 : Int32)])), (q_1, .inl (ca 0, 15, .inl ((fun _ => 0)))), (q_2, .inl (ca 0, 15, .inl ((fun _ => 0))))] H := hP
  have hD : va_D A [(a0, .inr (6, [.ref q_1, .null, .int (0 : Int32)])), (q_1, .inl (ca 0, 15, .inl ((fun _ => 0)))), (q_2, .inl (ca 0, 15, .inl ((fun _ => 0))))] := hD
  refine xputF (C := RX6) (T := TX6) (N := 3) (ty := tyX6 1) (wx := [(a0, .inr (6, [.ref q_1, .ref q_2, .int (0 : Int32)])), (q_1, .inl (ca 0, 15, .inl ((fun _ => 0)))), (q_2, .inl (ca 0, 15, .inl ((fun _ => 0))))]) hx hb hts i6 tyX6 tyX6_ok nmX6 hown hK hP hD hS 0 rfl rfl 1 (Nat.le_of_ble_eq_true rfl) w5 (fun _ h9 => h9) rfl hnm rfl rfl rfl rfl (Nat.le_of_ble_eq_true rfl) dX6_init_17 rfl (fun H locs hP hD hS => ?_)
  refine lv_aload_n hx hb dX6_init_20 rfl (lv_at hl 0 rfl) ?_
  refine lv_iconst (v := 0) hx hb dX6_init_21 rfl ?_
  refine xput (C := RX6) (T := TX6) (N := 3) (ty := tyX6 2) (wx := [(a0, .inr (6, [.ref q_1, .ref q_2, .int (0 : Int32)])), (q_1, .inl (ca 0, 15, .inl ((fun _ => 0)))), (q_2, .inl (ca 0, 15, .inl ((fun _ => 0))))]) hx hb hts i6 tyX6 tyX6_ok nmX6 hown hK hP hD hS 0 rfl rfl 2 (Nat.le_of_ble_eq_true rfl) w6 (fun _ h9 => h9) rfl rfl rfl rfl (Nat.le_of_ble_eq_true rfl) dX6_init_22 rfl (fun H locs hP hD hS => ?_)
  have hP := hP.sub (ws' := [(a0, .inr (6, [.ref q_1, .ref q_2, .int (0 : Int32)])), (q_1, .inl (ca 0, 15, .inl ((fun _ => 0)))), (q_2, .inl (ca 0, 15, .inl ((fun _ => 0))))]) [0, 1, 2] rfl
  have hD := hD.sub (ws' := [(a0, .inr (6, [.ref q_1, .ref q_2, .int (0 : Int32)])), (q_1, .inl (ca 0, 15, .inl ((fun _ => 0)))), (q_2, .inl (ca 0, 15, .inl ((fun _ => 0))))]) [0, 1, 2] (by decide) rfl
  cases hf
  exact rt_N (fun k => match k with | 1 => q_1 | 2 => q_2 | _ => 0) hx hb hr hlocks hK hP hD hS hQ rfl (Nat.le_of_ble_eq_true rfl) (Nat.le_of_ble_eq_true rfl) dX6_init_25
abbrev wq_X3_init : List Cond := Cond.code yX3_init cX3_init 1 none :: GL
set_option maxHeartbeats 4000000 in
set_option maxRecDepth 100000 in
theorem c_X3_init (l : Launch) (D : va_G) (ca : Nat → ClassId) (zz : Nat → Nat) (a0 : Nat) (sz : Nat) (v' : V3) (hf : f_X3_init = some v') : Met l yX3_init wq_X3_init ({ frames := 2, cells := 2, slots := 515, locals := 40 } : Room) (PR D ca zz [.ref a0] sz [(a0, .inr (3, [.null, .int 0, .int 0, .int 0, .int 0, .int 0, .int 0]))]) (QN D ca (fun q => [(a0, .inr (3, [.ref (q 1), .int v'.2.1, .int v'.2.2.1, .int v'.2.2.2.1, .int v'.2.2.2.2.1, .int v'.2.2.2.2.2.1, .int v'.2.2.2.2.2.2])), ((q 1), .inr (4, [.ref (q 2), .int v'.1.2.1, .int v'.1.2.2])), ((q 2), .inl (ca 0, 512, .inl v'.1.1))]) (va_A [(a0, .inr (3, [.null, .int 0, .int 0, .int 0, .int 0, .int 0, .int 0]))] sz)) 2 515 (va_A [(a0, .inr (3, [.null, .int 0, .int 0, .int 0, .int 0, .int 0, .int 0]))] sz) := by
  refine en (y := yX3_init) (wsm := wq_X3_init) (av := [.ref a0]) (cc := cX3_init) (maxL := 1) (ret := none) (Qf := fun A => QN D ca (fun q => [(a0, .inr (3, [.ref (q 1), .int v'.2.1, .int v'.2.2.1, .int v'.2.2.2.1, .int v'.2.2.2.2.1, .int v'.2.2.2.2.2.1, .int v'.2.2.2.2.2.2])), ((q 1), .inr (4, [.ref (q 2), .int v'.1.2.1, .int v'.1.2.2])), ((q 2), .inl (ca 0, 512, .inl v'.1.1))]) A) (by decide) rfl (Nat.le_of_ble_eq_true rfl) ?_
  intro p e s m args below meth c A Q ls hx hb hr hml hown hts hlocks hnm hA hN hZ hK hQ hP hD hS hl
  have w0 := hts _ (List.mem_cons_of_mem _ gw_1_158)
  have w1 := hts _ (List.mem_cons_of_mem _ gw_1_32)
  have w2 := hts _ (List.mem_cons_of_mem _ gw_1_33)
  have w3 := hts _ (List.mem_cons_of_mem _ gw_1_159)
  have w4 := hts _ (List.mem_cons_of_mem _ gw_1_160)
  have w5 := hts _ (List.mem_cons_of_mem _ gw_1_8)
  have w6 := hts _ (List.mem_cons_of_mem _ gw_1_162)
  have w7 := hts _ (List.mem_cons_of_mem _ gw_1_179)
  have w8 := hts _ (List.mem_cons_of_mem _ gw_1_182)
  have w9 := hts _ (List.mem_cons_of_mem _ gw_1_183)
  have w10 := hts _ (List.mem_cons_of_mem _ gw_1_185)
  have w11 := hts _ (List.mem_cons_of_mem _ gw_1_187)
  have w12 := hts _ (List.mem_cons_of_mem _ gw_1_189)
  have w13 := hts _ (List.mem_cons_of_mem _ gw_1_191)
  have i3 : ∀ w ∈ u_ws RX3 TX3 7, w ∈ wq_X3_init := fun w h => List.mem_cons_of_mem _ (inX3 w h)
  have i4 : ∀ w ∈ u_ws RX4 TX4 3, w ∈ wq_X3_init := fun w h => List.mem_cons_of_mem _ (inX4 w h)
  unfold f_X3_init at hf
  refine lv_aload_n hx hb dX3_init_0 rfl (lv_at hl 0 rfl) ?_
  refine W.objInit hx hb hown w0 w1 w2 rfl (by rw [hml]; exact hl.1) rfl dX3_init_1 (Nat.le_of_ble_eq_true rfl) (Nat.le_of_ble_eq_true rfl) ?_
  refine lv_aload_n hx hb dX3_init_4 rfl (lv_at hl 0 rfl) ?_
  refine va_new (ci := 4) (fs := [.null, .int 0, .int 0]) (C := RX4) (T := TX4) (N := 3) hx hb hts i4 tyX4 tyX4_ok hown w3 w4 w5 hK hP hD hS hA rfl (fun j hj => by rcases (show j = 0 ∨ j = 1 ∨ j = 2 by omega) with rfl | rfl | rfl <;> rfl) (Nat.le_of_ble_eq_true rfl) (Nat.le_of_ble_eq_true rfl) dX3_init_5 (fun q_1 H hP hD hS => ?_)
  have hP : va_P D vwCl [(a0, .inr (3, [.null, .int (0 : Int32), .int (0 : Int32), .int (0 : Int32), .int (0 : Int32), .int (0 : Int32), .int (0 : Int32)])), (q_1, .inr (4, [.null, .int (0 : Int32), .int (0 : Int32)]))] H := hP
  have hD : va_D A [(a0, .inr (3, [.null, .int (0 : Int32), .int (0 : Int32), .int (0 : Int32), .int (0 : Int32), .int (0 : Int32), .int (0 : Int32)])), (q_1, .inr (4, [.null, .int (0 : Int32), .int (0 : Int32)]))] := hD
  refine lv_dup hx hb dX3_init_8 rfl ?_
  obtain ⟨u_2, hc3, hf⟩ := bnd1_el hf
  refine xInN (wr := [(a0, .inr (3, [.null, .int (0 : Int32), .int (0 : Int32), .int (0 : Int32), .int (0 : Int32), .int (0 : Int32), .int (0 : Int32)]))]) ⟨hx, hb, hml, hown, hts⟩ (c_X4_init l D ca zz q_1 _ u_2 hc3) ⟨va_cnB 0 hts (gI gw_1_163) rfl rfl rfl (hN.get 54 rfl) w5 (by decide +kernel) ⟨(Nat.le_of_ble_eq_true rfl), (Nat.le_of_ble_eq_true rfl)⟩, rfl, w6⟩ hK hP hN hZ hA hD hS 1 rfl [0] rfl rfl (by decide) hl.1 rfl (Nat.le_of_ble_eq_true rfl) dX3_init_9 ⟨(Nat.le_of_ble_eq_true rfl), (Nat.le_of_ble_eq_true rfl)⟩ (fun q_3 H locs hP hD hS => ?_)
  have hP : va_P D vwCl [(a0, .inr (3, [.null, .int (0 : Int32), .int (0 : Int32), .int (0 : Int32), .int (0 : Int32), .int (0 : Int32), .int (0 : Int32)])), (q_1, .inr (4, [.ref (q_3 1), .int u_2.2.1, .int u_2.2.2])), ((q_3 1), .inl (ca 0, 512, .inl u_2.1))] H := hP
  have hD : va_D A [(a0, .inr (3, [.null, .int (0 : Int32), .int (0 : Int32), .int (0 : Int32), .int (0 : Int32), .int (0 : Int32), .int (0 : Int32)])), (q_1, .inr (4, [.ref (q_3 1), .int u_2.2.1, .int u_2.2.2])), ((q_3 1), .inl (ca 0, 512, .inl u_2.1))] := hD
  refine xputF (C := RX3) (T := TX3) (N := 7) (ty := tyX3 0) (wx := [(a0, .inr (3, [.ref q_1, .int (0 : Int32), .int (0 : Int32), .int (0 : Int32), .int (0 : Int32), .int (0 : Int32), .int (0 : Int32)])), (q_1, .inr (4, [.ref (q_3 1), .int u_2.2.1, .int u_2.2.2])), ((q_3 1), .inl (ca 0, 512, .inl u_2.1))]) hx hb hts i3 tyX3 tyX3_ok nmX3 hown hK hP hD hS 0 rfl rfl 0 (Nat.le_of_ble_eq_true rfl) w7 (fun _ h9 => h9) rfl hnm rfl rfl rfl rfl (Nat.le_of_ble_eq_true rfl) dX3_init_12 rfl (fun H locs hP hD hS => ?_)
  refine lv_aload_n hx hb dX3_init_15 rfl (lv_at hl 0 rfl) ?_
  refine lv_iconst (v := 0) hx hb dX3_init_16 rfl ?_
  refine xput (C := RX3) (T := TX3) (N := 7) (ty := tyX3 1) (wx := [(a0, .inr (3, [.ref q_1, .int (0 : Int32), .int (0 : Int32), .int (0 : Int32), .int (0 : Int32), .int (0 : Int32), .int (0 : Int32)])), (q_1, .inr (4, [.ref (q_3 1), .int u_2.2.1, .int u_2.2.2])), ((q_3 1), .inl (ca 0, 512, .inl u_2.1))]) hx hb hts i3 tyX3 tyX3_ok nmX3 hown hK hP hD hS 0 rfl rfl 1 (Nat.le_of_ble_eq_true rfl) w8 (fun _ h9 => h9) rfl rfl rfl rfl (Nat.le_of_ble_eq_true rfl) dX3_init_17 rfl (fun H locs hP hD hS => ?_)
  refine lv_aload_n hx hb dX3_init_20 rfl (lv_at hl 0 rfl) ?_
  refine lv_iconst (v := 0) hx hb dX3_init_21 rfl ?_
  refine xput (C := RX3) (T := TX3) (N := 7) (ty := tyX3 2) (wx := [(a0, .inr (3, [.ref q_1, .int (0 : Int32), .int (0 : Int32), .int (0 : Int32), .int (0 : Int32), .int (0 : Int32), .int (0 : Int32)])), (q_1, .inr (4, [.ref (q_3 1), .int u_2.2.1, .int u_2.2.2])), ((q_3 1), .inl (ca 0, 512, .inl u_2.1))]) hx hb hts i3 tyX3 tyX3_ok nmX3 hown hK hP hD hS 0 rfl rfl 2 (Nat.le_of_ble_eq_true rfl) w9 (fun _ h9 => h9) rfl rfl rfl rfl (Nat.le_of_ble_eq_true rfl) dX3_init_22 rfl (fun H locs hP hD hS => ?_)
  refine lv_aload_n hx hb dX3_init_25 rfl (lv_at hl 0 rfl) ?_
  refine lv_iconst (v := 0) hx hb dX3_init_26 rfl ?_
  refine xput (C := RX3) (T := TX3) (N := 7) (ty := tyX3 3) (wx := [(a0, .inr (3, [.ref q_1, .int (0 : Int32), .int (0 : Int32), .int (0 : Int32), .int (0 : Int32), .int (0 : Int32), .int (0 : Int32)])), (q_1, .inr (4, [.ref (q_3 1), .int u_2.2.1, .int u_2.2.2])), ((q_3 1), .inl (ca 0, 512, .inl u_2.1))]) hx hb hts i3 tyX3 tyX3_ok nmX3 hown hK hP hD hS 0 rfl rfl 3 (Nat.le_of_ble_eq_true rfl) w10 (fun _ h9 => h9) rfl rfl rfl rfl (Nat.le_of_ble_eq_true rfl) dX3_init_27 rfl (fun H locs hP hD hS => ?_)
  refine lv_aload_n hx hb dX3_init_30 rfl (lv_at hl 0 rfl) ?_
  refine lv_iconst (v := 0) hx hb dX3_init_31 rfl ?_
  refine xput (C := RX3) (T := TX3) (N := 7) (ty := tyX3 4) (wx := [(a0, .inr (3, [.ref q_1, .int (0 : Int32), .int (0 : Int32), .int (0 : Int32), .int (0 : Int32), .int (0 : Int32), .int (0 : Int32)])), (q_1, .inr (4, [.ref (q_3 1), .int u_2.2.1, .int u_2.2.2])), ((q_3 1), .inl (ca 0, 512, .inl u_2.1))]) hx hb hts i3 tyX3 tyX3_ok nmX3 hown hK hP hD hS 0 rfl rfl 4 (Nat.le_of_ble_eq_true rfl) w11 (fun _ h9 => h9) rfl rfl rfl rfl (Nat.le_of_ble_eq_true rfl) dX3_init_32 rfl (fun H locs hP hD hS => ?_)
  refine lv_aload_n hx hb dX3_init_35 rfl (lv_at hl 0 rfl) ?_
  refine lv_iconst (v := 0) hx hb dX3_init_36 rfl ?_
  refine xput (C := RX3) (T := TX3) (N := 7) (ty := tyX3 5) (wx := [(a0, .inr (3, [.ref q_1, .int (0 : Int32), .int (0 : Int32), .int (0 : Int32), .int (0 : Int32), .int (0 : Int32), .int (0 : Int32)])), (q_1, .inr (4, [.ref (q_3 1), .int u_2.2.1, .int u_2.2.2])), ((q_3 1), .inl (ca 0, 512, .inl u_2.1))]) hx hb hts i3 tyX3 tyX3_ok nmX3 hown hK hP hD hS 0 rfl rfl 5 (Nat.le_of_ble_eq_true rfl) w12 (fun _ h9 => h9) rfl rfl rfl rfl (Nat.le_of_ble_eq_true rfl) dX3_init_37 rfl (fun H locs hP hD hS => ?_)
  refine lv_aload_n hx hb dX3_init_40 rfl (lv_at hl 0 rfl) ?_
  refine lv_iconst (v := 0) hx hb dX3_init_41 rfl ?_
  refine xput (C := RX3) (T := TX3) (N := 7) (ty := tyX3 6) (wx := [(a0, .inr (3, [.ref q_1, .int (0 : Int32), .int (0 : Int32), .int (0 : Int32), .int (0 : Int32), .int (0 : Int32), .int (0 : Int32)])), (q_1, .inr (4, [.ref (q_3 1), .int u_2.2.1, .int u_2.2.2])), ((q_3 1), .inl (ca 0, 512, .inl u_2.1))]) hx hb hts i3 tyX3 tyX3_ok nmX3 hown hK hP hD hS 0 rfl rfl 6 (Nat.le_of_ble_eq_true rfl) w13 (fun _ h9 => h9) rfl rfl rfl rfl (Nat.le_of_ble_eq_true rfl) dX3_init_42 rfl (fun H locs hP hD hS => ?_)
  have hP := hP.sub (ws' := [(a0, .inr (3, [.ref q_1, .int (0 : Int32), .int (0 : Int32), .int (0 : Int32), .int (0 : Int32), .int (0 : Int32), .int (0 : Int32)])), (q_1, .inr (4, [.ref (q_3 1), .int u_2.2.1, .int u_2.2.2])), ((q_3 1), .inl (ca 0, 512, .inl u_2.1))]) [0, 1, 2] rfl
  have hD := hD.sub (ws' := [(a0, .inr (3, [.ref q_1, .int (0 : Int32), .int (0 : Int32), .int (0 : Int32), .int (0 : Int32), .int (0 : Int32), .int (0 : Int32)])), (q_1, .inr (4, [.ref (q_3 1), .int u_2.2.1, .int u_2.2.2])), ((q_3 1), .inl (ca 0, 512, .inl u_2.1))]) [0, 1, 2] (by decide) rfl
  cases hf
  exact rt_N (fun k => match k with | 1 => q_1 | 2 => (q_3 1) | _ => 0) hx hb hr hlocks hK hP hD hS hQ rfl (Nat.le_of_ble_eq_true rfl) (Nat.le_of_ble_eq_true rfl) dX3_init_45
abbrev wq_X5_init : List Cond := Cond.code yX5_init cX5_init 1 none :: GL
set_option maxHeartbeats 4000000 in
set_option maxRecDepth 100000 in
theorem c_X5_init (l : Launch) (D : va_G) (ca : Nat → ClassId) (zz : Nat → Nat) (a0 : Nat) (sz : Nat) (v' : V5) (hf : f_X5_init = some v') : Met l yX5_init wq_X5_init ({ frames := 2, cells := 6, slots := 29, locals := 42 } : Room) (PR D ca zz [.ref a0] sz [(a0, .inr (5, [.null, .null, .int 0, .int 0, .int 0, .int 0, .int 0, .int 0]))]) (QN D ca (fun q => [(a0, .inr (5, [.ref (q 1), .ref (q 6), .int v'.2.2.1, .int v'.2.2.2.1, .int v'.2.2.2.2.1, .int v'.2.2.2.2.2.1, .int v'.2.2.2.2.2.2.1, .int v'.2.2.2.2.2.2.2])), ((q 1), .inr (7, [.ref (q 2), .ref (q 3), .ref (q 4), .ref (q 5), .int v'.1.2.2.2.2])), ((q 2), .inl (ca 0, 9, .inl v'.1.1)), ((q 3), .inl (ca 0, 4, .inl v'.1.2.1)), ((q 4), .inl (ca 0, 4, .inl v'.1.2.2.1)), ((q 5), .inl (ca 0, 4, .inl v'.1.2.2.2.1)), ((q 6), .inl (ca 0, 3, .inl v'.2.1))]) (va_A [(a0, .inr (5, [.null, .null, .int 0, .int 0, .int 0, .int 0, .int 0, .int 0]))] sz)) 6 29 (va_A [(a0, .inr (5, [.null, .null, .int 0, .int 0, .int 0, .int 0, .int 0, .int 0]))] sz) := by
  refine en (y := yX5_init) (wsm := wq_X5_init) (av := [.ref a0]) (cc := cX5_init) (maxL := 1) (ret := none) (Qf := fun A => QN D ca (fun q => [(a0, .inr (5, [.ref (q 1), .ref (q 6), .int v'.2.2.1, .int v'.2.2.2.1, .int v'.2.2.2.2.1, .int v'.2.2.2.2.2.1, .int v'.2.2.2.2.2.2.1, .int v'.2.2.2.2.2.2.2])), ((q 1), .inr (7, [.ref (q 2), .ref (q 3), .ref (q 4), .ref (q 5), .int v'.1.2.2.2.2])), ((q 2), .inl (ca 0, 9, .inl v'.1.1)), ((q 3), .inl (ca 0, 4, .inl v'.1.2.1)), ((q 4), .inl (ca 0, 4, .inl v'.1.2.2.1)), ((q 5), .inl (ca 0, 4, .inl v'.1.2.2.2.1)), ((q 6), .inl (ca 0, 3, .inl v'.2.1))]) A) (by decide) rfl (Nat.le_of_ble_eq_true rfl) ?_
  intro p e s m args below meth c A Q ls hx hb hr hml hown hts hlocks hnm hA hN hZ hK hQ hP hD hS hl
  have w0 := hts _ (List.mem_cons_of_mem _ gw_2_128)
  have w1 := hts _ (List.mem_cons_of_mem _ gw_1_32)
  have w2 := hts _ (List.mem_cons_of_mem _ gw_1_33)
  have w3 := hts _ (List.mem_cons_of_mem _ gw_2_129)
  have w4 := hts _ (List.mem_cons_of_mem _ gw_1_41)
  have w5 := hts _ (List.mem_cons_of_mem _ gw_1_3)
  have w6 := hts _ (List.mem_cons_of_mem _ gw_1_43)
  have w7 := hts _ (List.mem_cons_of_mem _ gw_2_131)
  have w8 := hts _ (List.mem_cons_of_mem _ gw_1_74)
  have w9 := hts _ (List.mem_cons_of_mem _ gw_2_133)
  have w10 := hts _ (List.mem_cons_of_mem _ gw_2_134)
  have w11 := hts _ (List.mem_cons_of_mem _ gw_2_135)
  have w12 := hts _ (List.mem_cons_of_mem _ gw_2_136)
  have w13 := hts _ (List.mem_cons_of_mem _ gw_2_137)
  have w14 := hts _ (List.mem_cons_of_mem _ gw_2_138)
  have w15 := hts _ (List.mem_cons_of_mem _ gw_2_140)
  have i5 : ∀ w ∈ u_ws RX5 TX5 8, w ∈ wq_X5_init := fun w h => List.mem_cons_of_mem _ (inX5 w h)
  have i7 : ∀ w ∈ u_ws RX7 TX7 5, w ∈ wq_X5_init := fun w h => List.mem_cons_of_mem _ (inX7 w h)
  unfold f_X5_init at hf
  refine lv_aload_n hx hb dX5_init_0 rfl (lv_at hl 0 rfl) ?_
  refine W.objInit hx hb hown w0 w1 w2 rfl (by rw [hml]; exact hl.1) rfl dX5_init_1 (Nat.le_of_ble_eq_true rfl) (Nat.le_of_ble_eq_true rfl) ?_
  refine lv_aload_n hx hb dX5_init_4 rfl (lv_at hl 0 rfl) ?_
  refine va_new (ci := 7) (fs := [.null, .null, .null, .null, .int 0]) (C := RX7) (T := TX7) (N := 5) hx hb hts i7 tyX7 tyX7_ok hown w3 w4 w5 hK hP hD hS hA rfl (fun j hj => by rcases (show j = 0 ∨ j = 1 ∨ j = 2 ∨ j = 3 ∨ j = 4 by omega) with rfl | rfl | rfl | rfl | rfl <;> rfl) (Nat.le_of_ble_eq_true rfl) (Nat.le_of_ble_eq_true rfl) dX5_init_5 (fun q_1 H hP hD hS => ?_)
  have hP : va_P D vwCl [(a0, .inr (5, [.null, .null, .int (0 : Int32), .int (0 : Int32), .int (0 : Int32), .int (0 : Int32), .int (0 : Int32), .int (0 : Int32)])), (q_1, .inr (7, [.null, .null, .null, .null, .int (0 : Int32)]))] H := hP
  have hD : va_D A [(a0, .inr (5, [.null, .null, .int (0 : Int32), .int (0 : Int32), .int (0 : Int32), .int (0 : Int32), .int (0 : Int32), .int (0 : Int32)])), (q_1, .inr (7, [.null, .null, .null, .null, .int (0 : Int32)]))] := hD
  refine lv_dup hx hb dX5_init_8 rfl ?_
  obtain ⟨u_2, hc3, hf⟩ := bnd1_el hf
  refine xInN (wr := [(a0, .inr (5, [.null, .null, .int (0 : Int32), .int (0 : Int32), .int (0 : Int32), .int (0 : Int32), .int (0 : Int32), .int (0 : Int32)]))]) ⟨hx, hb, hml, hown, hts⟩ (c_X7_init l D ca zz q_1 _ u_2 hc3) ⟨va_cnB 0 hts (gI gw_1_44) rfl rfl rfl (hN.get 59 rfl) w5 (by decide +kernel) ⟨(Nat.le_of_ble_eq_true rfl), (Nat.le_of_ble_eq_true rfl)⟩, rfl, w6⟩ hK hP hN hZ hA hD hS 1 rfl [0] rfl rfl (by decide) hl.1 rfl (Nat.le_of_ble_eq_true rfl) dX5_init_9 ⟨(Nat.le_of_ble_eq_true rfl), (Nat.le_of_ble_eq_true rfl)⟩ (fun q_3 H locs hP hD hS => ?_)
  have hP : va_P D vwCl [(a0, .inr (5, [.null, .null, .int (0 : Int32), .int (0 : Int32), .int (0 : Int32), .int (0 : Int32), .int (0 : Int32), .int (0 : Int32)])), (q_1, .inr (7, [.ref (q_3 1), .ref (q_3 2), .ref (q_3 3), .ref (q_3 4), .int u_2.2.2.2.2])), ((q_3 1), .inl (ca 0, 9, .inl u_2.1)), ((q_3 2), .inl (ca 0, 4, .inl u_2.2.1)), ((q_3 3), .inl (ca 0, 4, .inl u_2.2.2.1)), ((q_3 4), .inl (ca 0, 4, .inl u_2.2.2.2.1))] H := hP
  have hD : va_D A [(a0, .inr (5, [.null, .null, .int (0 : Int32), .int (0 : Int32), .int (0 : Int32), .int (0 : Int32), .int (0 : Int32), .int (0 : Int32)])), (q_1, .inr (7, [.ref (q_3 1), .ref (q_3 2), .ref (q_3 3), .ref (q_3 4), .int u_2.2.2.2.2])), ((q_3 1), .inl (ca 0, 9, .inl u_2.1)), ((q_3 2), .inl (ca 0, 4, .inl u_2.2.1)), ((q_3 3), .inl (ca 0, 4, .inl u_2.2.2.1)), ((q_3 4), .inl (ca 0, 4, .inl u_2.2.2.2.1))] := hD
  refine xputF (C := RX5) (T := TX5) (N := 8) (ty := tyX5 0) (wx := [(a0, .inr (5, [.ref q_1, .null, .int (0 : Int32), .int (0 : Int32), .int (0 : Int32), .int (0 : Int32), .int (0 : Int32), .int (0 : Int32)])), (q_1, .inr (7, [.ref (q_3 1), .ref (q_3 2), .ref (q_3 3), .ref (q_3 4), .int u_2.2.2.2.2])), ((q_3 1), .inl (ca 0, 9, .inl u_2.1)), ((q_3 2), .inl (ca 0, 4, .inl u_2.2.1)), ((q_3 3), .inl (ca 0, 4, .inl u_2.2.2.1)), ((q_3 4), .inl (ca 0, 4, .inl u_2.2.2.2.1))]) hx hb hts i5 tyX5 tyX5_ok nmX5 hown hK hP hD hS 0 rfl rfl 0 (Nat.le_of_ble_eq_true rfl) w7 (fun _ h9 => h9) rfl hnm rfl rfl rfl rfl (Nat.le_of_ble_eq_true rfl) dX5_init_12 rfl (fun H locs hP hD hS => ?_)
  refine lv_aload_n hx hb dX5_init_15 rfl (lv_at hl 0 rfl) ?_
  refine lv_iconst (v := 3) hx hb dX5_init_16 rfl ?_
  refine xnewa 0 (atype := .int) (ty := .int) (N' := 3) (a0 := (3, .inl (fun _ => 0))) hx hb w8 rfl hK hP hD hS hA (fun _ => rfl) (by decide) rfl (Nat.le_of_ble_eq_true rfl) rfl (fun _ h => h) (Nat.le_of_ble_eq_true rfl) (Nat.le_of_ble_eq_true rfl) dX5_init_17 (fun q_4 H hP hD hS => ?_)
  have hP : va_P D vwCl [(a0, .inr (5, [.ref q_1, .null, .int (0 : Int32), .int (0 : Int32), .int (0 : Int32), .int (0 : Int32), .int (0 : Int32), .int (0 : Int32)])), (q_1, .inr (7, [.ref (q_3 1), .ref (q_3 2), .ref (q_3 3), .ref (q_3 4), .int u_2.2.2.2.2])), ((q_3 1), .inl (ca 0, 9, .inl u_2.1)), ((q_3 2), .inl (ca 0, 4, .inl u_2.2.1)), ((q_3 3), .inl (ca 0, 4, .inl u_2.2.2.1)), ((q_3 4), .inl (ca 0, 4, .inl u_2.2.2.2.1)), (q_4, .inl (ca 0, 3, .inl ((fun _ => 0))))] H := hP
  have hD : va_D A [(a0, .inr (5, [.ref q_1, .null, .int (0 : Int32), .int (0 : Int32), .int (0 : Int32), .int (0 : Int32), .int (0 : Int32), .int (0 : Int32)])), (q_1, .inr (7, [.ref (q_3 1), .ref (q_3 2), .ref (q_3 3), .ref (q_3 4), .int u_2.2.2.2.2])), ((q_3 1), .inl (ca 0, 9, .inl u_2.1)), ((q_3 2), .inl (ca 0, 4, .inl u_2.2.1)), ((q_3 3), .inl (ca 0, 4, .inl u_2.2.2.1)), ((q_3 4), .inl (ca 0, 4, .inl u_2.2.2.2.1)), (q_4, .inl (ca 0, 3, .inl ((fun _ => 0))))] := hD
  refine xputF (C := RX5) (T := TX5) (N := 8) (ty := tyX5 1) (wx := [(a0, .inr (5, [.ref q_1, .ref q_4, .int (0 : Int32), .int (0 : Int32), .int (0 : Int32), .int (0 : Int32), .int (0 : Int32), .int (0 : Int32)])), (q_1, .inr (7, [.ref (q_3 1), .ref (q_3 2), .ref (q_3 3), .ref (q_3 4), .int u_2.2.2.2.2])), ((q_3 1), .inl (ca 0, 9, .inl u_2.1)), ((q_3 2), .inl (ca 0, 4, .inl u_2.2.1)), ((q_3 3), .inl (ca 0, 4, .inl u_2.2.2.1)), ((q_3 4), .inl (ca 0, 4, .inl u_2.2.2.2.1)), (q_4, .inl (ca 0, 3, .inl ((fun _ => 0))))]) hx hb hts i5 tyX5 tyX5_ok nmX5 hown hK hP hD hS 0 rfl rfl 1 (Nat.le_of_ble_eq_true rfl) w9 (fun _ h9 => h9) rfl hnm rfl rfl rfl rfl (Nat.le_of_ble_eq_true rfl) dX5_init_19 rfl (fun H locs hP hD hS => ?_)
  refine lv_aload_n hx hb dX5_init_22 rfl (lv_at hl 0 rfl) ?_
  refine lv_iconst (v := 0) hx hb dX5_init_23 rfl ?_
  refine xput (C := RX5) (T := TX5) (N := 8) (ty := tyX5 2) (wx := [(a0, .inr (5, [.ref q_1, .ref q_4, .int (0 : Int32), .int (0 : Int32), .int (0 : Int32), .int (0 : Int32), .int (0 : Int32), .int (0 : Int32)])), (q_1, .inr (7, [.ref (q_3 1), .ref (q_3 2), .ref (q_3 3), .ref (q_3 4), .int u_2.2.2.2.2])), ((q_3 1), .inl (ca 0, 9, .inl u_2.1)), ((q_3 2), .inl (ca 0, 4, .inl u_2.2.1)), ((q_3 3), .inl (ca 0, 4, .inl u_2.2.2.1)), ((q_3 4), .inl (ca 0, 4, .inl u_2.2.2.2.1)), (q_4, .inl (ca 0, 3, .inl ((fun _ => 0))))]) hx hb hts i5 tyX5 tyX5_ok nmX5 hown hK hP hD hS 0 rfl rfl 2 (Nat.le_of_ble_eq_true rfl) w10 (fun _ h9 => h9) rfl rfl rfl rfl (Nat.le_of_ble_eq_true rfl) dX5_init_24 rfl (fun H locs hP hD hS => ?_)
  refine lv_aload_n hx hb dX5_init_27 rfl (lv_at hl 0 rfl) ?_
  refine lv_iconst (v := 0) hx hb dX5_init_28 rfl ?_
  refine xput (C := RX5) (T := TX5) (N := 8) (ty := tyX5 3) (wx := [(a0, .inr (5, [.ref q_1, .ref q_4, .int (0 : Int32), .int (0 : Int32), .int (0 : Int32), .int (0 : Int32), .int (0 : Int32), .int (0 : Int32)])), (q_1, .inr (7, [.ref (q_3 1), .ref (q_3 2), .ref (q_3 3), .ref (q_3 4), .int u_2.2.2.2.2])), ((q_3 1), .inl (ca 0, 9, .inl u_2.1)), ((q_3 2), .inl (ca 0, 4, .inl u_2.2.1)), ((q_3 3), .inl (ca 0, 4, .inl u_2.2.2.1)), ((q_3 4), .inl (ca 0, 4, .inl u_2.2.2.2.1)), (q_4, .inl (ca 0, 3, .inl ((fun _ => 0))))]) hx hb hts i5 tyX5 tyX5_ok nmX5 hown hK hP hD hS 0 rfl rfl 3 (Nat.le_of_ble_eq_true rfl) w11 (fun _ h9 => h9) rfl rfl rfl rfl (Nat.le_of_ble_eq_true rfl) dX5_init_29 rfl (fun H locs hP hD hS => ?_)
  refine lv_aload_n hx hb dX5_init_32 rfl (lv_at hl 0 rfl) ?_
  refine lv_iconst (v := 0) hx hb dX5_init_33 rfl ?_
  refine xput (C := RX5) (T := TX5) (N := 8) (ty := tyX5 4) (wx := [(a0, .inr (5, [.ref q_1, .ref q_4, .int (0 : Int32), .int (0 : Int32), .int (0 : Int32), .int (0 : Int32), .int (0 : Int32), .int (0 : Int32)])), (q_1, .inr (7, [.ref (q_3 1), .ref (q_3 2), .ref (q_3 3), .ref (q_3 4), .int u_2.2.2.2.2])), ((q_3 1), .inl (ca 0, 9, .inl u_2.1)), ((q_3 2), .inl (ca 0, 4, .inl u_2.2.1)), ((q_3 3), .inl (ca 0, 4, .inl u_2.2.2.1)), ((q_3 4), .inl (ca 0, 4, .inl u_2.2.2.2.1)), (q_4, .inl (ca 0, 3, .inl ((fun _ => 0))))]) hx hb hts i5 tyX5 tyX5_ok nmX5 hown hK hP hD hS 0 rfl rfl 4 (Nat.le_of_ble_eq_true rfl) w12 (fun _ h9 => h9) rfl rfl rfl rfl (Nat.le_of_ble_eq_true rfl) dX5_init_34 rfl (fun H locs hP hD hS => ?_)
  refine lv_aload_n hx hb dX5_init_37 rfl (lv_at hl 0 rfl) ?_
  refine lv_iconst (v := 0) hx hb dX5_init_38 rfl ?_
  refine xput (C := RX5) (T := TX5) (N := 8) (ty := tyX5 5) (wx := [(a0, .inr (5, [.ref q_1, .ref q_4, .int (0 : Int32), .int (0 : Int32), .int (0 : Int32), .int (0 : Int32), .int (0 : Int32), .int (0 : Int32)])), (q_1, .inr (7, [.ref (q_3 1), .ref (q_3 2), .ref (q_3 3), .ref (q_3 4), .int u_2.2.2.2.2])), ((q_3 1), .inl (ca 0, 9, .inl u_2.1)), ((q_3 2), .inl (ca 0, 4, .inl u_2.2.1)), ((q_3 3), .inl (ca 0, 4, .inl u_2.2.2.1)), ((q_3 4), .inl (ca 0, 4, .inl u_2.2.2.2.1)), (q_4, .inl (ca 0, 3, .inl ((fun _ => 0))))]) hx hb hts i5 tyX5 tyX5_ok nmX5 hown hK hP hD hS 0 rfl rfl 5 (Nat.le_of_ble_eq_true rfl) w13 (fun _ h9 => h9) rfl rfl rfl rfl (Nat.le_of_ble_eq_true rfl) dX5_init_39 rfl (fun H locs hP hD hS => ?_)
  refine lv_aload_n hx hb dX5_init_42 rfl (lv_at hl 0 rfl) ?_
  refine lv_iconst (v := 0) hx hb dX5_init_43 rfl ?_
  refine xput (C := RX5) (T := TX5) (N := 8) (ty := tyX5 6) (wx := [(a0, .inr (5, [.ref q_1, .ref q_4, .int (0 : Int32), .int (0 : Int32), .int (0 : Int32), .int (0 : Int32), .int (0 : Int32), .int (0 : Int32)])), (q_1, .inr (7, [.ref (q_3 1), .ref (q_3 2), .ref (q_3 3), .ref (q_3 4), .int u_2.2.2.2.2])), ((q_3 1), .inl (ca 0, 9, .inl u_2.1)), ((q_3 2), .inl (ca 0, 4, .inl u_2.2.1)), ((q_3 3), .inl (ca 0, 4, .inl u_2.2.2.1)), ((q_3 4), .inl (ca 0, 4, .inl u_2.2.2.2.1)), (q_4, .inl (ca 0, 3, .inl ((fun _ => 0))))]) hx hb hts i5 tyX5 tyX5_ok nmX5 hown hK hP hD hS 0 rfl rfl 6 (Nat.le_of_ble_eq_true rfl) w14 (fun _ h9 => h9) rfl rfl rfl rfl (Nat.le_of_ble_eq_true rfl) dX5_init_44 rfl (fun H locs hP hD hS => ?_)
  refine lv_aload_n hx hb dX5_init_47 rfl (lv_at hl 0 rfl) ?_
  refine lv_iconst (v := -1) hx hb dX5_init_48 rfl ?_
  refine xput (C := RX5) (T := TX5) (N := 8) (ty := tyX5 7) (wx := [(a0, .inr (5, [.ref q_1, .ref q_4, .int (0 : Int32), .int (0 : Int32), .int (0 : Int32), .int (0 : Int32), .int (0 : Int32), .int (-1 : Int32)])), (q_1, .inr (7, [.ref (q_3 1), .ref (q_3 2), .ref (q_3 3), .ref (q_3 4), .int u_2.2.2.2.2])), ((q_3 1), .inl (ca 0, 9, .inl u_2.1)), ((q_3 2), .inl (ca 0, 4, .inl u_2.2.1)), ((q_3 3), .inl (ca 0, 4, .inl u_2.2.2.1)), ((q_3 4), .inl (ca 0, 4, .inl u_2.2.2.2.1)), (q_4, .inl (ca 0, 3, .inl ((fun _ => 0))))]) hx hb hts i5 tyX5 tyX5_ok nmX5 hown hK hP hD hS 0 rfl rfl 7 (Nat.le_of_ble_eq_true rfl) w15 (fun _ h9 => h9) rfl rfl rfl rfl (Nat.le_of_ble_eq_true rfl) dX5_init_49 rfl (fun H locs hP hD hS => ?_)
  have hP := hP.sub (ws' := [(a0, .inr (5, [.ref q_1, .ref q_4, .int (0 : Int32), .int (0 : Int32), .int (0 : Int32), .int (0 : Int32), .int (0 : Int32), .int (-1 : Int32)])), (q_1, .inr (7, [.ref (q_3 1), .ref (q_3 2), .ref (q_3 3), .ref (q_3 4), .int u_2.2.2.2.2])), ((q_3 1), .inl (ca 0, 9, .inl u_2.1)), ((q_3 2), .inl (ca 0, 4, .inl u_2.2.1)), ((q_3 3), .inl (ca 0, 4, .inl u_2.2.2.1)), ((q_3 4), .inl (ca 0, 4, .inl u_2.2.2.2.1)), (q_4, .inl (ca 0, 3, .inl ((fun _ => 0))))]) [0, 1, 2, 3, 4, 5, 6] rfl
  have hD := hD.sub (ws' := [(a0, .inr (5, [.ref q_1, .ref q_4, .int (0 : Int32), .int (0 : Int32), .int (0 : Int32), .int (0 : Int32), .int (0 : Int32), .int (-1 : Int32)])), (q_1, .inr (7, [.ref (q_3 1), .ref (q_3 2), .ref (q_3 3), .ref (q_3 4), .int u_2.2.2.2.2])), ((q_3 1), .inl (ca 0, 9, .inl u_2.1)), ((q_3 2), .inl (ca 0, 4, .inl u_2.2.1)), ((q_3 3), .inl (ca 0, 4, .inl u_2.2.2.1)), ((q_3 4), .inl (ca 0, 4, .inl u_2.2.2.2.1)), (q_4, .inl (ca 0, 3, .inl ((fun _ => 0))))]) [0, 1, 2, 3, 4, 5, 6] (by decide) rfl
  cases hf
  exact rt_N (fun k => match k with | 1 => q_1 | 2 => (q_3 1) | 3 => (q_3 2) | 4 => (q_3 3) | 5 => (q_3 4) | 6 => q_4 | _ => 0) hx hb hr hlocks hK hP hD hS hQ rfl (Nat.le_of_ble_eq_true rfl) (Nat.le_of_ble_eq_true rfl) dX5_init_52
abbrev wq_X7_valueOf : List Cond := Cond.code yX7_valueOf cX7_valueOf 2 (some .int) :: GL
set_option maxHeartbeats 4000000 in
set_option maxRecDepth 100000 in
theorem c_X7_valueOf (l : Launch) (D : va_G) (ca : Nat → ClassId) (zz : Nat → Nat) (a0 a1 a2 a3 a4 : Nat) (sz : Nat) (v0 : V7) (p1 : Int32) (r : Int32) (hf : f_X7_valueOf v0 p1 = some r) : Met l yX7_valueOf wq_X7_valueOf ({ frames := 0, cells := 0, slots := 0, locals := 0 } : Room) (PR D ca zz [.ref a0, .int p1] sz [(a0, .inr (7, [.ref a1, .ref a2, .ref a3, .ref a4, .int v0.2.2.2.2])), (a1, .inl (ca 0, 9, .inl v0.1))]) (QI D ca r [(a0, .inr (7, [.ref a1, .ref a2, .ref a3, .ref a4, .int v0.2.2.2.2])), (a1, .inl (ca 0, 9, .inl v0.1))] (va_A [(a0, .inr (7, [.ref a1, .ref a2, .ref a3, .ref a4, .int v0.2.2.2.2])), (a1, .inl (ca 0, 9, .inl v0.1))] sz)) 0 0 (va_A [(a0, .inr (7, [.ref a1, .ref a2, .ref a3, .ref a4, .int v0.2.2.2.2])), (a1, .inl (ca 0, 9, .inl v0.1))] sz) := by
  refine en (y := yX7_valueOf) (wsm := wq_X7_valueOf) (av := [.ref a0, .int p1]) (cc := cX7_valueOf) (maxL := 2) (ret := (some .int)) (Qf := fun A => (QI D ca r [(a0, .inr (7, [.ref a1, .ref a2, .ref a3, .ref a4, .int v0.2.2.2.2])), (a1, .inl (ca 0, 9, .inl v0.1))] A)) (by decide) rfl (Nat.le_of_ble_eq_true rfl) ?_
  intro p e s m args below meth c A Q ls hx hb hr hml hown hts hlocks hnm hA hN hZ hK hQ hP hD hS hl
  have w0 := hts _ (List.mem_cons_of_mem _ gw_1_55)
  have i7 : ∀ w ∈ u_ws RX7 TX7 5, w ∈ wq_X7_valueOf := fun w h => List.mem_cons_of_mem _ (inX7 w h)
  unfold f_X7_valueOf at hf
  refine lv_iload_n hx hb dX7_valueOf_0 rfl (lv_at hl 1 rfl) ?_
  refine xi_lt (tgt := 13) hx hb dX7_valueOf_1 (by decide) hf (fun hf => ?_) (fun hf => ?_)
  · refine lv_iconst (v := 0) hx hb dX7_valueOf_13 rfl ?_
    refine lv_goto (tgt := 23) hx hb dX7_valueOf_14 (by decide) ?_
    have he := Option.some.inj hf
    have e_r := he
    refine rt_I hx hb hr hlocks hK hP hD hS hQ e_r ?_ dX7_valueOf_23
    rfl
  · refine lv_iload_n hx hb dX7_valueOf_4 rfl (lv_at hl 1 rfl) ?_
    refine lv_aload_n hx hb dX7_valueOf_5 rfl (lv_at hl 0 rfl) ?_
    refine va_get (C := RX7) (T := TX7) (N := 5) hx hb hts i7 hown hK hP 0 rfl rfl 0 (Nat.le_of_ble_eq_true rfl) w0 (fun _ h9 => h9) rfl dX7_valueOf_6 ?_
    refine va_alen hx hb hK hP 1 0 rfl rfl (v := (9 : Int32)) rfl dX7_valueOf_9 ?_
    refine xc_lt (tgt := 17) hx hb dX7_valueOf_10 (by decide) hf (fun hf => ?_) (fun hf => ?_)
    · refine lv_aload_n hx hb dX7_valueOf_17 rfl (lv_at hl 0 rfl) ?_
      refine va_get (C := RX7) (T := TX7) (N := 5) hx hb hts i7 hown hK hP 0 rfl rfl 0 (Nat.le_of_ble_eq_true rfl) w0 (fun _ h9 => h9) rfl dX7_valueOf_18 ?_
      refine lv_iload_n hx hb dX7_valueOf_21 rfl (lv_at hl 1 rfl) ?_
      refine xiald hx hb hK hP 1 rfl hf dX7_valueOf_22 (fun hf => ?_)
      have he := Option.some.inj hf
      have e_r := he
      refine rt_I hx hb hr hlocks hK hP hD hS hQ e_r ?_ dX7_valueOf_23
      rfl
    · refine lv_iconst (v := 0) hx hb dX7_valueOf_13 rfl ?_
      refine lv_goto (tgt := 23) hx hb dX7_valueOf_14 (by decide) ?_
      have he := Option.some.inj hf
      have e_r := he
      refine rt_I hx hb hr hlocks hK hP hD hS hQ e_r ?_ dX7_valueOf_23
      rfl
abbrev wq_X2_leastRepeats : List Cond := Cond.code yX2_leastRepeats cX2_leastRepeats 6 (some .int) :: GL
set_option maxHeartbeats 4000000 in
set_option maxRecDepth 100000 in
theorem c_X2_leastRepeats (l : Launch) (D : va_G) (ca : Nat → ClassId) (zz : Nat → Nat) (sz : Nat) (p0 : Int32) (p1 : Int32) (r : Int32) (hf : f_X2_leastRepeats p0 p1 = some r) : Met l yX2_leastRepeats wq_X2_leastRepeats ({ frames := 0, cells := 0, slots := 0, locals := 0 } : Room) (PR D ca zz [.int p0, .int p1] sz []) (QI D ca r [] (va_A [] sz)) 0 0 (va_A [] sz) := by
  refine en (y := yX2_leastRepeats) (wsm := wq_X2_leastRepeats) (av := [.int p0, .int p1]) (cc := cX2_leastRepeats) (maxL := 6) (ret := (some .int)) (Qf := fun A => (QI D ca r [] A)) (by decide) rfl (Nat.le_of_ble_eq_true rfl) ?_
  intro p e s m args below meth c A Q ls hx hb hr hml hown hts hlocks hnm hA hN hZ hK hQ hP hD hS hl
  have bl5 : ∀ (k5 : Int32 → Int32 → Int64 → Int32 → Option (Int32)) (q5 : ∀ (x0 : Int32) (x1 : Int32) (x2 : Int64) (x4 : Int32), k5 x0 x1 x2 x4 = some r → ∀ (H : Heap) (locs : List Loc) (ls : Array Slot), va_P D vwCl [] H → va_D A [] → va_S A s.heap H locs → lv_has ls 6 [(0, .int x0), (1, .int x1), (2, .long x2), (4, .int x4)] → W p l e ({ frames := 0, cells := 0, slots := 0, locals := 0 } : Room) s m args below meth c H locs 0 0 Q (F0 m 5 ls [])) (x0 : Int32) (x1 : Int32) (x2 : Int64) (x4 : Int32), fl_X2_leastRepeats_5 k5 x0 x1 x2 x4 = some r → ∀ (H : Heap) (locs : List Loc) (ls : Array Slot), va_P D vwCl [] H → va_D A [] → va_S A s.heap H locs → lv_has ls 6 [(0, .int x0), (1, .int x1), (2, .long x2), (4, .int x4)] → W p l e ({ frames := 0, cells := 0, slots := 0, locals := 0 } : Room) s m args below meth c H locs 0 0 Q (F0 m 5 ls []) := by
    intro k5 q5 x0 x1 x2 x4 hf H locs ls hP hD hS hl
    unfold fl_X2_leastRepeats_5 at hf
    refine lv_iload hx hb dX2_leastRepeats_5 (lv_at hl 3 rfl) ?_
    refine lv_bipush (v := 16) hx hb dX2_leastRepeats_7 rfl ?_
    refine xc_ge (tgt := 50) hx hb dX2_leastRepeats_9 (by decide) hf (fun hf => ?_) (fun hf => ?_)
    · refine lv_bipush (v := 16) hx hb dX2_leastRepeats_50 rfl ?_
      have he := Option.some.inj hf
      have e_r := he
      refine rt_I hx hb hr hlocks hK hP hD hS hQ e_r ?_ dX2_leastRepeats_52
      rfl
    · refine lv_lload_n hx hb dX2_leastRepeats_12 rfl (lv_at hl 2 rfl) ?_
      refine lv_iload_n hx hb dX2_leastRepeats_13 rfl (lv_at hl 0 rfl) ?_
      refine lv_i2l hx hb dX2_leastRepeats_14 rfl ?_
      refine lv_lmul hx hb dX2_leastRepeats_15 ?_
      refine xnml hf (fun x_1 hf => ?_)
      refine lv_lstore_n (lv' := [(2, .long x_1), (0, .int x0), (1, .int x1), (4, .int x4)]) hx hb dX2_leastRepeats_16 rfl hl (Nat.le_of_ble_eq_true rfl) rfl (fun ls hl => ?_)
      refine lv_iconst (v := 4) hx hb dX2_leastRepeats_17 rfl ?_
      refine lv_iload hx hb dX2_leastRepeats_18 (lv_at hl 3 rfl) ?_
      refine lv_iconst (v := 1) hx hb dX2_leastRepeats_20 rfl ?_
      refine lv_isub hx hb dX2_leastRepeats_21 ?_
      refine lv_imul hx hb dX2_leastRepeats_22 ?_
      refine lv_iload_n hx hb dX2_leastRepeats_23 rfl (lv_at hl 2 rfl) ?_
      refine lv_isub hx hb dX2_leastRepeats_24 ?_
      refine xnm hf (fun x_2 hf => ?_)
      refine lv_istore (lv' := [(5, .int x_2), (2, .long x_1), (0, .int x0), (1, .int x1), (4, .int x4)]) hx hb dX2_leastRepeats_25 hl (Nat.le_of_ble_eq_true rfl) rfl (fun ls hl => ?_)
      refine lv_iload hx hb dX2_leastRepeats_27 (lv_at hl 0 rfl) ?_
      refine xi_lt (tgt := 44) hx hb dX2_leastRepeats_29 (by decide) hf (fun hf => ?_) (fun hf => ?_)
      · obtain ⟨x_3, ex_3, hf⟩ := bnd_el hf
        refine lv_iinc (v := x_3) (lv' := [(4, .int x_3), (5, .int x_2), (2, .long x_1), (0, .int x0), (1, .int x1)]) hx hb dX2_leastRepeats_44 hl (k := 4) rfl (by rw [ex_3]; rfl) (Nat.le_of_ble_eq_true rfl) rfl (fun ls hl => ?_)
        refine lv_goto (tgt := 5) hx hb dX2_leastRepeats_47 (by decide) ?_
        exact q5 x0 x1 x_1 x_3 hf _ _ _ hP hD hS (lv_sub hl [3, 4, 2, 0] rfl)
      · refine lv_lload_n hx hb dX2_leastRepeats_32 rfl (lv_at hl 1 rfl) ?_
        refine lv_lconst (v := 1) hx hb dX2_leastRepeats_33 rfl ?_
        refine lv_iload hx hb dX2_leastRepeats_34 (lv_at hl 0 rfl) ?_
        refine lv_lshl (v := jlshl (1 : Int64) x_2) hx hb dX2_leastRepeats_36 rfl ?_
        refine xl_gt (tgt := 44) hx hb dX2_leastRepeats_37 dX2_leastRepeats_38 (by decide) hf (fun hf => ?_) (fun hf => ?_)
        · obtain ⟨x_4, ex_4, hf⟩ := bnd_el hf
          refine lv_iinc (v := x_4) (lv' := [(4, .int x_4), (5, .int x_2), (2, .long x_1), (0, .int x0), (1, .int x1)]) hx hb dX2_leastRepeats_44 hl (k := 4) rfl (by rw [ex_4]; rfl) (Nat.le_of_ble_eq_true rfl) rfl (fun ls hl => ?_)
          refine lv_goto (tgt := 5) hx hb dX2_leastRepeats_47 (by decide) ?_
          exact q5 x0 x1 x_1 x_4 hf _ _ _ hP hD hS (lv_sub hl [3, 4, 2, 0] rfl)
        · refine lv_iload hx hb dX2_leastRepeats_41 (lv_at hl 4 rfl) ?_
          have he := Option.some.inj hf
          have e_r := he
          refine rt_I hx hb hr hlocks hK hP hD hS hQ e_r ?_ dX2_leastRepeats_43
          rfl
  have b5 : ∀ (n : Nat) (x0 : Int32) (x1 : Int32) (x2 : Int64) (x4 : Int32), fb_X2_leastRepeats_5 n x0 x1 x2 x4 = some r → ∀ (H : Heap) (locs : List Loc) (ls : Array Slot), va_P D vwCl [] H → va_D A [] → va_S A s.heap H locs → lv_has ls 6 [(0, .int x0), (1, .int x1), (2, .long x2), (4, .int x4)] → W p l e ({ frames := 0, cells := 0, slots := 0, locals := 0 } : Room) s m args below meth c H locs 0 0 Q (F0 m 5 ls []) := by
    intro n
    induction n with
    | zero => intro x0 x1 x2 x4 hf; exact no_el hf
    | succ n ih => exact bl5 (fb_X2_leastRepeats_5 n) ih
  unfold f_X2_leastRepeats at hf
  refine lv_lconst (v := 1) hx hb dX2_leastRepeats_0 rfl ?_
  refine lv_lstore_n (lv' := [(2, .long (1 : Int64)), (0, .int p0), (1, .int p1)]) hx hb dX2_leastRepeats_1 rfl hl (Nat.le_of_ble_eq_true rfl) rfl (fun ls hl => ?_)
  refine lv_iconst (v := 2) hx hb dX2_leastRepeats_2 rfl ?_
  refine lv_istore (lv' := [(4, .int (2 : Int32)), (2, .long (1 : Int64)), (0, .int p0), (1, .int p1)]) hx hb dX2_leastRepeats_3 hl (Nat.le_of_ble_eq_true rfl) rfl (fun ls hl => ?_)
  exact b5 FU p0 p1 (1 : Int64) (2 : Int32) hf _ _ _ hP hD hS (lv_sub hl [2, 3, 1, 0] rfl)
abbrev wq_J7_fill_d0a16 : List Cond := Cond.code yJ7_fill_d0a16 cJ7_fill_d0a16 5 none :: GL
set_option maxHeartbeats 4000000 in
set_option maxRecDepth 100000 in
theorem c_J7_fill_d0a16 (l : Launch) (D : va_G) (ca : Nat → ClassId) (zz : Nat → Nat) (a0 : Nat) (sz : Nat) (n0 : Nat) (v0 : (Nat → Int64)) (p1 : Int64) (v0' : (Nat → Int64)) (hf : f_J7_fill_d0a16 n0 v0 p1 = some v0') : Met l yJ7_fill_d0a16 wq_J7_fill_d0a16 ({ frames := 0, cells := 0, slots := 0, locals := 0 } : Room) (PR D ca zz [.ref a0, .long p1] sz [(a0, .inl (ca 1, n0, .inr (.inl v0)))]) (QV D ca [(a0, .inl (ca 1, n0, .inr (.inl v0')))] (va_A [(a0, .inl (ca 1, n0, .inr (.inl v0)))] sz)) 0 0 (va_A [(a0, .inl (ca 1, n0, .inr (.inl v0)))] sz) := by
  refine en (y := yJ7_fill_d0a16) (wsm := wq_J7_fill_d0a16) (av := [.ref a0, .long p1]) (cc := cJ7_fill_d0a16) (maxL := 5) (ret := none) (Qf := fun A => (QV D ca [(a0, .inl (ca 1, n0, .inr (.inl v0')))] A)) (by decide) rfl (Nat.le_of_ble_eq_true rfl) ?_
  intro p e s m args below meth c A Q ls hx hb hr hml hown hts hlocks hnm hA hN hZ hK hQ hP hD hS hl
  have bl6 : ∀ (k6 : (Nat → Int64) → Int64 → Int32 → Int32 → Option ((Nat → Int64))) (q6 : ∀ (v0 : (Nat → Int64)) (x1 : Int64) (x3 : Int32) (x4 : Int32), k6 v0 x1 x3 x4 = some v0' → ∀ (H : Heap) (locs : List Loc) (ls : Array Slot), va_P D vwCl [(a0, .inl (ca 1, n0, .inr (.inl v0)))] H → va_D A [(a0, .inl (ca 1, n0, .inr (.inl v0)))] → va_S A s.heap H locs → lv_has ls 5 [(0, .ref a0), (1, .long x1), (3, .int x3), (4, .int x4)] → W p l e ({ frames := 0, cells := 0, slots := 0, locals := 0 } : Room) s m args below meth c H locs 0 0 Q (F0 m 6 ls [])) (v0 : (Nat → Int64)) (x1 : Int64) (x3 : Int32) (x4 : Int32), fl_J7_fill_d0a16_6 n0 k6 v0 x1 x3 x4 = some v0' → ∀ (H : Heap) (locs : List Loc) (ls : Array Slot), va_P D vwCl [(a0, .inl (ca 1, n0, .inr (.inl v0)))] H → va_D A [(a0, .inl (ca 1, n0, .inr (.inl v0)))] → va_S A s.heap H locs → lv_has ls 5 [(0, .ref a0), (1, .long x1), (3, .int x3), (4, .int x4)] → W p l e ({ frames := 0, cells := 0, slots := 0, locals := 0 } : Room) s m args below meth c H locs 0 0 Q (F0 m 6 ls []) := by
    intro k6 q6 v0 x1 x3 x4 hf H locs ls hP hD hS hl
    unfold fl_J7_fill_d0a16_6 at hf
    refine lv_iload_n hx hb dJ7_fill_d0a16_6 rfl (lv_at hl 2 rfl) ?_
    refine lv_iload hx hb dJ7_fill_d0a16_7 (lv_at hl 3 rfl) ?_
    refine xc_ge (tgt := 22) hx hb dJ7_fill_d0a16_9 (by decide) hf (fun hf => ?_) (fun hf => ?_)
    · have he := Option.some.inj hf
      have e_v0 := he
      refine rt_V hx hb hr hlocks hK hP hD hS hQ ?_ dJ7_fill_d0a16_22
      simp only [← e_v0]
    · refine lv_aload_n hx hb dJ7_fill_d0a16_12 rfl (lv_at hl 0 rfl) ?_
      refine lv_iload_n hx hb dJ7_fill_d0a16_13 rfl (lv_at hl 2 rfl) ?_
      refine lv_lload_n hx hb dJ7_fill_d0a16_14 rfl (lv_at hl 1 rfl) ?_
      refine xlast (wx := [(a0, .inl (ca 1, n0, .inr (.inl ((vp_updL v0 (x3).toNatClampNeg x1)))))]) hx hb hK hP hD hS 0 rfl hf dJ7_fill_d0a16_15 rfl (fun H locs hf hP hD hS => ?_)
      obtain ⟨y_2, ey_2, hf⟩ := bnd_el hf
      rw [← ey_2] at hP hD
      obtain ⟨x_3, ex_3, hf⟩ := bnd_el hf
      refine lv_iinc (v := x_3) (lv' := [(3, .int x_3), (0, .ref a0), (1, .long x1), (4, .int x4)]) hx hb dJ7_fill_d0a16_16 hl (k := 2) rfl (by rw [ex_3]; rfl) (Nat.le_of_ble_eq_true rfl) rfl (fun ls hl => ?_)
      refine lv_goto (tgt := 6) hx hb dJ7_fill_d0a16_19 (by decide) ?_
      exact q6 y_2 x1 x_3 x4 hf _ _ _ hP hD hS (lv_sub hl [1, 2, 0, 3] rfl)
  have b6 : ∀ (n : Nat) (v0 : (Nat → Int64)) (x1 : Int64) (x3 : Int32) (x4 : Int32), fb_J7_fill_d0a16_6 n0 n v0 x1 x3 x4 = some v0' → ∀ (H : Heap) (locs : List Loc) (ls : Array Slot), va_P D vwCl [(a0, .inl (ca 1, n0, .inr (.inl v0)))] H → va_D A [(a0, .inl (ca 1, n0, .inr (.inl v0)))] → va_S A s.heap H locs → lv_has ls 5 [(0, .ref a0), (1, .long x1), (3, .int x3), (4, .int x4)] → W p l e ({ frames := 0, cells := 0, slots := 0, locals := 0 } : Room) s m args below meth c H locs 0 0 Q (F0 m 6 ls []) := by
    intro n
    induction n with
    | zero => intro v0 x1 x3 x4 hf; exact no_el hf
    | succ n ih => exact bl6 (fb_J7_fill_d0a16_6 n0 n) ih
  unfold f_J7_fill_d0a16 at hf
  refine lv_iconst (v := 0) hx hb dJ7_fill_d0a16_0 rfl ?_
  refine lv_istore_n (lv' := [(3, .int (0 : Int32)), (0, .ref a0), (1, .long p1)]) hx hb dJ7_fill_d0a16_1 rfl hl (Nat.le_of_ble_eq_true rfl) rfl (fun ls hl => ?_)
  refine lv_aload_n hx hb dJ7_fill_d0a16_2 rfl (lv_at hl 1 rfl) ?_
  refine va_alen hx hb hK hP 0 1 rfl rfl (v := Int32.ofNat n0) rfl dJ7_fill_d0a16_3 ?_
  refine xnm hf (fun x_1 hf => ?_)
  refine lv_istore (lv' := [(4, .int x_1), (3, .int (0 : Int32)), (0, .ref a0), (1, .long p1)]) hx hb dJ7_fill_d0a16_4 hl (Nat.le_of_ble_eq_true rfl) rfl (fun ls hl => ?_)
  exact b6 FU v0 p1 (0 : Int32) x_1 hf _ _ _ hP hD hS (lv_sub hl [2, 3, 1, 0] rfl)
