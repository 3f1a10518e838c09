abbrev wq_X3_copyFrom : List Cond := Cond.code yX3_copyFrom cX3_copyFrom 2 none :: GL
set_option maxHeartbeats 4000000 in
set_option maxRecDepth 100000 in
theorem c_X3_copyFrom (l : Launch) (D : va_G) (ca : Nat → ClassId) (zz : Nat → Nat) (a0 a1 a2 b0 b1 b2 : Nat) (sz : Nat) (v0 : V3) (v1 : V3) (v0' : V3) (hf : f_X3_copyFrom v0 v1 = some v0') : Met l yX3_copyFrom wq_X3_copyFrom ({ frames := 2, cells := 0, slots := 0, locals := 81 } : Room) (PR D ca zz [.ref a0, .ref b0] sz [(a0, .inr (3, [.ref a1, .int v0.2.1, .int v0.2.2.1, .int v0.2.2.2.1, .int v0.2.2.2.2.1, .int v0.2.2.2.2.2.1, .int v0.2.2.2.2.2.2])), (a1, .inr (4, [.ref a2, .int v0.1.2.1, .int v0.1.2.2])), (a2, .inl (ca 0, 512, .inl v0.1.1)), (b0, .inr (3, [.ref b1, .int v1.2.1, .int v1.2.2.1, .int v1.2.2.2.1, .int v1.2.2.2.2.1, .int v1.2.2.2.2.2.1, .int v1.2.2.2.2.2.2])), (b1, .inr (4, [.ref b2, .int v1.1.2.1, .int v1.1.2.2])), (b2, .inl (ca 0, 512, .inl v1.1.1))]) (QV D ca [(a0, .inr (3, [.ref a1, .int v0'.2.1, .int v0'.2.2.1, .int v0'.2.2.2.1, .int v0'.2.2.2.2.1, .int v0'.2.2.2.2.2.1, .int v0'.2.2.2.2.2.2])), (a1, .inr (4, [.ref a2, .int v0'.1.2.1, .int v0'.1.2.2])), (a2, .inl (ca 0, 512, .inl v0'.1.1)), (b0, .inr (3, [.ref b1, .int v1.2.1, .int v1.2.2.1, .int v1.2.2.2.1, .int v1.2.2.2.2.1, .int v1.2.2.2.2.2.1, .int v1.2.2.2.2.2.2])), (b1, .inr (4, [.ref b2, .int v1.1.2.1, .int v1.1.2.2])), (b2, .inl (ca 0, 512, .inl v1.1.1))] (va_A [(a0, .inr (3, [.ref a1, .int v0.2.1, .int v0.2.2.1, .int v0.2.2.2.1, .int v0.2.2.2.2.1, .int v0.2.2.2.2.2.1, .int v0.2.2.2.2.2.2])), (a1, .inr (4, [.ref a2, .int v0.1.2.1, .int v0.1.2.2])), (a2, .inl (ca 0, 512, .inl v0.1.1)), (b0, .inr (3, [.ref b1, .int v1.2.1, .int v1.2.2.1, .int v1.2.2.2.1, .int v1.2.2.2.2.1, .int v1.2.2.2.2.2.1, .int v1.2.2.2.2.2.2])), (b1, .inr (4, [.ref b2, .int v1.1.2.1, .int v1.1.2.2])), (b2, .inl (ca 0, 512, .inl v1.1.1))] sz)) 0 0 (va_A [(a0, .inr (3, [.ref a1, .int v0.2.1, .int v0.2.2.1, .int v0.2.2.2.1, .int v0.2.2.2.2.1, .int v0.2.2.2.2.2.1, .int v0.2.2.2.2.2.2])), (a1, .inr (4, [.ref a2, .int v0.1.2.1, .int v0.1.2.2])), (a2, .inl (ca 0, 512, .inl v0.1.1)), (b0, .inr (3, [.ref b1, .int v1.2.1, .int v1.2.2.1, .int v1.2.2.2.1, .int v1.2.2.2.2.1, .int v1.2.2.2.2.2.1, .int v1.2.2.2.2.2.2])), (b1, .inr (4, [.ref b2, .int v1.1.2.1, .int v1.1.2.2])), (b2, .inl (ca 0, 512, .inl v1.1.1))] sz) := by
  refine en (y := yX3_copyFrom) (wsm := wq_X3_copyFrom) (av := [.ref a0, .ref b0]) (cc := cX3_copyFrom) (maxL := 2) (ret := none) (Qf := fun A => (QV D ca [(a0, .inr (3, [.ref a1, .int v0'.2.1, .int v0'.2.2.1, .int v0'.2.2.2.1, .int v0'.2.2.2.2.1, .int v0'.2.2.2.2.2.1, .int v0'.2.2.2.2.2.2])), (a1, .inr (4, [.ref a2, .int v0'.1.2.1, .int v0'.1.2.2])), (a2, .inl (ca 0, 512, .inl v0'.1.1)), (b0, .inr (3, [.ref b1, .int v1.2.1, .int v1.2.2.1, .int v1.2.2.2.1, .int v1.2.2.2.2.1, .int v1.2.2.2.2.2.1, .int v1.2.2.2.2.2.2])), (b1, .inr (4, [.ref b2, .int v1.1.2.1, .int v1.1.2.2])), (b2, .inl (ca 0, 512, .inl v1.1.1))] A)) (by decide) rfl (Nat.le_of_ble_eq_true rfl) ?_
  intro p e s m args below meth c A Q ls hx hb hr hml hown hts hlocks hnm hA hN hZ hK hQ hP hD hS hl
  have w0 := hts _ (List.mem_cons_of_mem _ gw_1_179)
  have w1 := hts _ (List.mem_cons_of_mem _ gw_1_182)
  have w2 := hts _ (List.mem_cons_of_mem _ gw_1_183)
  have w3 := hts _ (List.mem_cons_of_mem _ gw_1_185)
  have w4 := hts _ (List.mem_cons_of_mem _ gw_1_187)
  have w5 := hts _ (List.mem_cons_of_mem _ gw_1_189)
  have w6 := hts _ (List.mem_cons_of_mem _ gw_1_191)
  have i3 : ∀ w ∈ u_ws RX3 TX3 7, w ∈ wq_X3_copyFrom := fun w h => List.mem_cons_of_mem _ (inX3 w h)
  unfold f_X3_copyFrom at hf
  refine lv_aload_n hx hb dX3_copyFrom_0 rfl (lv_at hl 0 rfl) ?_
  refine va_get (C := RX3) (T := TX3) (N := 7) hx hb hts i3 hown hK hP 0 rfl rfl 0 (Nat.le_of_ble_eq_true rfl) w0 (fun _ h9 => h9) rfl dX3_copyFrom_1 ?_
  refine lv_aload_n hx hb dX3_copyFrom_4 rfl (lv_at hl 1 rfl) ?_
  refine va_get (C := RX3) (T := TX3) (N := 7) hx hb hts i3 hown hK hP 3 rfl rfl 0 (Nat.le_of_ble_eq_true rfl) w0 (fun _ h9 => h9) rfl dX3_copyFrom_5 ?_
  obtain ⟨u_1, hc1, hf⟩ := bnd1_el hf
  refine xV_V (As := [.ref b1]) (wx := [(a0, .inr (3, [.ref a1, .int v0.2.1, .int v0.2.2.1, .int v0.2.2.2.1, .int v0.2.2.2.2.1, .int v0.2.2.2.2.2.1, .int v0.2.2.2.2.2.2])), (a1, .inr (4, [.ref a2, .int u_1.2.1, .int u_1.2.2])), (a2, .inl (ca 0, 512, .inl u_1.1)), (b0, .inr (3, [.ref b1, .int v1.2.1, .int v1.2.2.1, .int v1.2.2.2.1, .int v1.2.2.2.2.1, .int v1.2.2.2.2.2.1, .int v1.2.2.2.2.2.2])), (b1, .inr (4, [.ref b2, .int v1.1.2.1, .int v1.1.2.2])), (b2, .inl (ca 0, 512, .inl v1.1.1))]) ⟨hx, hb, hml, hown, hts⟩ (c_X4_copyFrom l D ca zz a1 a2 b1 b2 _ v0.1 v1.1 u_1 hc1) (cwV 1 hts (gV gw_4_212 gw_4_213 gw_4_214 gw_1_8 gw_4_215) rfl rfl rfl (by decide +kernel) ⟨(Nat.le_of_ble_eq_true rfl), (Nat.le_of_ble_eq_true rfl)⟩) hK hN hZ hA hP hD hS [1, 2, 4, 5] [none, some 0, some 1, none, some 2, some 3] (by decide +kernel) rfl rfl rfl rfl 1 rfl rfl hl.1 rfl (Nat.le_of_ble_eq_true rfl) dX3_copyFrom_8 ⟨Nat.zero_le _, Nat.zero_le _⟩ rfl (fun H locs hP hD hS => ?_)
  refine lv_aload_n hx hb dX3_copyFrom_11 rfl (lv_at hl 0 rfl) ?_
  refine lv_aload_n hx hb dX3_copyFrom_12 rfl (lv_at hl 1 rfl) ?_
  refine va_get (C := RX3) (T := TX3) (N := 7) hx hb hts i3 hown hK hP 3 rfl rfl 1 (Nat.le_of_ble_eq_true rfl) w1 (fun _ h9 => h9) rfl dX3_copyFrom_13 ?_
  refine xput (C := RX3) (T := TX3) (N := 7) (wx := [(a0, .inr (3, [.ref a1, .int v1.2.1, .int v0.2.2.1, .int v0.2.2.2.1, .int v0.2.2.2.2.1, .int v0.2.2.2.2.2.1, .int v0.2.2.2.2.2.2])), (a1, .inr (4, [.ref a2, .int u_1.2.1, .int u_1.2.2])), (a2, .inl (ca 0, 512, .inl u_1.1)), (b0, .inr (3, [.ref b1, .int v1.2.1, .int v1.2.2.1, .int v1.2.2.2.1, .int v1.2.2.2.2.1, .int v1.2.2.2.2.2.1, .int v1.2.2.2.2.2.2])), (b1, .inr (4, [.ref b2, .int v1.1.2.1, .int v1.1.2.2])), (b2, .inl (ca 0, 512, .inl v1.1.1))]) hx hb hts i3 tyX3 tyX3_ok nmX3 hown hK hP hD hS 0 rfl rfl 1 (Nat.le_of_ble_eq_true rfl) w1 (fun _ h9 => h9) rfl rfl rfl rfl (Nat.le_of_ble_eq_true rfl) dX3_copyFrom_16 rfl (fun H locs hP hD hS => ?_)
  refine lv_aload_n hx hb dX3_copyFrom_19 rfl (lv_at hl 0 rfl) ?_
  refine lv_aload_n hx hb dX3_copyFrom_20 rfl (lv_at hl 1 rfl) ?_
  refine va_get (C := RX3) (T := TX3) (N := 7) hx hb hts i3 hown hK hP 3 rfl rfl 2 (Nat.le_of_ble_eq_true rfl) w2 (fun _ h9 => h9) rfl dX3_copyFrom_21 ?_
  refine xput (C := RX3) (T := TX3) (N := 7) (wx := [(a0, .inr (3, [.ref a1, .int v1.2.1, .int v1.2.2.1, .int v0.2.2.2.1, .int v0.2.2.2.2.1, .int v0.2.2.2.2.2.1, .int v0.2.2.2.2.2.2])), (a1, .inr (4, [.ref a2, .int u_1.2.1, .int u_1.2.2])), (a2, .inl (ca 0, 512, .inl u_1.1)), (b0, .inr (3, [.ref b1, .int v1.2.1, .int v1.2.2.1, .int v1.2.2.2.1, .int v1.2.2.2.2.1, .int v1.2.2.2.2.2.1, .int v1.2.2.2.2.2.2])), (b1, .inr (4, [.ref b2, .int v1.1.2.1, .int v1.1.2.2])), (b2, .inl (ca 0, 512, .inl v1.1.1))]) hx hb hts i3 tyX3 tyX3_ok nmX3 hown hK hP hD hS 0 rfl rfl 2 (Nat.le_of_ble_eq_true rfl) w2 (fun _ h9 => h9) rfl rfl rfl rfl (Nat.le_of_ble_eq_true rfl) dX3_copyFrom_24 rfl (fun H locs hP hD hS => ?_)
  refine lv_aload_n hx hb dX3_copyFrom_27 rfl (lv_at hl 0 rfl) ?_
  refine lv_aload_n hx hb dX3_copyFrom_28 rfl (lv_at hl 1 rfl) ?_
  refine va_get (C := RX3) (T := TX3) (N := 7) hx hb hts i3 hown hK hP 3 rfl rfl 3 (Nat.le_of_ble_eq_true rfl) w3 (fun _ h9 => h9) rfl dX3_copyFrom_29 ?_
  refine xput (C := RX3) (T := TX3) (N := 7) (wx := [(a0, .inr (3, [.ref a1, .int v1.2.1, .int v1.2.2.1, .int v1.2.2.2.1, .int v0.2.2.2.2.1, .int v0.2.2.2.2.2.1, .int v0.2.2.2.2.2.2])), (a1, .inr (4, [.ref a2, .int u_1.2.1, .int u_1.2.2])), (a2, .inl (ca 0, 512, .inl u_1.1)), (b0, .inr (3, [.ref b1, .int v1.2.1, .int v1.2.2.1, .int v1.2.2.2.1, .int v1.2.2.2.2.1, .int v1.2.2.2.2.2.1, .int v1.2.2.2.2.2.2])), (b1, .inr (4, [.ref b2, .int v1.1.2.1, .int v1.1.2.2])), (b2, .inl (ca 0, 512, .inl v1.1.1))]) hx hb hts i3 tyX3 tyX3_ok nmX3 hown hK hP hD hS 0 rfl rfl 3 (Nat.le_of_ble_eq_true rfl) w3 (fun _ h9 => h9) rfl rfl rfl rfl (Nat.le_of_ble_eq_true rfl) dX3_copyFrom_32 rfl (fun H locs hP hD hS => ?_)
  refine lv_aload_n hx hb dX3_copyFrom_35 rfl (lv_at hl 0 rfl) ?_
  refine lv_aload_n hx hb dX3_copyFrom_36 rfl (lv_at hl 1 rfl) ?_
  refine va_get (C := RX3) (T := TX3) (N := 7) hx hb hts i3 hown hK hP 3 rfl rfl 4 (Nat.le_of_ble_eq_true rfl) w4 (fun _ h9 => h9) rfl dX3_copyFrom_37 ?_
  refine xput (C := RX3) (T := TX3) (N := 7) (wx := [(a0, .inr (3, [.ref a1, .int v1.2.1, .int v1.2.2.1, .int v1.2.2.2.1, .int v1.2.2.2.2.1, .int v0.2.2.2.2.2.1, .int v0.2.2.2.2.2.2])), (a1, .inr (4, [.ref a2, .int u_1.2.1, .int u_1.2.2])), (a2, .inl (ca 0, 512, .inl u_1.1)), (b0, .inr (3, [.ref b1, .int v1.2.1, .int v1.2.2.1, .int v1.2.2.2.1, .int v1.2.2.2.2.1, .int v1.2.2.2.2.2.1, .int v1.2.2.2.2.2.2])), (b1, .inr (4, [.ref b2, .int v1.1.2.1, .int v1.1.2.2])), (b2, .inl (ca 0, 512, .inl v1.1.1))]) hx hb hts i3 tyX3 tyX3_ok nmX3 hown hK hP hD hS 0 rfl rfl 4 (Nat.le_of_ble_eq_true rfl) w4 (fun _ h9 => h9) rfl rfl rfl rfl (Nat.le_of_ble_eq_true rfl) dX3_copyFrom_40 rfl (fun H locs hP hD hS => ?_)
  refine lv_aload_n hx hb dX3_copyFrom_43 rfl (lv_at hl 0 rfl) ?_
  refine lv_aload_n hx hb dX3_copyFrom_44 rfl (lv_at hl 1 rfl) ?_
  refine va_get (C := RX3) (T := TX3) (N := 7) hx hb hts i3 hown hK hP 3 rfl rfl 5 (Nat.le_of_ble_eq_true rfl) w5 (fun _ h9 => h9) rfl dX3_copyFrom_45 ?_
  refine xput (C := RX3) (T := TX3) (N := 7) (wx := [(a0, .inr (3, [.ref a1, .int v1.2.1, .int v1.2.2.1, .int v1.2.2.2.1, .int v1.2.2.2.2.1, .int v1.2.2.2.2.2.1, .int v0.2.2.2.2.2.2])), (a1, .inr (4, [.ref a2, .int u_1.2.1, .int u_1.2.2])), (a2, .inl (ca 0, 512, .inl u_1.1)), (b0, .inr (3, [.ref b1, .int v1.2.1, .int v1.2.2.1, .int v1.2.2.2.1, .int v1.2.2.2.2.1, .int v1.2.2.2.2.2.1, .int v1.2.2.2.2.2.2])), (b1, .inr (4, [.ref b2, .int v1.1.2.1, .int v1.1.2.2])), (b2, .inl (ca 0, 512, .inl v1.1.1))]) hx hb hts i3 tyX3 tyX3_ok nmX3 hown hK hP hD hS 0 rfl rfl 5 (Nat.le_of_ble_eq_true rfl) w5 (fun _ h9 => h9) rfl rfl rfl rfl (Nat.le_of_ble_eq_true rfl) dX3_copyFrom_48 rfl (fun H locs hP hD hS => ?_)
  refine lv_aload_n hx hb dX3_copyFrom_51 rfl (lv_at hl 0 rfl) ?_
  refine lv_aload_n hx hb dX3_copyFrom_52 rfl (lv_at hl 1 rfl) ?_
  refine va_get (C := RX3) (T := TX3) (N := 7) hx hb hts i3 hown hK hP 3 rfl rfl 6 (Nat.le_of_ble_eq_true rfl) w6 (fun _ h9 => h9) rfl dX3_copyFrom_53 ?_
  refine xput (C := RX3) (T := TX3) (N := 7) (wx := [(a0, .inr (3, [.ref a1, .int v1.2.1, .int v1.2.2.1, .int v1.2.2.2.1, .int v1.2.2.2.2.1, .int v1.2.2.2.2.2.1, .int v1.2.2.2.2.2.2])), (a1, .inr (4, [.ref a2, .int u_1.2.1, .int u_1.2.2])), (a2, .inl (ca 0, 512, .inl u_1.1)), (b0, .inr (3, [.ref b1, .int v1.2.1, .int v1.2.2.1, .int v1.2.2.2.1, .int v1.2.2.2.2.1, .int v1.2.2.2.2.2.1, .int v1.2.2.2.2.2.2])), (b1, .inr (4, [.ref b2, .int v1.1.2.1, .int v1.1.2.2])), (b2, .inl (ca 0, 512, .inl v1.1.1))]) hx hb hts i3 tyX3 tyX3_ok nmX3 hown hK hP hD hS 0 rfl rfl 6 (Nat.le_of_ble_eq_true rfl) w6 (fun _ h9 => h9) rfl rfl rfl rfl (Nat.le_of_ble_eq_true rfl) dX3_copyFrom_56 rfl (fun H locs hP hD hS => ?_)
  have he := Option.some.inj hf
  have e_v0 := he
  refine rt_V hx hb hr hlocks hK hP hD hS hQ ?_ dX3_copyFrom_59
  simp only [← e_v0]
abbrev wq_X6_copyFrom : List Cond := Cond.code yX6_copyFrom cX6_copyFrom 2 none :: GL
set_option maxHeartbeats 4000000 in
set_option maxRecDepth 100000 in
theorem c_X6_copyFrom (l : Launch) (D : va_G) (ca : Nat → ClassId) (zz : Nat → Nat) (a0 a1 a2 b0 b1 b2 : Nat) (sz : Nat) (v0 : V6) (v1 : V6) (v0' : V6) (hf : f_X6_copyFrom v0 v1 = some v0') : Met l yX6_copyFrom wq_X6_copyFrom ({ frames := 1, cells := 0, slots := 0, locals := 60 } : Room) (PR D ca zz [.ref a0, .ref b0] sz [(a0, .inr (6, [.ref a1, .ref a2, .int v0.2.2])), (a1, .inl (ca 0, 15, .inl v0.1)), (a2, .inl (ca 0, 15, .inl v0.2.1)), (b0, .inr (6, [.ref b1, .ref b2, .int v1.2.2])), (b1, .inl (ca 0, 15, .inl v1.1)), (b2, .inl (ca 0, 15, .inl v1.2.1))]) (QV D ca [(a0, .inr (6, [.ref a1, .ref a2, .int v0'.2.2])), (a1, .inl (ca 0, 15, .inl v0'.1)), (a2, .inl (ca 0, 15, .inl v0'.2.1)), (b0, .inr (6, [.ref b1, .ref b2, .int v1.2.2])), (b1, .inl (ca 0, 15, .inl v1.1)), (b2, .inl (ca 0, 15, .inl v1.2.1))] (va_A [(a0, .inr (6, [.ref a1, .ref a2, .int v0.2.2])), (a1, .inl (ca 0, 15, .inl v0.1)), (a2, .inl (ca 0, 15, .inl v0.2.1)), (b0, .inr (6, [.ref b1, .ref b2, .int v1.2.2])), (b1, .inl (ca 0, 15, .inl v1.1)), (b2, .inl (ca 0, 15, .inl v1.2.1))] sz)) 0 0 (va_A [(a0, .inr (6, [.ref a1, .ref a2, .int v0.2.2])), (a1, .inl (ca 0, 15, .inl v0.1)), (a2, .inl (ca 0, 15, .inl v0.2.1)), (b0, .inr (6, [.ref b1, .ref b2, .int v1.2.2])), (b1, .inl (ca 0, 15, .inl v1.1)), (b2, .inl (ca 0, 15, .inl v1.2.1))] sz) := by
  refine en (y := yX6_copyFrom) (wsm := wq_X6_copyFrom) (av := [.ref a0, .ref b0]) (cc := cX6_copyFrom) (maxL := 2) (ret := none) (Qf := fun A => (QV D ca [(a0, .inr (6, [.ref a1, .ref a2, .int v0'.2.2])), (a1, .inl (ca 0, 15, .inl v0'.1)), (a2, .inl (ca 0, 15, .inl v0'.2.1)), (b0, .inr (6, [.ref b1, .ref b2, .int v1.2.2])), (b1, .inl (ca 0, 15, .inl v1.1)), (b2, .inl (ca 0, 15, .inl v1.2.1))] A)) (by decide) rfl (Nat.le_of_ble_eq_true rfl) ?_
  intro p e s m args below meth c A Q ls hx hb hr hml hown hts hlocks hnm hA hN hZ hK hQ hP hD hS hl
  have w0 := hts _ (List.mem_cons_of_mem _ gw_1_216)
  have w1 := hts _ (List.mem_cons_of_mem _ gw_3_149)
  have w2 := hts _ (List.mem_cons_of_mem _ gw_2_238)
  have w3 := hts _ (List.mem_cons_of_mem _ gw_2_237)
  have w4 := hts _ (List.mem_cons_of_mem _ gw_1_16)
  have w5 := hts _ (List.mem_cons_of_mem _ gw_1_217)
  have w6 := hts _ (List.mem_cons_of_mem _ gw_1_218)
  have i6 : ∀ w ∈ u_ws RX6 TX6 3, w ∈ wq_X6_copyFrom := fun w h => List.mem_cons_of_mem _ (inX6 w h)
  unfold f_X6_copyFrom at hf
  refine lv_aload_n hx hb dX6_copyFrom_0 rfl (lv_at hl 1 rfl) ?_
  refine va_get (C := RX6) (T := TX6) (N := 3) hx hb hts i6 hown hK hP 3 rfl rfl 0 (Nat.le_of_ble_eq_true rfl) w0 (fun _ h9 => h9) rfl dX6_copyFrom_1 ?_
  refine lv_iconst (v := 0) hx hb dX6_copyFrom_4 rfl ?_
  refine lv_aload_n hx hb dX6_copyFrom_5 rfl (lv_at hl 0 rfl) ?_
  refine va_get (C := RX6) (T := TX6) (N := 3) hx hb hts i6 hown hK hP 0 rfl rfl 0 (Nat.le_of_ble_eq_true rfl) w0 (fun _ h9 => h9) rfl dX6_copyFrom_6 ?_
  refine lv_iconst (v := 0) hx hb dX6_copyFrom_9 rfl ?_
  refine lv_bipush (v := 15) hx hb dX6_copyFrom_10 rfl ?_
  refine xcopyi (wx := [(a0, .inr (6, [.ref a1, .ref a2, .int v0.2.2])), (a1, .inl (ca 0, 15, .inl ((va_cpy v1.1 v0.1 ((0 : Int32)).toNatClampNeg ((0 : Int32)).toNatClampNeg ((15 : Int32)).toNatClampNeg)))), (a2, .inl (ca 0, 15, .inl v0.2.1)), (b0, .inr (6, [.ref b1, .ref b2, .int v1.2.2])), (b1, .inl (ca 0, 15, .inl v1.1)), (b2, .inl (ca 0, 15, .inl v1.2.1))]) hx hb (hml.trans hl.1.symm) hown w1 w2 w3 w4 hK hP hD hS 4 1 rfl rfl hf (Nat.le_of_ble_eq_true rfl) (Nat.le_of_ble_eq_true rfl) dX6_copyFrom_12 rfl (fun H locs hf hP hD hS => ?_)
  obtain ⟨y_1, ey_1, hf⟩ := bnd_el hf
  rw [← ey_1] at hP hD
  refine lv_aload_n hx hb dX6_copyFrom_15 rfl (lv_at hl 1 rfl) ?_
  refine va_get (C := RX6) (T := TX6) (N := 3) hx hb hts i6 hown hK hP 3 rfl rfl 1 (Nat.le_of_ble_eq_true rfl) w5 (fun _ h9 => h9) rfl dX6_copyFrom_16 ?_
  refine lv_iconst (v := 0) hx hb dX6_copyFrom_19 rfl ?_
  refine lv_aload_n hx hb dX6_copyFrom_20 rfl (lv_at hl 0 rfl) ?_
  refine va_get (C := RX6) (T := TX6) (N := 3) hx hb hts i6 hown hK hP 0 rfl rfl 1 (Nat.le_of_ble_eq_true rfl) w5 (fun _ h9 => h9) rfl dX6_copyFrom_21 ?_
  refine lv_iconst (v := 0) hx hb dX6_copyFrom_24 rfl ?_
  refine lv_bipush (v := 15) hx hb dX6_copyFrom_25 rfl ?_
  refine xcopyi (wx := [(a0, .inr (6, [.ref a1, .ref a2, .int v0.2.2])), (a1, .inl (ca 0, 15, .inl y_1)), (a2, .inl (ca 0, 15, .inl ((va_cpy v1.2.1 v0.2.1 ((0 : Int32)).toNatClampNeg ((0 : Int32)).toNatClampNeg ((15 : Int32)).toNatClampNeg)))), (b0, .inr (6, [.ref b1, .ref b2, .int v1.2.2])), (b1, .inl (ca 0, 15, .inl v1.1)), (b2, .inl (ca 0, 15, .inl v1.2.1))]) hx hb (hml.trans hl.1.symm) hown w1 w2 w3 w4 hK hP hD hS 5 2 rfl rfl hf (Nat.le_of_ble_eq_true rfl) (Nat.le_of_ble_eq_true rfl) dX6_copyFrom_27 rfl (fun H locs hf hP hD hS => ?_)
  obtain ⟨y_2, ey_2, hf⟩ := bnd_el hf
  rw [← ey_2] at hP hD
  refine lv_aload_n hx hb dX6_copyFrom_30 rfl (lv_at hl 0 rfl) ?_
  refine lv_aload_n hx hb dX6_copyFrom_31 rfl (lv_at hl 1 rfl) ?_
  refine va_get (C := RX6) (T := TX6) (N := 3) hx hb hts i6 hown hK hP 3 rfl rfl 2 (Nat.le_of_ble_eq_true rfl) w6 (fun _ h9 => h9) rfl dX6_copyFrom_32 ?_
  refine xput (C := RX6) (T := TX6) (N := 3) (wx := [(a0, .inr (6, [.ref a1, .ref a2, .int v1.2.2])), (a1, .inl (ca 0, 15, .inl y_1)), (a2, .inl (ca 0, 15, .inl y_2)), (b0, .inr (6, [.ref b1, .ref b2, .int v1.2.2])), (b1, .inl (ca 0, 15, .inl v1.1)), (b2, .inl (ca 0, 15, .inl v1.2.1))]) hx hb hts i6 tyX6 tyX6_ok nmX6 hown hK hP hD hS 0 rfl rfl 2 (Nat.le_of_ble_eq_true rfl) w6 (fun _ h9 => h9) rfl rfl rfl rfl (Nat.le_of_ble_eq_true rfl) dX6_copyFrom_35 rfl (fun H locs hP hD hS => ?_)
  have he := Option.some.inj hf
  have e_v0 := he
  refine rt_V hx hb hr hlocks hK hP hD hS hQ ?_ dX6_copyFrom_38
  simp only [← e_v0]
abbrev wq_X9_copyFrom : List Cond := Cond.code yX9_copyFrom cX9_copyFrom 2 none :: GL
set_option maxHeartbeats 4000000 in
set_option maxRecDepth 100000 in
theorem c_X9_copyFrom (l : Launch) (D : va_G) (ca : Nat → ClassId) (zz : Nat → Nat) (a0 a1 b0 b1 : Nat) (sz : Nat) (v0 : V9) (v1 : V9) (v0' : V9) (hf : f_X9_copyFrom v0 v1 = some v0') : Met l yX9_copyFrom wq_X9_copyFrom ({ frames := 1, cells := 0, slots := 0, locals := 60 } : Room) (PR D ca zz [.ref a0, .ref b0] sz [(a0, .inr (9, [.ref a1, .int v0.2.1, .int v0.2.2.1, .int v0.2.2.2])), (a1, .inl (ca 0, 300, .inl v0.1)), (b0, .inr (9, [.ref b1, .int v1.2.1, .int v1.2.2.1, .int v1.2.2.2])), (b1, .inl (ca 0, 300, .inl v1.1))]) (QV D ca [(a0, .inr (9, [.ref a1, .int v0'.2.1, .int v0'.2.2.1, .int v0'.2.2.2])), (a1, .inl (ca 0, 300, .inl v0'.1)), (b0, .inr (9, [.ref b1, .int v1.2.1, .int v1.2.2.1, .int v1.2.2.2])), (b1, .inl (ca 0, 300, .inl v1.1))] (va_A [(a0, .inr (9, [.ref a1, .int v0.2.1, .int v0.2.2.1, .int v0.2.2.2])), (a1, .inl (ca 0, 300, .inl v0.1)), (b0, .inr (9, [.ref b1, .int v1.2.1, .int v1.2.2.1, .int v1.2.2.2])), (b1, .inl (ca 0, 300, .inl v1.1))] sz)) 0 0 (va_A [(a0, .inr (9, [.ref a1, .int v0.2.1, .int v0.2.2.1, .int v0.2.2.2])), (a1, .inl (ca 0, 300, .inl v0.1)), (b0, .inr (9, [.ref b1, .int v1.2.1, .int v1.2.2.1, .int v1.2.2.2])), (b1, .inl (ca 0, 300, .inl v1.1))] sz) := by
  refine en (y := yX9_copyFrom) (wsm := wq_X9_copyFrom) (av := [.ref a0, .ref b0]) (cc := cX9_copyFrom) (maxL := 2) (ret := none) (Qf := fun A => (QV D ca [(a0, .inr (9, [.ref a1, .int v0'.2.1, .int v0'.2.2.1, .int v0'.2.2.2])), (a1, .inl (ca 0, 300, .inl v0'.1)), (b0, .inr (9, [.ref b1, .int v1.2.1, .int v1.2.2.1, .int v1.2.2.2])), (b1, .inl (ca 0, 300, .inl v1.1))] A)) (by decide) rfl (Nat.le_of_ble_eq_true rfl) ?_
  intro p e s m args below meth c A Q ls hx hb hr hml hown hts hlocks hnm hA hN hZ hK hQ hP hD hS hl
  have w0 := hts _ (List.mem_cons_of_mem _ gw_1_233)
  have w1 := hts _ (List.mem_cons_of_mem _ gw_4_226)
  have w2 := hts _ (List.mem_cons_of_mem _ gw_2_238)
  have w3 := hts _ (List.mem_cons_of_mem _ gw_2_237)
  have w4 := hts _ (List.mem_cons_of_mem _ gw_1_16)
  have w5 := hts _ (List.mem_cons_of_mem _ gw_1_234)
  have w6 := hts _ (List.mem_cons_of_mem _ gw_1_237)
  have w7 := hts _ (List.mem_cons_of_mem _ gw_1_239)
  have i9 : ∀ w ∈ u_ws RX9 TX9 4, w ∈ wq_X9_copyFrom := fun w h => List.mem_cons_of_mem _ (inX9 w h)
  unfold f_X9_copyFrom at hf
  refine lv_aload_n hx hb dX9_copyFrom_0 rfl (lv_at hl 1 rfl) ?_
  refine va_get (C := RX9) (T := TX9) (N := 4) hx hb hts i9 hown hK hP 2 rfl rfl 0 (Nat.le_of_ble_eq_true rfl) w0 (fun _ h9 => h9) rfl dX9_copyFrom_1 ?_
  refine lv_iconst (v := 0) hx hb dX9_copyFrom_4 rfl ?_
  refine lv_aload_n hx hb dX9_copyFrom_5 rfl (lv_at hl 0 rfl) ?_
  refine va_get (C := RX9) (T := TX9) (N := 4) hx hb hts i9 hown hK hP 0 rfl rfl 0 (Nat.le_of_ble_eq_true rfl) w0 (fun _ h9 => h9) rfl dX9_copyFrom_6 ?_
  refine lv_iconst (v := 0) hx hb dX9_copyFrom_9 rfl ?_
  refine lv_sipush (v := 300) hx hb dX9_copyFrom_10 rfl ?_
  refine xcopyi (wx := [(a0, .inr (9, [.ref a1, .int v0.2.1, .int v0.2.2.1, .int v0.2.2.2])), (a1, .inl (ca 0, 300, .inl ((va_cpy v1.1 v0.1 ((0 : Int32)).toNatClampNeg ((0 : Int32)).toNatClampNeg ((300 : Int32)).toNatClampNeg)))), (b0, .inr (9, [.ref b1, .int v1.2.1, .int v1.2.2.1, .int v1.2.2.2])), (b1, .inl (ca 0, 300, .inl v1.1))]) hx hb (hml.trans hl.1.symm) hown w1 w2 w3 w4 hK hP hD hS 3 1 rfl rfl hf (Nat.le_of_ble_eq_true rfl) (Nat.le_of_ble_eq_true rfl) dX9_copyFrom_13 rfl (fun H locs hf hP hD hS => ?_)
  obtain ⟨y_1, ey_1, hf⟩ := bnd_el hf
  rw [← ey_1] at hP hD
  refine lv_aload_n hx hb dX9_copyFrom_16 rfl (lv_at hl 0 rfl) ?_
  refine lv_aload_n hx hb dX9_copyFrom_17 rfl (lv_at hl 1 rfl) ?_
  refine va_get (C := RX9) (T := TX9) (N := 4) hx hb hts i9 hown hK hP 2 rfl rfl 1 (Nat.le_of_ble_eq_true rfl) w5 (fun _ h9 => h9) rfl dX9_copyFrom_18 ?_
  refine xput (C := RX9) (T := TX9) (N := 4) (wx := [(a0, .inr (9, [.ref a1, .int v1.2.1, .int v0.2.2.1, .int v0.2.2.2])), (a1, .inl (ca 0, 300, .inl y_1)), (b0, .inr (9, [.ref b1, .int v1.2.1, .int v1.2.2.1, .int v1.2.2.2])), (b1, .inl (ca 0, 300, .inl v1.1))]) hx hb hts i9 tyX9 tyX9_ok nmX9 hown hK hP hD hS 0 rfl rfl 1 (Nat.le_of_ble_eq_true rfl) w5 (fun _ h9 => h9) rfl rfl rfl rfl (Nat.le_of_ble_eq_true rfl) dX9_copyFrom_21 rfl (fun H locs hP hD hS => ?_)
  refine lv_aload_n hx hb dX9_copyFrom_24 rfl (lv_at hl 0 rfl) ?_
  refine lv_aload_n hx hb dX9_copyFrom_25 rfl (lv_at hl 1 rfl) ?_
  refine va_get (C := RX9) (T := TX9) (N := 4) hx hb hts i9 hown hK hP 2 rfl rfl 2 (Nat.le_of_ble_eq_true rfl) w6 (fun _ h9 => h9) rfl dX9_copyFrom_26 ?_
  refine xput (C := RX9) (T := TX9) (N := 4) (wx := [(a0, .inr (9, [.ref a1, .int v1.2.1, .int v1.2.2.1, .int v0.2.2.2])), (a1, .inl (ca 0, 300, .inl y_1)), (b0, .inr (9, [.ref b1, .int v1.2.1, .int v1.2.2.1, .int v1.2.2.2])), (b1, .inl (ca 0, 300, .inl v1.1))]) hx hb hts i9 tyX9 tyX9_ok nmX9 hown hK hP hD hS 0 rfl rfl 2 (Nat.le_of_ble_eq_true rfl) w6 (fun _ h9 => h9) rfl rfl rfl rfl (Nat.le_of_ble_eq_true rfl) dX9_copyFrom_29 rfl (fun H locs hP hD hS => ?_)
  refine lv_aload_n hx hb dX9_copyFrom_32 rfl (lv_at hl 0 rfl) ?_
  refine lv_aload_n hx hb dX9_copyFrom_33 rfl (lv_at hl 1 rfl) ?_
  refine va_get (C := RX9) (T := TX9) (N := 4) hx hb hts i9 hown hK hP 2 rfl rfl 3 (Nat.le_of_ble_eq_true rfl) w7 (fun _ h9 => h9) rfl dX9_copyFrom_34 ?_
  refine xput (C := RX9) (T := TX9) (N := 4) (wx := [(a0, .inr (9, [.ref a1, .int v1.2.1, .int v1.2.2.1, .int v1.2.2.2])), (a1, .inl (ca 0, 300, .inl y_1)), (b0, .inr (9, [.ref b1, .int v1.2.1, .int v1.2.2.1, .int v1.2.2.2])), (b1, .inl (ca 0, 300, .inl v1.1))]) hx hb hts i9 tyX9 tyX9_ok nmX9 hown hK hP hD hS 0 rfl rfl 3 (Nat.le_of_ble_eq_true rfl) w7 (fun _ h9 => h9) rfl rfl rfl rfl (Nat.le_of_ble_eq_true rfl) dX9_copyFrom_37 rfl (fun H locs hP hD hS => ?_)
  have he := Option.some.inj hf
  have e_v0 := he
  refine rt_V hx hb hr hlocks hK hP hD hS hQ ?_ dX9_copyFrom_40
  simp only [← e_v0]
