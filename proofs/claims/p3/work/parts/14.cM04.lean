abbrev wq_X12_isBad : List Cond := Cond.code yX12_isBad cX12_isBad 3 none :: GL
set_option maxHeartbeats 4000000 in
set_option maxRecDepth 100000 in
theorem c_X12_isBad (l : Launch) (D : va_G) (ca : Nat → ClassId) (zz : Nat → Nat) (a0 a1 a2 a3 a4 a5 : Nat) (sz : Nat) (v0 : V12) (p1 : Int32) (p2 : Int32) (v0' : V12) (hf : f_X12_isBad v0 p1 p2 = some v0') : Met l yX12_isBad wq_X12_isBad ({ frames := 0, cells := 0, slots := 0, locals := 0 } : Room) (PR D ca zz [.ref a0, .int p1, .int p2] sz [(a0, .inr (12, [.int v0.1, .ref a1, .ref a2, .ref a3, .int v0.2.2.2.2.1, .int v0.2.2.2.2.2.1, .int v0.2.2.2.2.2.2.1, .int v0.2.2.2.2.2.2.2.1, .int v0.2.2.2.2.2.2.2.2.1, .long v0.2.2.2.2.2.2.2.2.2.1, .int v0.2.2.2.2.2.2.2.2.2.2.1, .int v0.2.2.2.2.2.2.2.2.2.2.2.1, .int v0.2.2.2.2.2.2.2.2.2.2.2.2.1, .ref a4, .int v0.2.2.2.2.2.2.2.2.2.2.2.2.2.2.1, .int v0.2.2.2.2.2.2.2.2.2.2.2.2.2.2.2.1, .int v0.2.2.2.2.2.2.2.2.2.2.2.2.2.2.2.2.1, .int v0.2.2.2.2.2.2.2.2.2.2.2.2.2.2.2.2.2.1, .int v0.2.2.2.2.2.2.2.2.2.2.2.2.2.2.2.2.2.2.1, .long v0.2.2.2.2.2.2.2.2.2.2.2.2.2.2.2.2.2.2.2.1, .long v0.2.2.2.2.2.2.2.2.2.2.2.2.2.2.2.2.2.2.2.2.1, .ref a5])), (a1, .inl (ca 0, 4725, .inl v0.2.1)), (a2, .inl (ca 2, 1500, .inl v0.2.2.1)), (a3, .inl (ca 3, 3, .inl v0.2.2.2.1)), (a4, .inl (ca 0, 22, .inl v0.2.2.2.2.2.2.2.2.2.2.2.2.2.1)), (a5, .inl (ca 0, 256, .inl v0.2.2.2.2.2.2.2.2.2.2.2.2.2.2.2.2.2.2.2.2.2))]) (QV D ca [(a0, .inr (12, [.int v0'.1, .ref a1, .ref a2, .ref a3, .int v0'.2.2.2.2.1, .int v0'.2.2.2.2.2.1, .int v0'.2.2.2.2.2.2.1, .int v0'.2.2.2.2.2.2.2.1, .int v0'.2.2.2.2.2.2.2.2.1, .long v0'.2.2.2.2.2.2.2.2.2.1, .int v0'.2.2.2.2.2.2.2.2.2.2.1, .int v0'.2.2.2.2.2.2.2.2.2.2.2.1, .int v0'.2.2.2.2.2.2.2.2.2.2.2.2.1, .ref a4, .int v0'.2.2.2.2.2.2.2.2.2.2.2.2.2.2.1, .int v0'.2.2.2.2.2.2.2.2.2.2.2.2.2.2.2.1, .int v0'.2.2.2.2.2.2.2.2.2.2.2.2.2.2.2.2.1, .int v0'.2.2.2.2.2.2.2.2.2.2.2.2.2.2.2.2.2.1, .int v0'.2.2.2.2.2.2.2.2.2.2.2.2.2.2.2.2.2.2.1, .long v0'.2.2.2.2.2.2.2.2.2.2.2.2.2.2.2.2.2.2.2.1, .long v0'.2.2.2.2.2.2.2.2.2.2.2.2.2.2.2.2.2.2.2.2.1, .ref a5])), (a1, .inl (ca 0, 4725, .inl v0'.2.1)), (a2, .inl (ca 2, 1500, .inl v0'.2.2.1)), (a3, .inl (ca 3, 3, .inl v0'.2.2.2.1)), (a4, .inl (ca 0, 22, .inl v0'.2.2.2.2.2.2.2.2.2.2.2.2.2.1)), (a5, .inl (ca 0, 256, .inl v0'.2.2.2.2.2.2.2.2.2.2.2.2.2.2.2.2.2.2.2.2.2))] (va_A [(a0, .inr (12, [.int v0.1, .ref a1, .ref a2, .ref a3, .int v0.2.2.2.2.1, .int v0.2.2.2.2.2.1, .int v0.2.2.2.2.2.2.1, .int v0.2.2.2.2.2.2.2.1, .int v0.2.2.2.2.2.2.2.2.1, .long v0.2.2.2.2.2.2.2.2.2.1, .int v0.2.2.2.2.2.2.2.2.2.2.1, .int v0.2.2.2.2.2.2.2.2.2.2.2.1, .int v0.2.2.2.2.2.2.2.2.2.2.2.2.1, .ref a4, .int v0.2.2.2.2.2.2.2.2.2.2.2.2.2.2.1, .int v0.2.2.2.2.2.2.2.2.2.2.2.2.2.2.2.1, .int v0.2.2.2.2.2.2.2.2.2.2.2.2.2.2.2.2.1, .int v0.2.2.2.2.2.2.2.2.2.2.2.2.2.2.2.2.2.1, .int v0.2.2.2.2.2.2.2.2.2.2.2.2.2.2.2.2.2.2.1, .long v0.2.2.2.2.2.2.2.2.2.2.2.2.2.2.2.2.2.2.2.1, .long v0.2.2.2.2.2.2.2.2.2.2.2.2.2.2.2.2.2.2.2.2.1, .ref a5])), (a1, .inl (ca 0, 4725, .inl v0.2.1)), (a2, .inl (ca 2, 1500, .inl v0.2.2.1)), (a3, .inl (ca 3, 3, .inl v0.2.2.2.1)), (a4, .inl (ca 0, 22, .inl v0.2.2.2.2.2.2.2.2.2.2.2.2.2.1)), (a5, .inl (ca 0, 256, .inl v0.2.2.2.2.2.2.2.2.2.2.2.2.2.2.2.2.2.2.2.2.2))] sz)) 0 0 (va_A [(a0, .inr (12, [.int v0.1, .ref a1, .ref a2, .ref a3, .int v0.2.2.2.2.1, .int v0.2.2.2.2.2.1, .int v0.2.2.2.2.2.2.1, .int v0.2.2.2.2.2.2.2.1, .int v0.2.2.2.2.2.2.2.2.1, .long v0.2.2.2.2.2.2.2.2.2.1, .int v0.2.2.2.2.2.2.2.2.2.2.1, .int v0.2.2.2.2.2.2.2.2.2.2.2.1, .int v0.2.2.2.2.2.2.2.2.2.2.2.2.1, .ref a4, .int v0.2.2.2.2.2.2.2.2.2.2.2.2.2.2.1, .int v0.2.2.2.2.2.2.2.2.2.2.2.2.2.2.2.1, .int v0.2.2.2.2.2.2.2.2.2.2.2.2.2.2.2.2.1, .int v0.2.2.2.2.2.2.2.2.2.2.2.2.2.2.2.2.2.1, .int v0.2.2.2.2.2.2.2.2.2.2.2.2.2.2.2.2.2.2.1, .long v0.2.2.2.2.2.2.2.2.2.2.2.2.2.2.2.2.2.2.2.1, .long v0.2.2.2.2.2.2.2.2.2.2.2.2.2.2.2.2.2.2.2.2.1, .ref a5])), (a1, .inl (ca 0, 4725, .inl v0.2.1)), (a2, .inl (ca 2, 1500, .inl v0.2.2.1)), (a3, .inl (ca 3, 3, .inl v0.2.2.2.1)), (a4, .inl (ca 0, 22, .inl v0.2.2.2.2.2.2.2.2.2.2.2.2.2.1)), (a5, .inl (ca 0, 256, .inl v0.2.2.2.2.2.2.2.2.2.2.2.2.2.2.2.2.2.2.2.2.2))] sz) := by
  refine en (y := yX12_isBad) (wsm := wq_X12_isBad) (av := [.ref a0, .int p1, .int p2]) (cc := cX12_isBad) (maxL := 3) (ret := none) (Qf := fun A => (QV D ca [(a0, .inr (12, [.int v0'.1, .ref a1, .ref a2, .ref a3, .int v0'.2.2.2.2.1, .int v0'.2.2.2.2.2.1, .int v0'.2.2.2.2.2.2.1, .int v0'.2.2.2.2.2.2.2.1, .int v0'.2.2.2.2.2.2.2.2.1, .long v0'.2.2.2.2.2.2.2.2.2.1, .int v0'.2.2.2.2.2.2.2.2.2.2.1, .int v0'.2.2.2.2.2.2.2.2.2.2.2.1, .int v0'.2.2.2.2.2.2.2.2.2.2.2.2.1, .ref a4, .int v0'.2.2.2.2.2.2.2.2.2.2.2.2.2.2.1, .int v0'.2.2.2.2.2.2.2.2.2.2.2.2.2.2.2.1, .int v0'.2.2.2.2.2.2.2.2.2.2.2.2.2.2.2.2.1, .int v0'.2.2.2.2.2.2.2.2.2.2.2.2.2.2.2.2.2.1, .int v0'.2.2.2.2.2.2.2.2.2.2.2.2.2.2.2.2.2.2.1, .long v0'.2.2.2.2.2.2.2.2.2.2.2.2.2.2.2.2.2.2.2.1, .long v0'.2.2.2.2.2.2.2.2.2.2.2.2.2.2.2.2.2.2.2.2.1, .ref a5])), (a1, .inl (ca 0, 4725, .inl v0'.2.1)), (a2, .inl (ca 2, 1500, .inl v0'.2.2.1)), (a3, .inl (ca 3, 3, .inl v0'.2.2.2.1)), (a4, .inl (ca 0, 22, .inl v0'.2.2.2.2.2.2.2.2.2.2.2.2.2.1)), (a5, .inl (ca 0, 256, .inl v0'.2.2.2.2.2.2.2.2.2.2.2.2.2.2.2.2.2.2.2.2.2))] A)) (by decide) rfl (Nat.le_of_ble_eq_true rfl) ?_
  intro p e s m args below meth c A Q ls hx hb hr hml hown hts hlocks hnm hA hN hZ hK hQ hP hD hS hl
  have w0 := hts _ (List.mem_cons_of_mem _ gw_5_127)
  have w1 := hts _ (List.mem_cons_of_mem _ gw_5_126)
  have i12 : ∀ w ∈ u_ws RX12 TX12 22, w ∈ wq_X12_isBad := fun w h => List.mem_cons_of_mem _ (inX12 w h)
  unfold f_X12_isBad at hf
  refine lv_aload_n hx hb dX12_isBad_0 rfl (lv_at hl 0 rfl) ?_
  refine va_get (C := RX12) (T := TX12) (N := 22) hx hb hts i12 hown hK hP 0 rfl rfl 12 (Nat.le_of_ble_eq_true rfl) w0 (fun _ h9 => h9) rfl dX12_isBad_1 ?_
  refine xi_eq (tgt := 31) hx hb dX12_isBad_4 (by decide) hf (fun hf => ?_) (fun hf => ?_)
  · refine lv_aload_n hx hb dX12_isBad_31 rfl (lv_at hl 0 rfl) ?_
    refine lv_iload_n hx hb dX12_isBad_32 rfl (lv_at hl 1 rfl) ?_
    refine xput (C := RX12) (T := TX12) (N := 22) (wx := [(a0, .inr (12, [.int v0.1, .ref a1, .ref a2, .ref a3, .int v0.2.2.2.2.1, .int v0.2.2.2.2.2.1, .int v0.2.2.2.2.2.2.1, .int v0.2.2.2.2.2.2.2.1, .int v0.2.2.2.2.2.2.2.2.1, .long v0.2.2.2.2.2.2.2.2.2.1, .int v0.2.2.2.2.2.2.2.2.2.2.1, .int v0.2.2.2.2.2.2.2.2.2.2.2.1, .int p1, .ref a4, .int v0.2.2.2.2.2.2.2.2.2.2.2.2.2.2.1, .int v0.2.2.2.2.2.2.2.2.2.2.2.2.2.2.2.1, .int v0.2.2.2.2.2.2.2.2.2.2.2.2.2.2.2.2.1, .int v0.2.2.2.2.2.2.2.2.2.2.2.2.2.2.2.2.2.1, .int v0.2.2.2.2.2.2.2.2.2.2.2.2.2.2.2.2.2.2.1, .long v0.2.2.2.2.2.2.2.2.2.2.2.2.2.2.2.2.2.2.2.1, .long v0.2.2.2.2.2.2.2.2.2.2.2.2.2.2.2.2.2.2.2.2.1, .ref a5])), (a1, .inl (ca 0, 4725, .inl v0.2.1)), (a2, .inl (ca 2, 1500, .inl v0.2.2.1)), (a3, .inl (ca 3, 3, .inl v0.2.2.2.1)), (a4, .inl (ca 0, 22, .inl v0.2.2.2.2.2.2.2.2.2.2.2.2.2.1)), (a5, .inl (ca 0, 256, .inl v0.2.2.2.2.2.2.2.2.2.2.2.2.2.2.2.2.2.2.2.2.2))]) hx hb hts i12 tyX12 tyX12_ok nmX12 hown hK hP hD hS 0 rfl rfl 12 (Nat.le_of_ble_eq_true rfl) w0 (fun _ h9 => h9) rfl rfl rfl rfl (Nat.le_of_ble_eq_true rfl) dX12_isBad_33 rfl (fun H locs hP hD hS => ?_)
    refine lv_aload_n hx hb dX12_isBad_36 rfl (lv_at hl 0 rfl) ?_
    refine lv_iload_n hx hb dX12_isBad_37 rfl (lv_at hl 2 rfl) ?_
    refine xput (C := RX12) (T := TX12) (N := 22) (wx := [(a0, .inr (12, [.int v0.1, .ref a1, .ref a2, .ref a3, .int v0.2.2.2.2.1, .int v0.2.2.2.2.2.1, .int v0.2.2.2.2.2.2.1, .int v0.2.2.2.2.2.2.2.1, .int v0.2.2.2.2.2.2.2.2.1, .long v0.2.2.2.2.2.2.2.2.2.1, .int v0.2.2.2.2.2.2.2.2.2.2.1, .int p2, .int p1, .ref a4, .int v0.2.2.2.2.2.2.2.2.2.2.2.2.2.2.1, .int v0.2.2.2.2.2.2.2.2.2.2.2.2.2.2.2.1, .int v0.2.2.2.2.2.2.2.2.2.2.2.2.2.2.2.2.1, .int v0.2.2.2.2.2.2.2.2.2.2.2.2.2.2.2.2.2.1, .int v0.2.2.2.2.2.2.2.2.2.2.2.2.2.2.2.2.2.2.1, .long v0.2.2.2.2.2.2.2.2.2.2.2.2.2.2.2.2.2.2.2.1, .long v0.2.2.2.2.2.2.2.2.2.2.2.2.2.2.2.2.2.2.2.2.1, .ref a5])), (a1, .inl (ca 0, 4725, .inl v0.2.1)), (a2, .inl (ca 2, 1500, .inl v0.2.2.1)), (a3, .inl (ca 3, 3, .inl v0.2.2.2.1)), (a4, .inl (ca 0, 22, .inl v0.2.2.2.2.2.2.2.2.2.2.2.2.2.1)), (a5, .inl (ca 0, 256, .inl v0.2.2.2.2.2.2.2.2.2.2.2.2.2.2.2.2.2.2.2.2.2))]) hx hb hts i12 tyX12 tyX12_ok nmX12 hown hK hP hD hS 0 rfl rfl 11 (Nat.le_of_ble_eq_true rfl) w1 (fun _ h9 => h9) rfl rfl rfl rfl (Nat.le_of_ble_eq_true rfl) dX12_isBad_38 rfl (fun H locs hP hD hS => ?_)
    have he := Option.some.inj hf
    have e_v0 := he
    refine rt_V hx hb hr hlocks hK hP hD hS hQ ?_ dX12_isBad_41
    simp only [← e_v0]
  · refine lv_iload_n hx hb dX12_isBad_7 rfl (lv_at hl 2 rfl) ?_
    refine lv_aload_n hx hb dX12_isBad_8 rfl (lv_at hl 0 rfl) ?_
    refine va_get (C := RX12) (T := TX12) (N := 22) hx hb hts i12 hown hK hP 0 rfl rfl 11 (Nat.le_of_ble_eq_true rfl) w1 (fun _ h9 => h9) rfl dX12_isBad_9 ?_
    refine xc_lt (tgt := 31) hx hb dX12_isBad_12 (by decide) hf (fun hf => ?_) (fun hf => ?_)
    · refine lv_aload_n hx hb dX12_isBad_31 rfl (lv_at hl 0 rfl) ?_
      refine lv_iload_n hx hb dX12_isBad_32 rfl (lv_at hl 1 rfl) ?_
      refine xput (C := RX12) (T := TX12) (N := 22) (wx := [(a0, .inr (12, [.int v0.1, .ref a1, .ref a2, .ref a3, .int v0.2.2.2.2.1, .int v0.2.2.2.2.2.1, .int v0.2.2.2.2.2.2.1, .int v0.2.2.2.2.2.2.2.1, .int v0.2.2.2.2.2.2.2.2.1, .long v0.2.2.2.2.2.2.2.2.2.1, .int v0.2.2.2.2.2.2.2.2.2.2.1, .int v0.2.2.2.2.2.2.2.2.2.2.2.1, .int p1, .ref a4, .int v0.2.2.2.2.2.2.2.2.2.2.2.2.2.2.1, .int v0.2.2.2.2.2.2.2.2.2.2.2.2.2.2.2.1, .int v0.2.2.2.2.2.2.2.2.2.2.2.2.2.2.2.2.1, .int v0.2.2.2.2.2.2.2.2.2.2.2.2.2.2.2.2.2.1, .int v0.2.2.2.2.2.2.2.2.2.2.2.2.2.2.2.2.2.2.1, .long v0.2.2.2.2.2.2.2.2.2.2.2.2.2.2.2.2.2.2.2.1, .long v0.2.2.2.2.2.2.2.2.2.2.2.2.2.2.2.2.2.2.2.2.1, .ref a5])), (a1, .inl (ca 0, 4725, .inl v0.2.1)), (a2, .inl (ca 2, 1500, .inl v0.2.2.1)), (a3, .inl (ca 3, 3, .inl v0.2.2.2.1)), (a4, .inl (ca 0, 22, .inl v0.2.2.2.2.2.2.2.2.2.2.2.2.2.1)), (a5, .inl (ca 0, 256, .inl v0.2.2.2.2.2.2.2.2.2.2.2.2.2.2.2.2.2.2.2.2.2))]) hx hb hts i12 tyX12 tyX12_ok nmX12 hown hK hP hD hS 0 rfl rfl 12 (Nat.le_of_ble_eq_true rfl) w0 (fun _ h9 => h9) rfl rfl rfl rfl (Nat.le_of_ble_eq_true rfl) dX12_isBad_33 rfl (fun H locs hP hD hS => ?_)
      refine lv_aload_n hx hb dX12_isBad_36 rfl (lv_at hl 0 rfl) ?_
      refine lv_iload_n hx hb dX12_isBad_37 rfl (lv_at hl 2 rfl) ?_
      refine xput (C := RX12) (T := TX12) (N := 22) (wx := [(a0, .inr (12, [.int v0.1, .ref a1, .ref a2, .ref a3, .int v0.2.2.2.2.1, .int v0.2.2.2.2.2.1, .int v0.2.2.2.2.2.2.1, .int v0.2.2.2.2.2.2.2.1, .int v0.2.2.2.2.2.2.2.2.1, .long v0.2.2.2.2.2.2.2.2.2.1, .int v0.2.2.2.2.2.2.2.2.2.2.1, .int p2, .int p1, .ref a4, .int v0.2.2.2.2.2.2.2.2.2.2.2.2.2.2.1, .int v0.2.2.2.2.2.2.2.2.2.2.2.2.2.2.2.1, .int v0.2.2.2.2.2.2.2.2.2.2.2.2.2.2.2.2.1, .int v0.2.2.2.2.2.2.2.2.2.2.2.2.2.2.2.2.2.1, .int v0.2.2.2.2.2.2.2.2.2.2.2.2.2.2.2.2.2.2.1, .long v0.2.2.2.2.2.2.2.2.2.2.2.2.2.2.2.2.2.2.2.1, .long v0.2.2.2.2.2.2.2.2.2.2.2.2.2.2.2.2.2.2.2.2.1, .ref a5])), (a1, .inl (ca 0, 4725, .inl v0.2.1)), (a2, .inl (ca 2, 1500, .inl v0.2.2.1)), (a3, .inl (ca 3, 3, .inl v0.2.2.2.1)), (a4, .inl (ca 0, 22, .inl v0.2.2.2.2.2.2.2.2.2.2.2.2.2.1)), (a5, .inl (ca 0, 256, .inl v0.2.2.2.2.2.2.2.2.2.2.2.2.2.2.2.2.2.2.2.2.2))]) hx hb hts i12 tyX12 tyX12_ok nmX12 hown hK hP hD hS 0 rfl rfl 11 (Nat.le_of_ble_eq_true rfl) w1 (fun _ h9 => h9) rfl rfl rfl rfl (Nat.le_of_ble_eq_true rfl) dX12_isBad_38 rfl (fun H locs hP hD hS => ?_)
      have he := Option.some.inj hf
      have e_v0 := he
      refine rt_V hx hb hr hlocks hK hP hD hS hQ ?_ dX12_isBad_41
      simp only [← e_v0]
    · refine lv_iload_n hx hb dX12_isBad_15 rfl (lv_at hl 2 rfl) ?_
      refine lv_aload_n hx hb dX12_isBad_16 rfl (lv_at hl 0 rfl) ?_
      refine va_get (C := RX12) (T := TX12) (N := 22) hx hb hts i12 hown hK hP 0 rfl rfl 11 (Nat.le_of_ble_eq_true rfl) w1 (fun _ h9 => h9) rfl dX12_isBad_17 ?_
      refine xc_ne (tgt := 41) hx hb dX12_isBad_20 (by decide) hf (fun hf => ?_) (fun hf => ?_)
      · have he := Option.some.inj hf
        have e_v0 := he
        refine rt_V hx hb hr hlocks hK hP hD hS hQ ?_ dX12_isBad_41
        simp only [← e_v0]
      · refine lv_iload_n hx hb dX12_isBad_23 rfl (lv_at hl 1 rfl) ?_
        refine lv_aload_n hx hb dX12_isBad_24 rfl (lv_at hl 0 rfl) ?_
        refine va_get (C := RX12) (T := TX12) (N := 22) hx hb hts i12 hown hK hP 0 rfl rfl 12 (Nat.le_of_ble_eq_true rfl) w0 (fun _ h9 => h9) rfl dX12_isBad_25 ?_
        refine xc_ge (tgt := 41) hx hb dX12_isBad_28 (by decide) hf (fun hf => ?_) (fun hf => ?_)
        · have he := Option.some.inj hf
          have e_v0 := he
          refine rt_V hx hb hr hlocks hK hP hD hS hQ ?_ dX12_isBad_41
          simp only [← e_v0]
        · refine lv_aload_n hx hb dX12_isBad_31 rfl (lv_at hl 0 rfl) ?_
          refine lv_iload_n hx hb dX12_isBad_32 rfl (lv_at hl 1 rfl) ?_
          refine xput (C := RX12) (T := TX12) (N := 22) (wx := [(a0, .inr (12, [.int v0.1, .ref a1, .ref a2, .ref a3, .int v0.2.2.2.2.1, .int v0.2.2.2.2.2.1, .int v0.2.2.2.2.2.2.1, .int v0.2.2.2.2.2.2.2.1, .int v0.2.2.2.2.2.2.2.2.1, .long v0.2.2.2.2.2.2.2.2.2.1, .int v0.2.2.2.2.2.2.2.2.2.2.1, .int v0.2.2.2.2.2.2.2.2.2.2.2.1, .int p1, .ref a4, .int v0.2.2.2.2.2.2.2.2.2.2.2.2.2.2.1, .int v0.2.2.2.2.2.2.2.2.2.2.2.2.2.2.2.1, .int v0.2.2.2.2.2.2.2.2.2.2.2.2.2.2.2.2.1, .int v0.2.2.2.2.2.2.2.2.2.2.2.2.2.2.2.2.2.1, .int v0.2.2.2.2.2.2.2.2.2.2.2.2.2.2.2.2.2.2.1, .long v0.2.2.2.2.2.2.2.2.2.2.2.2.2.2.2.2.2.2.2.1, .long v0.2.2.2.2.2.2.2.2.2.2.2.2.2.2.2.2.2.2.2.2.1, .ref a5])), (a1, .inl (ca 0, 4725, .inl v0.2.1)), (a2, .inl (ca 2, 1500, .inl v0.2.2.1)), (a3, .inl (ca 3, 3, .inl v0.2.2.2.1)), (a4, .inl (ca 0, 22, .inl v0.2.2.2.2.2.2.2.2.2.2.2.2.2.1)), (a5, .inl (ca 0, 256, .inl v0.2.2.2.2.2.2.2.2.2.2.2.2.2.2.2.2.2.2.2.2.2))]) hx hb hts i12 tyX12 tyX12_ok nmX12 hown hK hP hD hS 0 rfl rfl 12 (Nat.le_of_ble_eq_true rfl) w0 (fun _ h9 => h9) rfl rfl rfl rfl (Nat.le_of_ble_eq_true rfl) dX12_isBad_33 rfl (fun H locs hP hD hS => ?_)
          refine lv_aload_n hx hb dX12_isBad_36 rfl (lv_at hl 0 rfl) ?_
          refine lv_iload_n hx hb dX12_isBad_37 rfl (lv_at hl 2 rfl) ?_
          refine xput (C := RX12) (T := TX12) (N := 22) (wx := [(a0, .inr (12, [.int v0.1, .ref a1, .ref a2, .ref a3, .int v0.2.2.2.2.1, .int v0.2.2.2.2.2.1, .int v0.2.2.2.2.2.2.1, .int v0.2.2.2.2.2.2.2.1, .int v0.2.2.2.2.2.2.2.2.1, .long v0.2.2.2.2.2.2.2.2.2.1, .int v0.2.2.2.2.2.2.2.2.2.2.1, .int p2, .int p1, .ref a4, .int v0.2.2.2.2.2.2.2.2.2.2.2.2.2.2.1, .int v0.2.2.2.2.2.2.2.2.2.2.2.2.2.2.2.1, .int v0.2.2.2.2.2.2.2.2.2.2.2.2.2.2.2.2.1, .int v0.2.2.2.2.2.2.2.2.2.2.2.2.2.2.2.2.2.1, .int v0.2.2.2.2.2.2.2.2.2.2.2.2.2.2.2.2.2.2.1, .long v0.2.2.2.2.2.2.2.2.2.2.2.2.2.2.2.2.2.2.2.1, .long v0.2.2.2.2.2.2.2.2.2.2.2.2.2.2.2.2.2.2.2.2.1, .ref a5])), (a1, .inl (ca 0, 4725, .inl v0.2.1)), (a2, .inl (ca 2, 1500, .inl v0.2.2.1)), (a3, .inl (ca 3, 3, .inl v0.2.2.2.1)), (a4, .inl (ca 0, 22, .inl v0.2.2.2.2.2.2.2.2.2.2.2.2.2.1)), (a5, .inl (ca 0, 256, .inl v0.2.2.2.2.2.2.2.2.2.2.2.2.2.2.2.2.2.2.2.2.2))]) hx hb hts i12 tyX12 tyX12_ok nmX12 hown hK hP hD hS 0 rfl rfl 11 (Nat.le_of_ble_eq_true rfl) w1 (fun _ h9 => h9) rfl rfl rfl rfl (Nat.le_of_ble_eq_true rfl) dX12_isBad_38 rfl (fun H locs hP hD hS => ?_)
          have he := Option.some.inj hf
          have e_v0 := he
          refine rt_V hx hb hr hlocks hK hP hD hS hQ ?_ dX12_isBad_41
          simp only [← e_v0]
abbrev wq_X12_takes : List Cond := Cond.code yX12_takes cX12_takes 3 (some .boolean) :: GL
set_option maxHeartbeats 4000000 in
set_option maxRecDepth 100000 in
theorem c_X12_takes (l : Launch) (D : va_G) (ca : Nat → ClassId) (zz : Nat → Nat) (a0 a1 a2 a3 a4 a5 : Nat) (sz : Nat) (v0 : V12) (p1 : Int32) (p2 : Int32) (r : Int32) (v0' : V12) (hf : f_X12_takes v0 p1 p2 = some (r, v0')) : Met l yX12_takes wq_X12_takes ({ frames := 2, cells := 0, slots := 0, locals := 44 } : Room) (PR D ca zz [.ref a0, .int p1, .int p2] sz [(a0, .inr (12, [.int v0.1, .ref a1, .ref a2, .ref a3, .int v0.2.2.2.2.1, .int v0.2.2.2.2.2.1, .int v0.2.2.2.2.2.2.1, .int v0.2.2.2.2.2.2.2.1, .int v0.2.2.2.2.2.2.2.2.1, .long v0.2.2.2.2.2.2.2.2.2.1, .int v0.2.2.2.2.2.2.2.2.2.2.1, .int v0.2.2.2.2.2.2.2.2.2.2.2.1, .int v0.2.2.2.2.2.2.2.2.2.2.2.2.1, .ref a4, .int v0.2.2.2.2.2.2.2.2.2.2.2.2.2.2.1, .int v0.2.2.2.2.2.2.2.2.2.2.2.2.2.2.2.1, .int v0.2.2.2.2.2.2.2.2.2.2.2.2.2.2.2.2.1, .int v0.2.2.2.2.2.2.2.2.2.2.2.2.2.2.2.2.2.1, .int v0.2.2.2.2.2.2.2.2.2.2.2.2.2.2.2.2.2.2.1, .long v0.2.2.2.2.2.2.2.2.2.2.2.2.2.2.2.2.2.2.2.1, .long v0.2.2.2.2.2.2.2.2.2.2.2.2.2.2.2.2.2.2.2.2.1, .ref a5])), (a1, .inl (ca 0, 4725, .inl v0.2.1)), (a2, .inl (ca 2, 1500, .inl v0.2.2.1)), (a3, .inl (ca 3, 3, .inl v0.2.2.2.1)), (a4, .inl (ca 0, 22, .inl v0.2.2.2.2.2.2.2.2.2.2.2.2.2.1)), (a5, .inl (ca 0, 256, .inl v0.2.2.2.2.2.2.2.2.2.2.2.2.2.2.2.2.2.2.2.2.2))]) (QI D ca r [(a0, .inr (12, [.int v0'.1, .ref a1, .ref a2, .ref a3, .int v0'.2.2.2.2.1, .int v0'.2.2.2.2.2.1, .int v0'.2.2.2.2.2.2.1, .int v0'.2.2.2.2.2.2.2.1, .int v0'.2.2.2.2.2.2.2.2.1, .long v0'.2.2.2.2.2.2.2.2.2.1, .int v0'.2.2.2.2.2.2.2.2.2.2.1, .int v0'.2.2.2.2.2.2.2.2.2.2.2.1, .int v0'.2.2.2.2.2.2.2.2.2.2.2.2.1, .ref a4, .int v0'.2.2.2.2.2.2.2.2.2.2.2.2.2.2.1, .int v0'.2.2.2.2.2.2.2.2.2.2.2.2.2.2.2.1, .int v0'.2.2.2.2.2.2.2.2.2.2.2.2.2.2.2.2.1, .int v0'.2.2.2.2.2.2.2.2.2.2.2.2.2.2.2.2.2.1, .int v0'.2.2.2.2.2.2.2.2.2.2.2.2.2.2.2.2.2.2.1, .long v0'.2.2.2.2.2.2.2.2.2.2.2.2.2.2.2.2.2.2.2.1, .long v0'.2.2.2.2.2.2.2.2.2.2.2.2.2.2.2.2.2.2.2.2.1, .ref a5])), (a1, .inl (ca 0, 4725, .inl v0'.2.1)), (a2, .inl (ca 2, 1500, .inl v0'.2.2.1)), (a3, .inl (ca 3, 3, .inl v0'.2.2.2.1)), (a4, .inl (ca 0, 22, .inl v0'.2.2.2.2.2.2.2.2.2.2.2.2.2.1)), (a5, .inl (ca 0, 256, .inl v0'.2.2.2.2.2.2.2.2.2.2.2.2.2.2.2.2.2.2.2.2.2))] (va_A [(a0, .inr (12, [.int v0.1, .ref a1, .ref a2, .ref a3, .int v0.2.2.2.2.1, .int v0.2.2.2.2.2.1, .int v0.2.2.2.2.2.2.1, .int v0.2.2.2.2.2.2.2.1, .int v0.2.2.2.2.2.2.2.2.1, .long v0.2.2.2.2.2.2.2.2.2.1, .int v0.2.2.2.2.2.2.2.2.2.2.1, .int v0.2.2.2.2.2.2.2.2.2.2.2.1, .int v0.2.2.2.2.2.2.2.2.2.2.2.2.1, .ref a4, .int v0.2.2.2.2.2.2.2.2.2.2.2.2.2.2.1, .int v0.2.2.2.2.2.2.2.2.2.2.2.2.2.2.2.1, .int v0.2.2.2.2.2.2.2.2.2.2.2.2.2.2.2.2.1, .int v0.2.2.2.2.2.2.2.2.2.2.2.2.2.2.2.2.2.1, .int v0.2.2.2.2.2.2.2.2.2.2.2.2.2.2.2.2.2.2.1, .long v0.2.2.2.2.2.2.2.2.2.2.2.2.2.2.2.2.2.2.2.1, .long v0.2.2.2.2.2.2.2.2.2.2.2.2.2.2.2.2.2.2.2.2.1, .ref a5])), (a1, .inl (ca 0, 4725, .inl v0.2.1)), (a2, .inl (ca 2, 1500, .inl v0.2.2.1)), (a3, .inl (ca 3, 3, .inl v0.2.2.2.1)), (a4, .inl (ca 0, 22, .inl v0.2.2.2.2.2.2.2.2.2.2.2.2.2.1)), (a5, .inl (ca 0, 256, .inl v0.2.2.2.2.2.2.2.2.2.2.2.2.2.2.2.2.2.2.2.2.2))] sz)) 0 0 (va_A [(a0, .inr (12, [.int v0.1, .ref a1, .ref a2, .ref a3, .int v0.2.2.2.2.1, .int v0.2.2.2.2.2.1, .int v0.2.2.2.2.2.2.1, .int v0.2.2.2.2.2.2.2.1, .int v0.2.2.2.2.2.2.2.2.1, .long v0.2.2.2.2.2.2.2.2.2.1, .int v0.2.2.2.2.2.2.2.2.2.2.1, .int v0.2.2.2.2.2.2.2.2.2.2.2.1, .int v0.2.2.2.2.2.2.2.2.2.2.2.2.1, .ref a4, .int v0.2.2.2.2.2.2.2.2.2.2.2.2.2.2.1, .int v0.2.2.2.2.2.2.2.2.2.2.2.2.2.2.2.1, .int v0.2.2.2.2.2.2.2.2.2.2.2.2.2.2.2.2.1, .int v0.2.2.2.2.2.2.2.2.2.2.2.2.2.2.2.2.2.1, .int v0.2.2.2.2.2.2.2.2.2.2.2.2.2.2.2.2.2.2.1, .long v0.2.2.2.2.2.2.2.2.2.2.2.2.2.2.2.2.2.2.2.1, .long v0.2.2.2.2.2.2.2.2.2.2.2.2.2.2.2.2.2.2.2.2.1, .ref a5])), (a1, .inl (ca 0, 4725, .inl v0.2.1)), (a2, .inl (ca 2, 1500, .inl v0.2.2.1)), (a3, .inl (ca 3, 3, .inl v0.2.2.2.1)), (a4, .inl (ca 0, 22, .inl v0.2.2.2.2.2.2.2.2.2.2.2.2.2.1)), (a5, .inl (ca 0, 256, .inl v0.2.2.2.2.2.2.2.2.2.2.2.2.2.2.2.2.2.2.2.2.2))] sz) := by
  refine en (y := yX12_takes) (wsm := wq_X12_takes) (av := [.ref a0, .int p1, .int p2]) (cc := cX12_takes) (maxL := 3) (ret := (some .boolean)) (Qf := fun A => (QI D ca r [(a0, .inr (12, [.int v0'.1, .ref a1, .ref a2, .ref a3, .int v0'.2.2.2.2.1, .int v0'.2.2.2.2.2.1, .int v0'.2.2.2.2.2.2.1, .int v0'.2.2.2.2.2.2.2.1, .int v0'.2.2.2.2.2.2.2.2.1, .long v0'.2.2.2.2.2.2.2.2.2.1, .int v0'.2.2.2.2.2.2.2.2.2.2.1, .int v0'.2.2.2.2.2.2.2.2.2.2.2.1, .int v0'.2.2.2.2.2.2.2.2.2.2.2.2.1, .ref a4, .int v0'.2.2.2.2.2.2.2.2.2.2.2.2.2.2.1, .int v0'.2.2.2.2.2.2.2.2.2.2.2.2.2.2.2.1, .int v0'.2.2.2.2.2.2.2.2.2.2.2.2.2.2.2.2.1, .int v0'.2.2.2.2.2.2.2.2.2.2.2.2.2.2.2.2.2.1, .int v0'.2.2.2.2.2.2.2.2.2.2.2.2.2.2.2.2.2.2.1, .long v0'.2.2.2.2.2.2.2.2.2.2.2.2.2.2.2.2.2.2.2.1, .long v0'.2.2.2.2.2.2.2.2.2.2.2.2.2.2.2.2.2.2.2.2.1, .ref a5])), (a1, .inl (ca 0, 4725, .inl v0'.2.1)), (a2, .inl (ca 2, 1500, .inl v0'.2.2.1)), (a3, .inl (ca 3, 3, .inl v0'.2.2.2.1)), (a4, .inl (ca 0, 22, .inl v0'.2.2.2.2.2.2.2.2.2.2.2.2.2.1)), (a5, .inl (ca 0, 256, .inl v0'.2.2.2.2.2.2.2.2.2.2.2.2.2.2.2.2.2.2.2.2.2))] A)) (by decide) rfl (Nat.le_of_ble_eq_true rfl) ?_
  intro p e s m args below meth c A Q ls hx hb hr hml hown hts hlocks hnm hA hN hZ hK hQ hP hD hS hl
  have w0 := hts _ (List.mem_cons_of_mem _ gw_5_122)
  have w1 := hts _ (List.mem_cons_of_mem _ gw_5_123)
  have w2 := hts _ (List.mem_cons_of_mem _ gw_5_129)
  have w3 := hts _ (List.mem_cons_of_mem _ gw_5_121)
  have i12 : ∀ w ∈ u_ws RX12 TX12 22, w ∈ wq_X12_takes := fun w h => List.mem_cons_of_mem _ (inX12 w h)
  have b42 : ∀ (v0 : V12), fc_X12_takes_42 v0 = some (r, v0') → ∀ (H : Heap) (locs : List Loc) (ls : Array Slot), va_P D vwCl [(a0, .inr (12, [.int v0.1, .ref a1, .ref a2, .ref a3, .int v0.2.2.2.2.1, .int v0.2.2.2.2.2.1, .int v0.2.2.2.2.2.2.1, .int v0.2.2.2.2.2.2.2.1, .int v0.2.2.2.2.2.2.2.2.1, .long v0.2.2.2.2.2.2.2.2.2.1, .int v0.2.2.2.2.2.2.2.2.2.2.1, .int v0.2.2.2.2.2.2.2.2.2.2.2.1, .int v0.2.2.2.2.2.2.2.2.2.2.2.2.1, .ref a4, .int v0.2.2.2.2.2.2.2.2.2.2.2.2.2.2.1, .int v0.2.2.2.2.2.2.2.2.2.2.2.2.2.2.2.1, .int v0.2.2.2.2.2.2.2.2.2.2.2.2.2.2.2.2.1, .int v0.2.2.2.2.2.2.2.2.2.2.2.2.2.2.2.2.2.1, .int v0.2.2.2.2.2.2.2.2.2.2.2.2.2.2.2.2.2.2.1, .long v0.2.2.2.2.2.2.2.2.2.2.2.2.2.2.2.2.2.2.2.1, .long v0.2.2.2.2.2.2.2.2.2.2.2.2.2.2.2.2.2.2.2.2.1, .ref a5])), (a1, .inl (ca 0, 4725, .inl v0.2.1)), (a2, .inl (ca 2, 1500, .inl v0.2.2.1)), (a3, .inl (ca 3, 3, .inl v0.2.2.2.1)), (a4, .inl (ca 0, 22, .inl v0.2.2.2.2.2.2.2.2.2.2.2.2.2.1)), (a5, .inl (ca 0, 256, .inl v0.2.2.2.2.2.2.2.2.2.2.2.2.2.2.2.2.2.2.2.2.2))] H → va_D A [(a0, .inr (12, [.int v0.1, .ref a1, .ref a2, .ref a3, .int v0.2.2.2.2.1, .int v0.2.2.2.2.2.1, .int v0.2.2.2.2.2.2.1, .int v0.2.2.2.2.2.2.2.1, .int v0.2.2.2.2.2.2.2.2.1, .long v0.2.2.2.2.2.2.2.2.2.1, .int v0.2.2.2.2.2.2.2.2.2.2.1, .int v0.2.2.2.2.2.2.2.2.2.2.2.1, .int v0.2.2.2.2.2.2.2.2.2.2.2.2.1, .ref a4, .int v0.2.2.2.2.2.2.2.2.2.2.2.2.2.2.1, .int v0.2.2.2.2.2.2.2.2.2.2.2.2.2.2.2.1, .int v0.2.2.2.2.2.2.2.2.2.2.2.2.2.2.2.2.1, .int v0.2.2.2.2.2.2.2.2.2.2.2.2.2.2.2.2.2.1, .int v0.2.2.2.2.2.2.2.2.2.2.2.2.2.2.2.2.2.2.1, .long v0.2.2.2.2.2.2.2.2.2.2.2.2.2.2.2.2.2.2.2.1, .long v0.2.2.2.2.2.2.2.2.2.2.2.2.2.2.2.2.2.2.2.2.1, .ref a5])), (a1, .inl (ca 0, 4725, .inl v0.2.1)), (a2, .inl (ca 2, 1500, .inl v0.2.2.1)), (a3, .inl (ca 3, 3, .inl v0.2.2.2.1)), (a4, .inl (ca 0, 22, .inl v0.2.2.2.2.2.2.2.2.2.2.2.2.2.1)), (a5, .inl (ca 0, 256, .inl v0.2.2.2.2.2.2.2.2.2.2.2.2.2.2.2.2.2.2.2.2.2))] → va_S A s.heap H locs → lv_has ls 3 [(0, .ref a0)] → W p l e ({ frames := 2, cells := 0, slots := 0, locals := 44 } : Room) s m args below meth c H locs 0 0 Q (F0 m 42 ls []) := by
    intro v0 hf H locs ls hP hD hS hl
    unfold fc_X12_takes_42 at hf
    refine lv_aload_n hx hb dX12_takes_42 rfl (lv_at hl 0 rfl) ?_
    obtain ⟨u_2, hc2, hf⟩ := bnd1_el hf
    refine xV_V (As := []) (wx := [(a0, .inr (12, [.int u_2.1, .ref a1, .ref a2, .ref a3, .int u_2.2.2.2.2.1, .int u_2.2.2.2.2.2.1, .int u_2.2.2.2.2.2.2.1, .int u_2.2.2.2.2.2.2.2.1, .int u_2.2.2.2.2.2.2.2.2.1, .long u_2.2.2.2.2.2.2.2.2.2.1, .int u_2.2.2.2.2.2.2.2.2.2.2.1, .int u_2.2.2.2.2.2.2.2.2.2.2.2.1, .int u_2.2.2.2.2.2.2.2.2.2.2.2.2.1, .ref a4, .int u_2.2.2.2.2.2.2.2.2.2.2.2.2.2.2.1, .int u_2.2.2.2.2.2.2.2.2.2.2.2.2.2.2.2.1, .int u_2.2.2.2.2.2.2.2.2.2.2.2.2.2.2.2.2.1, .int u_2.2.2.2.2.2.2.2.2.2.2.2.2.2.2.2.2.2.1, .int u_2.2.2.2.2.2.2.2.2.2.2.2.2.2.2.2.2.2.2.1, .long u_2.2.2.2.2.2.2.2.2.2.2.2.2.2.2.2.2.2.2.2.1, .long u_2.2.2.2.2.2.2.2.2.2.2.2.2.2.2.2.2.2.2.2.2.1, .ref a5])), (a1, .inl (ca 0, 4725, .inl u_2.2.1)), (a2, .inl (ca 2, 1500, .inl u_2.2.2.1)), (a3, .inl (ca 3, 3, .inl u_2.2.2.2.1)), (a4, .inl (ca 0, 22, .inl u_2.2.2.2.2.2.2.2.2.2.2.2.2.2.1)), (a5, .inl (ca 0, 256, .inl u_2.2.2.2.2.2.2.2.2.2.2.2.2.2.2.2.2.2.2.2.2.2))]) ⟨hx, hb, hml, hown, hts⟩ (c_X12_token l D ca zz a0 a1 a2 a3 a4 a5 _ v0 u_2 hc2) (cwV 0 hts (gV gw_5_192 gw_5_194 gw_s_2_12 gw_1_15 gw_5_195) rfl rfl rfl (by decide +kernel) ⟨(Nat.le_of_ble_eq_true rfl), (Nat.le_of_ble_eq_true rfl)⟩) hK hN hZ hA hP hD hS [0, 1, 2, 3, 4, 5] [some 0, some 1, some 2, some 3, some 4, some 5] (by decide +kernel) rfl rfl rfl rfl 0 rfl rfl hl.1 rfl (Nat.le_of_ble_eq_true rfl) dX12_takes_43 ⟨Nat.zero_le _, Nat.zero_le _⟩ rfl (fun H locs hP hD hS => ?_)
    refine lv_iconst (v := 1) hx hb dX12_takes_46 rfl ?_
    have he := Option.some.inj hf
    obtain ⟨e_r, he⟩ := Prod.mk.inj he
    have e_v0 := he
    refine rt_Z hx hb hr hlocks hK hP hD hS hQ (Or.inr rfl) e_r ?_ dX12_takes_47
    simp only [← e_v0]
  unfold f_X12_takes at hf
  refine lv_aload_n hx hb dX12_takes_0 rfl (lv_at hl 0 rfl) ?_
  refine va_get (C := RX12) (T := TX12) (N := 22) hx hb hts i12 hown hK hP 0 rfl rfl 7 (Nat.le_of_ble_eq_true rfl) w0 (fun _ h9 => h9) rfl dX12_takes_1 ?_
  refine lv_iconst (v := 3) hx hb dX12_takes_4 rfl ?_
  refine xc_eq (tgt := 13) hx hb dX12_takes_5 (by decide) hf (fun hf => ?_) (fun hf => ?_)
  · refine lv_aload_n hx hb dX12_takes_13 rfl (lv_at hl 0 rfl) ?_
    refine lv_aload_n hx hb dX12_takes_14 rfl (lv_at hl 0 rfl) ?_
    refine va_get (C := RX12) (T := TX12) (N := 22) hx hb hts i12 hown hK hP 0 rfl rfl 8 (Nat.le_of_ble_eq_true rfl) w1 (fun _ h9 => h9) rfl dX12_takes_15 ?_
    refine xput (C := RX12) (T := TX12) (N := 22) (wx := [(a0, .inr (12, [.int v0.1, .ref a1, .ref a2, .ref a3, .int v0.2.2.2.2.1, .int v0.2.2.2.2.2.1, .int v0.2.2.2.2.2.2.1, .int v0.2.2.2.2.2.2.2.1, .int v0.2.2.2.2.2.2.2.2.1, .long v0.2.2.2.2.2.2.2.2.2.1, .int v0.2.2.2.2.2.2.2.2.2.2.1, .int v0.2.2.2.2.2.2.2.2.2.2.2.1, .int v0.2.2.2.2.2.2.2.2.2.2.2.2.1, .ref a4, .int v0.2.2.2.2.2.2.2.2.1, .int v0.2.2.2.2.2.2.2.2.2.2.2.2.2.2.2.1, .int v0.2.2.2.2.2.2.2.2.2.2.2.2.2.2.2.2.1, .int v0.2.2.2.2.2.2.2.2.2.2.2.2.2.2.2.2.2.1, .int v0.2.2.2.2.2.2.2.2.2.2.2.2.2.2.2.2.2.2.1, .long v0.2.2.2.2.2.2.2.2.2.2.2.2.2.2.2.2.2.2.2.1, .long v0.2.2.2.2.2.2.2.2.2.2.2.2.2.2.2.2.2.2.2.2.1, .ref a5])), (a1, .inl (ca 0, 4725, .inl v0.2.1)), (a2, .inl (ca 2, 1500, .inl v0.2.2.1)), (a3, .inl (ca 3, 3, .inl v0.2.2.2.1)), (a4, .inl (ca 0, 22, .inl v0.2.2.2.2.2.2.2.2.2.2.2.2.2.1)), (a5, .inl (ca 0, 256, .inl v0.2.2.2.2.2.2.2.2.2.2.2.2.2.2.2.2.2.2.2.2.2))]) hx hb hts i12 tyX12 tyX12_ok nmX12 hown hK hP hD hS 0 rfl rfl 14 (Nat.le_of_ble_eq_true rfl) w2 (fun _ h9 => h9) rfl rfl rfl rfl (Nat.le_of_ble_eq_true rfl) dX12_takes_18 rfl (fun H locs hP hD hS => ?_)
    refine lv_aload_n hx hb dX12_takes_21 rfl (lv_at hl 0 rfl) ?_
    refine va_get (C := RX12) (T := TX12) (N := 22) hx hb hts i12 hown hK hP 0 rfl rfl 8 (Nat.le_of_ble_eq_true rfl) w1 (fun _ h9 => h9) rfl dX12_takes_22 ?_
    refine lv_iload_n hx hb dX12_takes_25 rfl (lv_at hl 1 rfl) ?_
    refine lv_iload_n hx hb dX12_takes_26 rfl (lv_at hl 2 rfl) ?_
    obtain ⟨r_1, hc1, hf⟩ := bnd1_el hf
    refine xS_I (As := [.int v0.2.2.2.2.2.2.2.2.1, .int p1, .int p2]) (wx := [(a0, .inr (12, [.int v0.1, .ref a1, .ref a2, .ref a3, .int v0.2.2.2.2.1, .int v0.2.2.2.2.2.1, .int v0.2.2.2.2.2.2.1, .int v0.2.2.2.2.2.2.2.1, .int v0.2.2.2.2.2.2.2.2.1, .long v0.2.2.2.2.2.2.2.2.2.1, .int v0.2.2.2.2.2.2.2.2.2.2.1, .int v0.2.2.2.2.2.2.2.2.2.2.2.1, .int v0.2.2.2.2.2.2.2.2.2.2.2.2.1, .ref a4, .int v0.2.2.2.2.2.2.2.2.1, .int v0.2.2.2.2.2.2.2.2.2.2.2.2.2.2.2.1, .int v0.2.2.2.2.2.2.2.2.2.2.2.2.2.2.2.2.1, .int v0.2.2.2.2.2.2.2.2.2.2.2.2.2.2.2.2.2.1, .int v0.2.2.2.2.2.2.2.2.2.2.2.2.2.2.2.2.2.2.1, .long v0.2.2.2.2.2.2.2.2.2.2.2.2.2.2.2.2.2.2.2.1, .long v0.2.2.2.2.2.2.2.2.2.2.2.2.2.2.2.2.2.2.2.2.1, .ref a5])), (a1, .inl (ca 0, 4725, .inl v0.2.1)), (a2, .inl (ca 2, 1500, .inl v0.2.2.1)), (a3, .inl (ca 3, 3, .inl v0.2.2.2.1)), (a4, .inl (ca 0, 22, .inl v0.2.2.2.2.2.2.2.2.2.2.2.2.2.1)), (a5, .inl (ca 0, 256, .inl v0.2.2.2.2.2.2.2.2.2.2.2.2.2.2.2.2.2.2.2.2.2))]) ⟨hx, hb, hml, hown, hts⟩ (c_X12_in l D ca zz  _ v0.2.2.2.2.2.2.2.2.1 p1 p2 r_1 hc1) (va_cwS 3 hts (gS gw_5_200 gw_5_201 gw_1_15 gw_5_202) rfl rfl rfl (by decide +kernel) ⟨(Nat.le_of_ble_eq_true rfl), (Nat.le_of_ble_eq_true rfl)⟩) hK hN hZ hA hP hD hS [] [none, none, none, none, none, none] (by decide +kernel) rfl rfl rfl rfl hl.1 rfl (Nat.le_of_ble_eq_true rfl) dX12_takes_27 ⟨Nat.zero_le _, Nat.zero_le _⟩ rfl (fun H locs hP hD hS => ?_)
    refine xi_ne (tgt := 42) hx hb dX12_takes_30 (by decide) hf (fun hf => ?_) (fun hf => ?_)
    · have jb := b42 ((v0.1, v0.2.1, v0.2.2.1, v0.2.2.2.1, v0.2.2.2.2.1, v0.2.2.2.2.2.1, v0.2.2.2.2.2.2.1, v0.2.2.2.2.2.2.2.1, v0.2.2.2.2.2.2.2.2.1, v0.2.2.2.2.2.2.2.2.2.1, v0.2.2.2.2.2.2.2.2.2.2.1, v0.2.2.2.2.2.2.2.2.2.2.2.1, v0.2.2.2.2.2.2.2.2.2.2.2.2.1, v0.2.2.2.2.2.2.2.2.2.2.2.2.2.1, v0.2.2.2.2.2.2.2.2.1, v0.2.2.2.2.2.2.2.2.2.2.2.2.2.2.2))
      dsimp only at jb
      exact jb hf _ _ _ hP hD hS (lv_sub hl [0] rfl)
    · refine lv_aload_n hx hb dX12_takes_33 rfl (lv_at hl 0 rfl) ?_
      refine lv_iconst (v := 2) hx hb dX12_takes_34 rfl ?_
      refine lv_aload_n hx hb dX12_takes_35 rfl (lv_at hl 0 rfl) ?_
      refine va_get (C := RX12) (T := TX12) (N := 22) hx hb hts i12 hown hK hP 0 rfl rfl 6 (Nat.le_of_ble_eq_true rfl) w3 (fun _ h9 => h9) rfl dX12_takes_36 ?_
      obtain ⟨u_3, hc3, hf⟩ := bnd1_el hf
      have hMhc3 := fun sz => c_X12_isBad l D ca zz a0 a1 a2 a3 a4 a5 sz ((v0.1, v0.2.1, v0.2.2.1, v0.2.2.2.1, v0.2.2.2.2.1, v0.2.2.2.2.2.1, v0.2.2.2.2.2.2.1, v0.2.2.2.2.2.2.2.1, v0.2.2.2.2.2.2.2.2.1, v0.2.2.2.2.2.2.2.2.2.1, v0.2.2.2.2.2.2.2.2.2.2.1, v0.2.2.2.2.2.2.2.2.2.2.2.1, v0.2.2.2.2.2.2.2.2.2.2.2.2.1, v0.2.2.2.2.2.2.2.2.2.2.2.2.2.1, v0.2.2.2.2.2.2.2.2.1, v0.2.2.2.2.2.2.2.2.2.2.2.2.2.2.2)) (2 : Int32) v0.2.2.2.2.2.2.1 u_3 hc3
      dsimp only at hMhc3
      refine xV_V (As := [.int (2 : Int32), .int v0.2.2.2.2.2.2.1]) (wx := [(a0, .inr (12, [.int u_3.1, .ref a1, .ref a2, .ref a3, .int u_3.2.2.2.2.1, .int u_3.2.2.2.2.2.1, .int u_3.2.2.2.2.2.2.1, .int u_3.2.2.2.2.2.2.2.1, .int u_3.2.2.2.2.2.2.2.2.1, .long u_3.2.2.2.2.2.2.2.2.2.1, .int u_3.2.2.2.2.2.2.2.2.2.2.1, .int u_3.2.2.2.2.2.2.2.2.2.2.2.1, .int u_3.2.2.2.2.2.2.2.2.2.2.2.2.1, .ref a4, .int u_3.2.2.2.2.2.2.2.2.2.2.2.2.2.2.1, .int u_3.2.2.2.2.2.2.2.2.2.2.2.2.2.2.2.1, .int u_3.2.2.2.2.2.2.2.2.2.2.2.2.2.2.2.2.1, .int u_3.2.2.2.2.2.2.2.2.2.2.2.2.2.2.2.2.2.1, .int u_3.2.2.2.2.2.2.2.2.2.2.2.2.2.2.2.2.2.2.1, .long u_3.2.2.2.2.2.2.2.2.2.2.2.2.2.2.2.2.2.2.2.1, .long u_3.2.2.2.2.2.2.2.2.2.2.2.2.2.2.2.2.2.2.2.2.1, .ref a5])), (a1, .inl (ca 0, 4725, .inl u_3.2.1)), (a2, .inl (ca 2, 1500, .inl u_3.2.2.1)), (a3, .inl (ca 3, 3, .inl u_3.2.2.2.1)), (a4, .inl (ca 0, 22, .inl u_3.2.2.2.2.2.2.2.2.2.2.2.2.2.1)), (a5, .inl (ca 0, 256, .inl u_3.2.2.2.2.2.2.2.2.2.2.2.2.2.2.2.2.2.2.2.2.2))]) ⟨hx, hb, hml, hown, hts⟩ (hMhc3 _) (cwV 2 hts (gV gw_5_212 gw_5_214 gw_s_3_0 gw_1_15 gw_5_215) rfl rfl rfl (by decide +kernel) ⟨(Nat.le_of_ble_eq_true rfl), (Nat.le_of_ble_eq_true rfl)⟩) hK hN hZ hA hP hD hS [0, 1, 2, 3, 4, 5] [some 0, some 1, some 2, some 3, some 4, some 5] (by decide +kernel) rfl rfl rfl rfl 0 rfl rfl hl.1 rfl (Nat.le_of_ble_eq_true rfl) dX12_takes_39 ⟨Nat.zero_le _, Nat.zero_le _⟩ rfl (fun H locs hP hD hS => ?_)
      exact b42 u_3 hf _ _ _ hP hD hS (lv_sub hl [0] rfl)
  · refine lv_aload_n hx hb dX12_takes_8 rfl (lv_at hl 0 rfl) ?_
    obtain ⟨r_4, u_5, hc5, hf⟩ := bnd2_el hf
    refine xV_I (As := []) (wx := [(a0, .inr (12, [.int u_5.1, .ref a1, .ref a2, .ref a3, .int u_5.2.2.2.2.1, .int u_5.2.2.2.2.2.1, .int u_5.2.2.2.2.2.2.1, .int u_5.2.2.2.2.2.2.2.1, .int u_5.2.2.2.2.2.2.2.2.1, .long u_5.2.2.2.2.2.2.2.2.2.1, .int u_5.2.2.2.2.2.2.2.2.2.2.1, .int u_5.2.2.2.2.2.2.2.2.2.2.2.1, .int u_5.2.2.2.2.2.2.2.2.2.2.2.2.1, .ref a4, .int u_5.2.2.2.2.2.2.2.2.2.2.2.2.2.2.1, .int u_5.2.2.2.2.2.2.2.2.2.2.2.2.2.2.2.1, .int u_5.2.2.2.2.2.2.2.2.2.2.2.2.2.2.2.2.1, .int u_5.2.2.2.2.2.2.2.2.2.2.2.2.2.2.2.2.2.1, .int u_5.2.2.2.2.2.2.2.2.2.2.2.2.2.2.2.2.2.2.1, .long u_5.2.2.2.2.2.2.2.2.2.2.2.2.2.2.2.2.2.2.2.1, .long u_5.2.2.2.2.2.2.2.2.2.2.2.2.2.2.2.2.2.2.2.2.1, .ref a5])), (a1, .inl (ca 0, 4725, .inl u_5.2.1)), (a2, .inl (ca 2, 1500, .inl u_5.2.2.1)), (a3, .inl (ca 3, 3, .inl u_5.2.2.2.1)), (a4, .inl (ca 0, 22, .inl u_5.2.2.2.2.2.2.2.2.2.2.2.2.2.1)), (a5, .inl (ca 0, 256, .inl u_5.2.2.2.2.2.2.2.2.2.2.2.2.2.2.2.2.2.2.2.2.2))]) ⟨hx, hb, hml, hown, hts⟩ (c_X12_fails l D ca zz a0 a1 a2 a3 a4 a5 _ v0 r_4 u_5 hc5) (cwV 0 hts (gV gw_5_220 gw_5_222 gw_s_3_2 gw_1_15 gw_5_223) rfl rfl rfl (by decide +kernel) ⟨(Nat.le_of_ble_eq_true rfl), (Nat.le_of_ble_eq_true rfl)⟩) hK hN hZ hA hP hD hS [0, 1, 2, 3, 4, 5] [some 0, some 1, some 2, some 3, some 4, some 5] (by decide +kernel) rfl rfl rfl rfl 0 rfl rfl hl.1 rfl (Nat.le_of_ble_eq_true rfl) dX12_takes_9 ⟨Nat.zero_le _, Nat.zero_le _⟩ rfl (fun H locs hP hD hS => ?_)
    obtain ⟨hbo, hf⟩ := chkbo_el hf
    have he := Option.some.inj hf
    obtain ⟨e_r, he⟩ := Prod.mk.inj he
    have e_v0 := he
    refine rt_Z hx hb hr hlocks hK hP hD hS hQ hbo e_r ?_ dX12_takes_12
    simp only [← e_v0]
abbrev wq_X12_settingOf : List Cond := Cond.code yX12_settingOf cX12_settingOf 2 (some .int) :: GL
set_option maxHeartbeats 4000000 in
set_option maxRecDepth 100000 in
theorem c_X12_settingOf (l : Launch) (D : va_G) (ca : Nat → ClassId) (zz : Nat → Nat) (sz : Nat) (p0 : Int64) (r : Int32) (hf : f_X12_settingOf p0 = some r) : Met l yX12_settingOf wq_X12_settingOf ({ frames := 0, cells := 0, slots := 0, locals := 0 } : Room) (PR D ca zz [.long p0] sz []) (QI D ca r [] (va_A [] sz)) 0 0 (va_A [] sz) := by
  refine en (y := yX12_settingOf) (wsm := wq_X12_settingOf) (av := [.long p0]) (cc := cX12_settingOf) (maxL := 2) (ret := (some .int)) (Qf := fun A => (QI D ca r [] A)) (by decide) rfl (Nat.le_of_ble_eq_true rfl) ?_
  intro p e s m args below meth c A Q ls hx hb hr hml hown hts hlocks hnm hA hN hZ hK hQ hP hD hS hl
  have w0 := hts _ (List.mem_cons_of_mem _ gw_5_227)
  have w1 := hts _ (List.mem_cons_of_mem _ gw_5_228)
  have w2 := hts _ (List.mem_cons_of_mem _ gw_5_229)
  have w3 := hts _ (List.mem_cons_of_mem _ gw_5_230)
  have w4 := hts _ (List.mem_cons_of_mem _ gw_5_231)
  have w5 := hts _ (List.mem_cons_of_mem _ gw_5_232)
  have w6 := hts _ (List.mem_cons_of_mem _ gw_5_233)
  have w7 := hts _ (List.mem_cons_of_mem _ gw_5_234)
  have w8 := hts _ (List.mem_cons_of_mem _ gw_5_235)
  unfold f_X12_settingOf at hf
  refine lv_lload_n hx hb dX12_settingOf_0 rfl (lv_at hl 0 rfl) ?_
  refine lv_ldc2 hx hb hown w0 dX12_settingOf_1 ?_
  refine xl_ne (tgt := 12) hx hb dX12_settingOf_4 dX12_settingOf_5 (by decide) hf (fun hf => ?_) (fun hf => ?_)
  · refine lv_lload_n hx hb dX12_settingOf_12 rfl (lv_at hl 0 rfl) ?_
    refine lv_ldc2 hx hb hown w1 dX12_settingOf_13 ?_
    refine xl_ne (tgt := 24) hx hb dX12_settingOf_16 dX12_settingOf_17 (by decide) hf (fun hf => ?_) (fun hf => ?_)
    · refine lv_lload_n hx hb dX12_settingOf_24 rfl (lv_at hl 0 rfl) ?_
      refine lv_ldc2 hx hb hown w2 dX12_settingOf_25 ?_
      refine xl_ne (tgt := 36) hx hb dX12_settingOf_28 dX12_settingOf_29 (by decide) hf (fun hf => ?_) (fun hf => ?_)
      · refine lv_lload_n hx hb dX12_settingOf_36 rfl (lv_at hl 0 rfl) ?_
        refine lv_ldc2 hx hb hown w3 dX12_settingOf_37 ?_
        refine xl_ne (tgt := 48) hx hb dX12_settingOf_40 dX12_settingOf_41 (by decide) hf (fun hf => ?_) (fun hf => ?_)
        · refine lv_lload_n hx hb dX12_settingOf_48 rfl (lv_at hl 0 rfl) ?_
          refine lv_ldc2 hx hb hown w4 dX12_settingOf_49 ?_
          refine xl_ne (tgt := 60) hx hb dX12_settingOf_52 dX12_settingOf_53 (by decide) hf (fun hf => ?_) (fun hf => ?_)
          · refine lv_lload_n hx hb dX12_settingOf_60 rfl (lv_at hl 0 rfl) ?_
            refine lv_ldc2 hx hb hown w5 dX12_settingOf_61 ?_
            refine xl_ne (tgt := 72) hx hb dX12_settingOf_64 dX12_settingOf_65 (by decide) hf (fun hf => ?_) (fun hf => ?_)
            · refine lv_lload_n hx hb dX12_settingOf_72 rfl (lv_at hl 0 rfl) ?_
              refine lv_ldc2 hx hb hown w6 dX12_settingOf_73 ?_
              refine xl_ne (tgt := 85) hx hb dX12_settingOf_76 dX12_settingOf_77 (by decide) hf (fun hf => ?_) (fun hf => ?_)
              · refine lv_lload_n hx hb dX12_settingOf_85 rfl (lv_at hl 0 rfl) ?_
                refine lv_ldc2 hx hb hown w7 dX12_settingOf_86 ?_
                refine xl_ne (tgt := 98) hx hb dX12_settingOf_89 dX12_settingOf_90 (by decide) hf (fun hf => ?_) (fun hf => ?_)
                · refine lv_lload_n hx hb dX12_settingOf_98 rfl (lv_at hl 0 rfl) ?_
                  refine lv_ldc2 hx hb hown w8 dX12_settingOf_99 ?_
                  refine xl_ne (tgt := 111) hx hb dX12_settingOf_102 dX12_settingOf_103 (by decide) hf (fun hf => ?_) (fun hf => ?_)
                  · refine lv_iconst (v := -1) hx hb dX12_settingOf_111 rfl ?_
                    have he := Option.some.inj hf
                    have e_r := he
                    refine rt_I hx hb hr hlocks hK hP hD hS hQ e_r ?_ dX12_settingOf_112
                    rfl
                  · refine lv_bipush (v := 8) hx hb dX12_settingOf_106 rfl ?_
                    refine lv_goto (tgt := 112) hx hb dX12_settingOf_108 (by decide) ?_
                    have he := Option.some.inj hf
                    have e_r := he
                    refine rt_I hx hb hr hlocks hK hP hD hS hQ e_r ?_ dX12_settingOf_112
                    rfl
                · refine lv_bipush (v := 7) hx hb dX12_settingOf_93 rfl ?_
                  refine lv_goto (tgt := 112) hx hb dX12_settingOf_95 (by decide) ?_
                  have he := Option.some.inj hf
                  have e_r := he
                  refine rt_I hx hb hr hlocks hK hP hD hS hQ e_r ?_ dX12_settingOf_112
                  rfl
              · refine lv_bipush (v := 6) hx hb dX12_settingOf_80 rfl ?_
                refine lv_goto (tgt := 112) hx hb dX12_settingOf_82 (by decide) ?_
                have he := Option.some.inj hf
                have e_r := he
                refine rt_I hx hb hr hlocks hK hP hD hS hQ e_r ?_ dX12_settingOf_112
                rfl
            · refine lv_iconst (v := 5) hx hb dX12_settingOf_68 rfl ?_
              refine lv_goto (tgt := 112) hx hb dX12_settingOf_69 (by decide) ?_
              have he := Option.some.inj hf
              have e_r := he
              refine rt_I hx hb hr hlocks hK hP hD hS hQ e_r ?_ dX12_settingOf_112
              rfl
          · refine lv_iconst (v := 4) hx hb dX12_settingOf_56 rfl ?_
            refine lv_goto (tgt := 112) hx hb dX12_settingOf_57 (by decide) ?_
            have he := Option.some.inj hf
            have e_r := he
            refine rt_I hx hb hr hlocks hK hP hD hS hQ e_r ?_ dX12_settingOf_112
            rfl
        · refine lv_iconst (v := 3) hx hb dX12_settingOf_44 rfl ?_
          refine lv_goto (tgt := 112) hx hb dX12_settingOf_45 (by decide) ?_
          have he := Option.some.inj hf
          have e_r := he
          refine rt_I hx hb hr hlocks hK hP hD hS hQ e_r ?_ dX12_settingOf_112
          rfl
      · refine lv_iconst (v := 2) hx hb dX12_settingOf_32 rfl ?_
        refine lv_goto (tgt := 112) hx hb dX12_settingOf_33 (by decide) ?_
        have he := Option.some.inj hf
        have e_r := he
        refine rt_I hx hb hr hlocks hK hP hD hS hQ e_r ?_ dX12_settingOf_112
        rfl
    · refine lv_iconst (v := 1) hx hb dX12_settingOf_20 rfl ?_
      refine lv_goto (tgt := 112) hx hb dX12_settingOf_21 (by decide) ?_
      have he := Option.some.inj hf
      have e_r := he
      refine rt_I hx hb hr hlocks hK hP hD hS hQ e_r ?_ dX12_settingOf_112
      rfl
  · refine lv_iconst (v := 0) hx hb dX12_settingOf_8 rfl ?_
    refine lv_goto (tgt := 112) hx hb dX12_settingOf_9 (by decide) ?_
    have he := Option.some.inj hf
    have e_r := he
    refine rt_I hx hb hr hlocks hK hP hD hS hQ e_r ?_ dX12_settingOf_112
    rfl
abbrev wq_X12_leastOf : List Cond := Cond.code yX12_leastOf cX12_leastOf 1 (some .int) :: GL
set_option maxHeartbeats 4000000 in
set_option maxRecDepth 100000 in
theorem c_X12_leastOf (l : Launch) (D : va_G) (ca : Nat → ClassId) (zz : Nat → Nat) (sz : Nat) (p0 : Int32) (r : Int32) (hf : f_X12_leastOf p0 = some r) : Met l yX12_leastOf wq_X12_leastOf ({ frames := 0, cells := 0, slots := 0, locals := 0 } : Room) (PR D ca zz [.int p0] sz []) (QI D ca r [] (va_A [] sz)) 0 0 (va_A [] sz) := by
  refine en (y := yX12_leastOf) (wsm := wq_X12_leastOf) (av := [.int p0]) (cc := cX12_leastOf) (maxL := 1) (ret := (some .int)) (Qf := fun A => (QI D ca r [] A)) (by decide) rfl (Nat.le_of_ble_eq_true rfl) ?_
  intro p e s m args below meth c A Q ls hx hb hr hml hown hts hlocks hnm hA hN hZ hK hQ hP hD hS hl
  unfold f_X12_leastOf at hf
  refine lv_iload_n hx hb dX12_leastOf_0 rfl (lv_at hl 0 rfl) ?_
  by_cases hcs : p0 < (0 : Int32) ∨ (5 : Int32) < p0
  · have hf := ite_t hcs hf
    refine xtabO (tgt := 49) hx hb dX12_leastOf_1 (a := 0) (b := 5) rfl rfl hcs (by decide) ?_
    refine lv_iconst (v := 0) hx hb dX12_leastOf_49 rfl ?_
    have he := Option.some.inj hf
    have e_r := he
    refine rt_I hx hb hr hlocks hK hP hD hS hQ e_r ?_ dX12_leastOf_50
    rfl
  · have hf := ite_f hcs hf
    by_cases hc0 : p0 = (0 : Int32)
    · have hf := ite_t hc0 hf
      refine xtabK (tgt := 40) hx hb dX12_leastOf_1 hc0 (by decide) (by decide) rfl (by decide) ?_
      refine lv_bipush (v := 8) hx hb dX12_leastOf_40 rfl ?_
      have he := Option.some.inj hf
      have e_r := he
      refine rt_I hx hb hr hlocks hK hP hD hS hQ e_r ?_ dX12_leastOf_42
      rfl
    have hf := ite_f hc0 hf
    by_cases hc1 : p0 = (1 : Int32)
    · have hf := ite_t hc1 hf
      refine xtabK (tgt := 47) hx hb dX12_leastOf_1 hc1 (by decide) (by decide) rfl (by decide) ?_
      refine lv_iconst (v := 1) hx hb dX12_leastOf_47 rfl ?_
      have he := Option.some.inj hf
      have e_r := he
      refine rt_I hx hb hr hlocks hK hP hD hS hQ e_r ?_ dX12_leastOf_48
      rfl
    have hf := ite_f hc1 hf
    by_cases hc2 : p0 = (2 : Int32)
    · have hf := ite_t hc2 hf
      refine xtabK (tgt := 43) hx hb dX12_leastOf_1 hc2 (by decide) (by decide) rfl (by decide) ?_
      refine lv_iconst (v := 4) hx hb dX12_leastOf_43 rfl ?_
      have he := Option.some.inj hf
      have e_r := he
      refine rt_I hx hb hr hlocks hK hP hD hS hQ e_r ?_ dX12_leastOf_44
      rfl
    have hf := ite_f hc2 hf
    by_cases hc3 : p0 = (3 : Int32)
    · have hf := ite_t hc3 hf
      refine xtabK (tgt := 49) hx hb dX12_leastOf_1 hc3 (by decide) (by decide) rfl (by decide) ?_
      refine lv_iconst (v := 0) hx hb dX12_leastOf_49 rfl ?_
      have he := Option.some.inj hf
      have e_r := he
      refine rt_I hx hb hr hlocks hK hP hD hS hQ e_r ?_ dX12_leastOf_50
      rfl
    have hf := ite_f hc3 hf
    by_cases hc4 : p0 = (4 : Int32)
    · have hf := ite_t hc4 hf
      refine xtabK (tgt := 45) hx hb dX12_leastOf_1 hc4 (by decide) (by decide) rfl (by decide) ?_
      refine lv_iconst (v := 2) hx hb dX12_leastOf_45 rfl ?_
      have he := Option.some.inj hf
      have e_r := he
      refine rt_I hx hb hr hlocks hK hP hD hS hQ e_r ?_ dX12_leastOf_46
      rfl
    have hf := ite_f hc4 hf
    by_cases hc5 : p0 = (5 : Int32)
    · have hf := ite_t hc5 hf
      refine xtabK (tgt := 47) hx hb dX12_leastOf_1 hc5 (by decide) (by decide) rfl (by decide) ?_
      refine lv_iconst (v := 1) hx hb dX12_leastOf_47 rfl ?_
      have he := Option.some.inj hf
      have e_r := he
      refine rt_I hx hb hr hlocks hK hP hD hS hQ e_r ?_ dX12_leastOf_48
      rfl
    have hf := ite_f hc5 hf
    exact no_el hf
abbrev wq_X12_mostOf : List Cond := Cond.code yX12_mostOf cX12_mostOf 1 (some .int) :: GL
set_option maxHeartbeats 4000000 in
set_option maxRecDepth 100000 in
theorem c_X12_mostOf (l : Launch) (D : va_G) (ca : Nat → ClassId) (zz : Nat → Nat) (sz : Nat) (p0 : Int32) (r : Int32) (hf : f_X12_mostOf p0 = some r) : Met l yX12_mostOf wq_X12_mostOf ({ frames := 0, cells := 0, slots := 0, locals := 0 } : Room) (PR D ca zz [.int p0] sz []) (QI D ca r [] (va_A [] sz)) 0 0 (va_A [] sz) := by
  refine en (y := yX12_mostOf) (wsm := wq_X12_mostOf) (av := [.int p0]) (cc := cX12_mostOf) (maxL := 1) (ret := (some .int)) (Qf := fun A => (QI D ca r [] A)) (by decide) rfl (Nat.le_of_ble_eq_true rfl) ?_
  intro p e s m args below meth c A Q ls hx hb hr hml hown hts hlocks hnm hA hN hZ hK hQ hP hD hS hl
  unfold f_X12_mostOf at hf
  refine lv_iload_n hx hb dX12_mostOf_0 rfl (lv_at hl 0 rfl) ?_
  by_cases hcs : p0 < (0 : Int32) ∨ (7 : Int32) < p0
  · have hf := ite_t hcs hf
    refine xtabO (tgt := 64) hx hb dX12_mostOf_1 (a := 0) (b := 7) rfl rfl hcs (by decide) ?_
    refine lv_sipush (v := 9999) hx hb dX12_mostOf_64 rfl ?_
    have he := Option.some.inj hf
    have e_r := he
    refine rt_I hx hb hr hlocks hK hP hD hS hQ e_r ?_ dX12_mostOf_67
    rfl
  · have hf := ite_f hcs hf
    by_cases hc0 : p0 = (0 : Int32)
    · have hf := ite_t hc0 hf
      refine xtabK (tgt := 48) hx hb dX12_mostOf_1 hc0 (by decide) (by decide) rfl (by decide) ?_
      refine lv_bipush (v := 15) hx hb dX12_mostOf_48 rfl ?_
      have he := Option.some.inj hf
      have e_r := he
      refine rt_I hx hb hr hlocks hK hP hD hS hQ e_r ?_ dX12_mostOf_50
      rfl
    have hf := ite_f hc0 hf
    by_cases hc1 : p0 = (1 : Int32)
    · have hf := ite_t hc1 hf
      refine xtabK (tgt := 51) hx hb dX12_mostOf_1 hc1 (by decide) (by decide) rfl (by decide) ?_
      refine lv_bipush (v := 40) hx hb dX12_mostOf_51 rfl ?_
      have he := Option.some.inj hf
      have e_r := he
      refine rt_I hx hb hr hlocks hK hP hD hS hQ e_r ?_ dX12_mostOf_53
      rfl
    have hf := ite_f hc1 hf
    by_cases hc2 : p0 = (2 : Int32)
    · have hf := ite_t hc2 hf
      refine xtabK (tgt := 48) hx hb dX12_mostOf_1 hc2 (by decide) (by decide) rfl (by decide) ?_
      refine lv_bipush (v := 15) hx hb dX12_mostOf_48 rfl ?_
      have he := Option.some.inj hf
      have e_r := he
      refine rt_I hx hb hr hlocks hK hP hD hS hQ e_r ?_ dX12_mostOf_50
      rfl
    have hf := ite_f hc2 hf
    by_cases hc3 : p0 = (3 : Int32)
    · have hf := ite_t hc3 hf
      refine xtabK (tgt := 54) hx hb dX12_mostOf_1 hc3 (by decide) (by decide) rfl (by decide) ?_
      refine lv_sipush (v := 200) hx hb dX12_mostOf_54 rfl ?_
      have he := Option.some.inj hf
      have e_r := he
      refine rt_I hx hb hr hlocks hK hP hD hS hQ e_r ?_ dX12_mostOf_57
      rfl
    have hf := ite_f hc3 hf
    by_cases hc4 : p0 = (4 : Int32)
    · have hf := ite_t hc4 hf
      refine xtabK (tgt := 58) hx hb dX12_mostOf_1 hc4 (by decide) (by decide) rfl (by decide) ?_
      refine lv_bipush (v := 64) hx hb dX12_mostOf_58 rfl ?_
      have he := Option.some.inj hf
      have e_r := he
      refine rt_I hx hb hr hlocks hK hP hD hS hQ e_r ?_ dX12_mostOf_60
      rfl
    have hf := ite_f hc4 hf
    by_cases hc5 : p0 = (5 : Int32)
    · have hf := ite_t hc5 hf
      refine xtabK (tgt := 61) hx hb dX12_mostOf_1 hc5 (by decide) (by decide) rfl (by decide) ?_
      refine lv_bipush (v := 16) hx hb dX12_mostOf_61 rfl ?_
      have he := Option.some.inj hf
      have e_r := he
      refine rt_I hx hb hr hlocks hK hP hD hS hQ e_r ?_ dX12_mostOf_63
      rfl
    have hf := ite_f hc5 hf
    by_cases hc6 : p0 = (6 : Int32)
    · have hf := ite_t hc6 hf
      refine xtabK (tgt := 61) hx hb dX12_mostOf_1 hc6 (by decide) (by decide) rfl (by decide) ?_
      refine lv_bipush (v := 16) hx hb dX12_mostOf_61 rfl ?_
      have he := Option.some.inj hf
      have e_r := he
      refine rt_I hx hb hr hlocks hK hP hD hS hQ e_r ?_ dX12_mostOf_63
      rfl
    have hf := ite_f hc6 hf
    by_cases hc7 : p0 = (7 : Int32)
    · have hf := ite_t hc7 hf
      refine xtabK (tgt := 48) hx hb dX12_mostOf_1 hc7 (by decide) (by decide) rfl (by decide) ?_
      refine lv_bipush (v := 15) hx hb dX12_mostOf_48 rfl ?_
      have he := Option.some.inj hf
      have e_r := he
      refine rt_I hx hb hr hlocks hK hP hD hS hQ e_r ?_ dX12_mostOf_50
      rfl
    have hf := ite_f hc7 hf
    exact no_el hf
abbrev wq_X12_stuckLine : List Cond := Cond.code yX12_stuckLine cX12_stuckLine 4 (some .boolean) :: GL
set_option maxHeartbeats 4000000 in
set_option maxRecDepth 100000 in
theorem c_X12_stuckLine (l : Launch) (D : va_G) (ca : Nat → ClassId) (zz : Nat → Nat) (a0 a1 a2 a3 a4 a5 : Nat) (sz : Nat) (v0 : V12) (r : Int32) (v0' : V12) (hf : f_X12_stuckLine v0 = some (r, v0')) : Met l yX12_stuckLine wq_X12_stuckLine ({ frames := 3, cells := 0, slots := 0, locals := 66 } : Room) (PR D ca zz [.ref a0] sz [(a0, .inr (12, [.int v0.1, .ref a1, .ref a2, .ref a3, .int v0.2.2.2.2.1, .int v0.2.2.2.2.2.1, .int v0.2.2.2.2.2.2.1, .int v0.2.2.2.2.2.2.2.1, .int v0.2.2.2.2.2.2.2.2.1, .long v0.2.2.2.2.2.2.2.2.2.1, .int v0.2.2.2.2.2.2.2.2.2.2.1, .int v0.2.2.2.2.2.2.2.2.2.2.2.1, .int v0.2.2.2.2.2.2.2.2.2.2.2.2.1, .ref a4, .int v0.2.2.2.2.2.2.2.2.2.2.2.2.2.2.1, .int v0.2.2.2.2.2.2.2.2.2.2.2.2.2.2.2.1, .int v0.2.2.2.2.2.2.2.2.2.2.2.2.2.2.2.2.1, .int v0.2.2.2.2.2.2.2.2.2.2.2.2.2.2.2.2.2.1, .int v0.2.2.2.2.2.2.2.2.2.2.2.2.2.2.2.2.2.2.1, .long v0.2.2.2.2.2.2.2.2.2.2.2.2.2.2.2.2.2.2.2.1, .long v0.2.2.2.2.2.2.2.2.2.2.2.2.2.2.2.2.2.2.2.2.1, .ref a5])), (a1, .inl (ca 0, 4725, .inl v0.2.1)), (a2, .inl (ca 2, 1500, .inl v0.2.2.1)), (a3, .inl (ca 3, 3, .inl v0.2.2.2.1)), (a4, .inl (ca 0, 22, .inl v0.2.2.2.2.2.2.2.2.2.2.2.2.2.1)), (a5, .inl (ca 0, 256, .inl v0.2.2.2.2.2.2.2.2.2.2.2.2.2.2.2.2.2.2.2.2.2))]) (QI D ca r [(a0, .inr (12, [.int v0'.1, .ref a1, .ref a2, .ref a3, .int v0'.2.2.2.2.1, .int v0'.2.2.2.2.2.1, .int v0'.2.2.2.2.2.2.1, .int v0'.2.2.2.2.2.2.2.1, .int v0'.2.2.2.2.2.2.2.2.1, .long v0'.2.2.2.2.2.2.2.2.2.1, .int v0'.2.2.2.2.2.2.2.2.2.2.1, .int v0'.2.2.2.2.2.2.2.2.2.2.2.1, .int v0'.2.2.2.2.2.2.2.2.2.2.2.2.1, .ref a4, .int v0'.2.2.2.2.2.2.2.2.2.2.2.2.2.2.1, .int v0'.2.2.2.2.2.2.2.2.2.2.2.2.2.2.2.1, .int v0'.2.2.2.2.2.2.2.2.2.2.2.2.2.2.2.2.1, .int v0'.2.2.2.2.2.2.2.2.2.2.2.2.2.2.2.2.2.1, .int v0'.2.2.2.2.2.2.2.2.2.2.2.2.2.2.2.2.2.2.1, .long v0'.2.2.2.2.2.2.2.2.2.2.2.2.2.2.2.2.2.2.2.1, .long v0'.2.2.2.2.2.2.2.2.2.2.2.2.2.2.2.2.2.2.2.2.1, .ref a5])), (a1, .inl (ca 0, 4725, .inl v0'.2.1)), (a2, .inl (ca 2, 1500, .inl v0'.2.2.1)), (a3, .inl (ca 3, 3, .inl v0'.2.2.2.1)), (a4, .inl (ca 0, 22, .inl v0'.2.2.2.2.2.2.2.2.2.2.2.2.2.1)), (a5, .inl (ca 0, 256, .inl v0'.2.2.2.2.2.2.2.2.2.2.2.2.2.2.2.2.2.2.2.2.2))] (va_A [(a0, .inr (12, [.int v0.1, .ref a1, .ref a2, .ref a3, .int v0.2.2.2.2.1, .int v0.2.2.2.2.2.1, .int v0.2.2.2.2.2.2.1, .int v0.2.2.2.2.2.2.2.1, .int v0.2.2.2.2.2.2.2.2.1, .long v0.2.2.2.2.2.2.2.2.2.1, .int v0.2.2.2.2.2.2.2.2.2.2.1, .int v0.2.2.2.2.2.2.2.2.2.2.2.1, .int v0.2.2.2.2.2.2.2.2.2.2.2.2.1, .ref a4, .int v0.2.2.2.2.2.2.2.2.2.2.2.2.2.2.1, .int v0.2.2.2.2.2.2.2.2.2.2.2.2.2.2.2.1, .int v0.2.2.2.2.2.2.2.2.2.2.2.2.2.2.2.2.1, .int v0.2.2.2.2.2.2.2.2.2.2.2.2.2.2.2.2.2.1, .int v0.2.2.2.2.2.2.2.2.2.2.2.2.2.2.2.2.2.2.1, .long v0.2.2.2.2.2.2.2.2.2.2.2.2.2.2.2.2.2.2.2.1, .long v0.2.2.2.2.2.2.2.2.2.2.2.2.2.2.2.2.2.2.2.2.1, .ref a5])), (a1, .inl (ca 0, 4725, .inl v0.2.1)), (a2, .inl (ca 2, 1500, .inl v0.2.2.1)), (a3, .inl (ca 3, 3, .inl v0.2.2.2.1)), (a4, .inl (ca 0, 22, .inl v0.2.2.2.2.2.2.2.2.2.2.2.2.2.1)), (a5, .inl (ca 0, 256, .inl v0.2.2.2.2.2.2.2.2.2.2.2.2.2.2.2.2.2.2.2.2.2))] sz)) 0 0 (va_A [(a0, .inr (12, [.int v0.1, .ref a1, .ref a2, .ref a3, .int v0.2.2.2.2.1, .int v0.2.2.2.2.2.1, .int v0.2.2.2.2.2.2.1, .int v0.2.2.2.2.2.2.2.1, .int v0.2.2.2.2.2.2.2.2.1, .long v0.2.2.2.2.2.2.2.2.2.1, .int v0.2.2.2.2.2.2.2.2.2.2.1, .int v0.2.2.2.2.2.2.2.2.2.2.2.1, .int v0.2.2.2.2.2.2.2.2.2.2.2.2.1, .ref a4, .int v0.2.2.2.2.2.2.2.2.2.2.2.2.2.2.1, .int v0.2.2.2.2.2.2.2.2.2.2.2.2.2.2.2.1, .int v0.2.2.2.2.2.2.2.2.2.2.2.2.2.2.2.2.1, .int v0.2.2.2.2.2.2.2.2.2.2.2.2.2.2.2.2.2.1, .int v0.2.2.2.2.2.2.2.2.2.2.2.2.2.2.2.2.2.2.1, .long v0.2.2.2.2.2.2.2.2.2.2.2.2.2.2.2.2.2.2.2.1, .long v0.2.2.2.2.2.2.2.2.2.2.2.2.2.2.2.2.2.2.2.2.1, .ref a5])), (a1, .inl (ca 0, 4725, .inl v0.2.1)), (a2, .inl (ca 2, 1500, .inl v0.2.2.1)), (a3, .inl (ca 3, 3, .inl v0.2.2.2.1)), (a4, .inl (ca 0, 22, .inl v0.2.2.2.2.2.2.2.2.2.2.2.2.2.1)), (a5, .inl (ca 0, 256, .inl v0.2.2.2.2.2.2.2.2.2.2.2.2.2.2.2.2.2.2.2.2.2))] sz) := by
  refine en (y := yX12_stuckLine) (wsm := wq_X12_stuckLine) (av := [.ref a0]) (cc := cX12_stuckLine) (maxL := 4) (ret := (some .boolean)) (Qf := fun A => (QI D ca r [(a0, .inr (12, [.int v0'.1, .ref a1, .ref a2, .ref a3, .int v0'.2.2.2.2.1, .int v0'.2.2.2.2.2.1, .int v0'.2.2.2.2.2.2.1, .int v0'.2.2.2.2.2.2.2.1, .int v0'.2.2.2.2.2.2.2.2.1, .long v0'.2.2.2.2.2.2.2.2.2.1, .int v0'.2.2.2.2.2.2.2.2.2.2.1, .int v0'.2.2.2.2.2.2.2.2.2.2.2.1, .int v0'.2.2.2.2.2.2.2.2.2.2.2.2.1, .ref a4, .int v0'.2.2.2.2.2.2.2.2.2.2.2.2.2.2.1, .int v0'.2.2.2.2.2.2.2.2.2.2.2.2.2.2.2.1, .int v0'.2.2.2.2.2.2.2.2.2.2.2.2.2.2.2.2.1, .int v0'.2.2.2.2.2.2.2.2.2.2.2.2.2.2.2.2.2.1, .int v0'.2.2.2.2.2.2.2.2.2.2.2.2.2.2.2.2.2.2.1, .long v0'.2.2.2.2.2.2.2.2.2.2.2.2.2.2.2.2.2.2.2.1, .long v0'.2.2.2.2.2.2.2.2.2.2.2.2.2.2.2.2.2.2.2.2.1, .ref a5])), (a1, .inl (ca 0, 4725, .inl v0'.2.1)), (a2, .inl (ca 2, 1500, .inl v0'.2.2.1)), (a3, .inl (ca 3, 3, .inl v0'.2.2.2.1)), (a4, .inl (ca 0, 22, .inl v0'.2.2.2.2.2.2.2.2.2.2.2.2.2.1)), (a5, .inl (ca 0, 256, .inl v0'.2.2.2.2.2.2.2.2.2.2.2.2.2.2.2.2.2.2.2.2.2))] A)) (by decide) rfl (Nat.le_of_ble_eq_true rfl) ?_
  intro p e s m args below meth c A Q ls hx hb hr hml hown hts hlocks hnm hA hN hZ hK hQ hP hD hS hl
  have w0 := hts _ (List.mem_cons_of_mem _ gw_5_128)
  have w1 := hts _ (List.mem_cons_of_mem _ gw_5_129)
  have w2 := hts _ (List.mem_cons_of_mem _ gw_5_121)
  have i12 : ∀ w ∈ u_ws RX12 TX12 22, w ∈ wq_X12_stuckLine := fun w h => List.mem_cons_of_mem _ (inX12 w h)
  have b20 : ∀ (v0 : V12), fc_X12_stuckLine_20 v0 = some (r, v0') → ∀ (H : Heap) (locs : List Loc) (ls : Array Slot), va_P D vwCl [(a0, .inr (12, [.int v0.1, .ref a1, .ref a2, .ref a3, .int v0.2.2.2.2.1, .int v0.2.2.2.2.2.1, .int v0.2.2.2.2.2.2.1, .int v0.2.2.2.2.2.2.2.1, .int v0.2.2.2.2.2.2.2.2.1, .long v0.2.2.2.2.2.2.2.2.2.1, .int v0.2.2.2.2.2.2.2.2.2.2.1, .int v0.2.2.2.2.2.2.2.2.2.2.2.1, .int v0.2.2.2.2.2.2.2.2.2.2.2.2.1, .ref a4, .int v0.2.2.2.2.2.2.2.2.2.2.2.2.2.2.1, .int v0.2.2.2.2.2.2.2.2.2.2.2.2.2.2.2.1, .int v0.2.2.2.2.2.2.2.2.2.2.2.2.2.2.2.2.1, .int v0.2.2.2.2.2.2.2.2.2.2.2.2.2.2.2.2.2.1, .int v0.2.2.2.2.2.2.2.2.2.2.2.2.2.2.2.2.2.2.1, .long v0.2.2.2.2.2.2.2.2.2.2.2.2.2.2.2.2.2.2.2.1, .long v0.2.2.2.2.2.2.2.2.2.2.2.2.2.2.2.2.2.2.2.2.1, .ref a5])), (a1, .inl (ca 0, 4725, .inl v0.2.1)), (a2, .inl (ca 2, 1500, .inl v0.2.2.1)), (a3, .inl (ca 3, 3, .inl v0.2.2.2.1)), (a4, .inl (ca 0, 22, .inl v0.2.2.2.2.2.2.2.2.2.2.2.2.2.1)), (a5, .inl (ca 0, 256, .inl v0.2.2.2.2.2.2.2.2.2.2.2.2.2.2.2.2.2.2.2.2.2))] H → va_D A [(a0, .inr (12, [.int v0.1, .ref a1, .ref a2, .ref a3, .int v0.2.2.2.2.1, .int v0.2.2.2.2.2.1, .int v0.2.2.2.2.2.2.1, .int v0.2.2.2.2.2.2.2.1, .int v0.2.2.2.2.2.2.2.2.1, .long v0.2.2.2.2.2.2.2.2.2.1, .int v0.2.2.2.2.2.2.2.2.2.2.1, .int v0.2.2.2.2.2.2.2.2.2.2.2.1, .int v0.2.2.2.2.2.2.2.2.2.2.2.2.1, .ref a4, .int v0.2.2.2.2.2.2.2.2.2.2.2.2.2.2.1, .int v0.2.2.2.2.2.2.2.2.2.2.2.2.2.2.2.1, .int v0.2.2.2.2.2.2.2.2.2.2.2.2.2.2.2.2.1, .int v0.2.2.2.2.2.2.2.2.2.2.2.2.2.2.2.2.2.1, .int v0.2.2.2.2.2.2.2.2.2.2.2.2.2.2.2.2.2.2.1, .long v0.2.2.2.2.2.2.2.2.2.2.2.2.2.2.2.2.2.2.2.1, .long v0.2.2.2.2.2.2.2.2.2.2.2.2.2.2.2.2.2.2.2.2.1, .ref a5])), (a1, .inl (ca 0, 4725, .inl v0.2.1)), (a2, .inl (ca 2, 1500, .inl v0.2.2.1)), (a3, .inl (ca 3, 3, .inl v0.2.2.2.1)), (a4, .inl (ca 0, 22, .inl v0.2.2.2.2.2.2.2.2.2.2.2.2.2.1)), (a5, .inl (ca 0, 256, .inl v0.2.2.2.2.2.2.2.2.2.2.2.2.2.2.2.2.2.2.2.2.2))] → va_S A s.heap H locs → lv_has ls 4 [(0, .ref a0)] → W p l e ({ frames := 3, cells := 0, slots := 0, locals := 66 } : Room) s m args below meth c H locs 0 0 Q (F0 m 20 ls []) := by
    intro v0 hf H locs ls hP hD hS hl
    unfold fc_X12_stuckLine_20 at hf
    refine lv_aload_n hx hb dX12_stuckLine_20 rfl (lv_at hl 0 rfl) ?_
    obtain ⟨u_1, hc1, hf⟩ := bnd1_el hf
    refine xV_V (As := []) (wx := [(a0, .inr (12, [.int u_1.1, .ref a1, .ref a2, .ref a3, .int u_1.2.2.2.2.1, .int u_1.2.2.2.2.2.1, .int u_1.2.2.2.2.2.2.1, .int u_1.2.2.2.2.2.2.2.1, .int u_1.2.2.2.2.2.2.2.2.1, .long u_1.2.2.2.2.2.2.2.2.2.1, .int u_1.2.2.2.2.2.2.2.2.2.2.1, .int u_1.2.2.2.2.2.2.2.2.2.2.2.1, .int u_1.2.2.2.2.2.2.2.2.2.2.2.2.1, .ref a4, .int u_1.2.2.2.2.2.2.2.2.2.2.2.2.2.2.1, .int u_1.2.2.2.2.2.2.2.2.2.2.2.2.2.2.2.1, .int u_1.2.2.2.2.2.2.2.2.2.2.2.2.2.2.2.2.1, .int u_1.2.2.2.2.2.2.2.2.2.2.2.2.2.2.2.2.2.1, .int u_1.2.2.2.2.2.2.2.2.2.2.2.2.2.2.2.2.2.2.1, .long u_1.2.2.2.2.2.2.2.2.2.2.2.2.2.2.2.2.2.2.2.1, .long u_1.2.2.2.2.2.2.2.2.2.2.2.2.2.2.2.2.2.2.2.2.1, .ref a5])), (a1, .inl (ca 0, 4725, .inl u_1.2.1)), (a2, .inl (ca 2, 1500, .inl u_1.2.2.1)), (a3, .inl (ca 3, 3, .inl u_1.2.2.2.1)), (a4, .inl (ca 0, 22, .inl u_1.2.2.2.2.2.2.2.2.2.2.2.2.2.1)), (a5, .inl (ca 0, 256, .inl u_1.2.2.2.2.2.2.2.2.2.2.2.2.2.2.2.2.2.2.2.2.2))]) ⟨hx, hb, hml, hown, hts⟩ (c_X12_token l D ca zz a0 a1 a2 a3 a4 a5 _ v0 u_1 hc1) (cwV 0 hts (gV gw_5_192 gw_5_194 gw_s_2_12 gw_1_15 gw_5_195) rfl rfl rfl (by decide +kernel) ⟨(Nat.le_of_ble_eq_true rfl), (Nat.le_of_ble_eq_true rfl)⟩) hK hN hZ hA hP hD hS [0, 1, 2, 3, 4, 5] [some 0, some 1, some 2, some 3, some 4, some 5] (by decide +kernel) rfl rfl rfl rfl 0 rfl rfl hl.1 rfl (Nat.le_of_ble_eq_true rfl) dX12_stuckLine_21 ⟨Nat.zero_le _, Nat.zero_le _⟩ rfl (fun H locs hP hD hS => ?_)
    refine lv_aload_n hx hb dX12_stuckLine_24 rfl (lv_at hl 0 rfl) ?_
    refine lv_iconst (v := 0) hx hb dX12_stuckLine_25 rfl ?_
    refine lv_sipush (v := 9999) hx hb dX12_stuckLine_26 rfl ?_
    obtain ⟨r_2, u_3, hc3, hf⟩ := bnd2_el hf
    refine xV_I (As := [.int (0 : Int32), .int (9999 : Int32)]) (wx := [(a0, .inr (12, [.int u_3.1, .ref a1, .ref a2, .ref a3, .int u_3.2.2.2.2.1, .int u_3.2.2.2.2.2.1, .int u_3.2.2.2.2.2.2.1, .int u_3.2.2.2.2.2.2.2.1, .int u_3.2.2.2.2.2.2.2.2.1, .long u_3.2.2.2.2.2.2.2.2.2.1, .int u_3.2.2.2.2.2.2.2.2.2.2.1, .int u_3.2.2.2.2.2.2.2.2.2.2.2.1, .int u_3.2.2.2.2.2.2.2.2.2.2.2.2.1, .ref a4, .int u_3.2.2.2.2.2.2.2.2.2.2.2.2.2.2.1, .int u_3.2.2.2.2.2.2.2.2.2.2.2.2.2.2.2.1, .int u_3.2.2.2.2.2.2.2.2.2.2.2.2.2.2.2.2.1, .int u_3.2.2.2.2.2.2.2.2.2.2.2.2.2.2.2.2.2.1, .int u_3.2.2.2.2.2.2.2.2.2.2.2.2.2.2.2.2.2.2.1, .long u_3.2.2.2.2.2.2.2.2.2.2.2.2.2.2.2.2.2.2.2.1, .long u_3.2.2.2.2.2.2.2.2.2.2.2.2.2.2.2.2.2.2.2.2.1, .ref a5])), (a1, .inl (ca 0, 4725, .inl u_3.2.1)), (a2, .inl (ca 2, 1500, .inl u_3.2.2.1)), (a3, .inl (ca 3, 3, .inl u_3.2.2.2.1)), (a4, .inl (ca 0, 22, .inl u_3.2.2.2.2.2.2.2.2.2.2.2.2.2.1)), (a5, .inl (ca 0, 256, .inl u_3.2.2.2.2.2.2.2.2.2.2.2.2.2.2.2.2.2.2.2.2.2))]) ⟨hx, hb, hml, hown, hts⟩ (c_X12_takes l D ca zz a0 a1 a2 a3 a4 a5 _ u_1 (0 : Int32) (9999 : Int32) r_2 u_3 hc3) (cwV 2 hts (gV gw_5_216 gw_5_218 gw_s_3_1 gw_1_15 gw_5_219) rfl rfl rfl (by decide +kernel) ⟨(Nat.le_of_ble_eq_true rfl), (Nat.le_of_ble_eq_true rfl)⟩) hK hN hZ hA hP hD hS [0, 1, 2, 3, 4, 5] [some 0, some 1, some 2, some 3, some 4, some 5] (by decide +kernel) rfl rfl rfl rfl 0 rfl rfl hl.1 rfl (Nat.le_of_ble_eq_true rfl) dX12_stuckLine_29 ⟨Nat.zero_le _, Nat.zero_le _⟩ rfl (fun H locs hP hD hS => ?_)
    refine xi_ne (tgt := 37) hx hb dX12_stuckLine_32 (by decide) hf (fun hf => ?_) (fun hf => ?_)
    · refine lv_aload_n hx hb dX12_stuckLine_37 rfl (lv_at hl 0 rfl) ?_
      refine va_get (C := RX12) (T := TX12) (N := 22) hx hb hts i12 hown hK hP 0 rfl rfl 14 (Nat.le_of_ble_eq_true rfl) w1 (fun _ h9 => h9) rfl dX12_stuckLine_38 ?_
      refine lv_istore_n (lv' := [(1, .int u_3.2.2.2.2.2.2.2.2.2.2.2.2.2.2.1), (0, .ref a0)]) hx hb dX12_stuckLine_41 rfl hl (Nat.le_of_ble_eq_true rfl) rfl (fun ls hl => ?_)
      refine lv_aload_n hx hb dX12_stuckLine_42 rfl (lv_at hl 1 rfl) ?_
      refine lv_iload_n hx hb dX12_stuckLine_43 rfl (lv_at hl 0 rfl) ?_
      refine lv_sipush (v := 9999) hx hb dX12_stuckLine_44 rfl ?_
      obtain ⟨r_4, u_5, hc5, hf⟩ := bnd2_el hf
      refine xV_I (As := [.int u_3.2.2.2.2.2.2.2.2.2.2.2.2.2.2.1, .int (9999 : Int32)]) (wx := [(a0, .inr (12, [.int u_5.1, .ref a1, .ref a2, .ref a3, .int u_5.2.2.2.2.1, .int u_5.2.2.2.2.2.1, .int u_5.2.2.2.2.2.2.1, .int u_5.2.2.2.2.2.2.2.1, .int u_5.2.2.2.2.2.2.2.2.1, .long u_5.2.2.2.2.2.2.2.2.2.1, .int u_5.2.2.2.2.2.2.2.2.2.2.1, .int u_5.2.2.2.2.2.2.2.2.2.2.2.1, .int u_5.2.2.2.2.2.2.2.2.2.2.2.2.1, .ref a4, .int u_5.2.2.2.2.2.2.2.2.2.2.2.2.2.2.1, .int u_5.2.2.2.2.2.2.2.2.2.2.2.2.2.2.2.1, .int u_5.2.2.2.2.2.2.2.2.2.2.2.2.2.2.2.2.1, .int u_5.2.2.2.2.2.2.2.2.2.2.2.2.2.2.2.2.2.1, .int u_5.2.2.2.2.2.2.2.2.2.2.2.2.2.2.2.2.2.2.1, .long u_5.2.2.2.2.2.2.2.2.2.2.2.2.2.2.2.2.2.2.2.1, .long u_5.2.2.2.2.2.2.2.2.2.2.2.2.2.2.2.2.2.2.2.2.1, .ref a5])), (a1, .inl (ca 0, 4725, .inl u_5.2.1)), (a2, .inl (ca 2, 1500, .inl u_5.2.2.1)), (a3, .inl (ca 3, 3, .inl u_5.2.2.2.1)), (a4, .inl (ca 0, 22, .inl u_5.2.2.2.2.2.2.2.2.2.2.2.2.2.1)), (a5, .inl (ca 0, 256, .inl u_5.2.2.2.2.2.2.2.2.2.2.2.2.2.2.2.2.2.2.2.2.2))]) ⟨hx, hb, hml, hown, hts⟩ (c_X12_takes l D ca zz a0 a1 a2 a3 a4 a5 _ u_3 u_3.2.2.2.2.2.2.2.2.2.2.2.2.2.2.1 (9999 : Int32) r_4 u_5 hc5) (cwV 2 hts (gV gw_5_216 gw_5_218 gw_s_3_1 gw_1_15 gw_5_219) rfl rfl rfl (by decide +kernel) ⟨(Nat.le_of_ble_eq_true rfl), (Nat.le_of_ble_eq_true rfl)⟩) hK hN hZ hA hP hD hS [0, 1, 2, 3, 4, 5] [some 0, some 1, some 2, some 3, some 4, some 5] (by decide +kernel) rfl rfl rfl rfl 0 rfl rfl hl.1 rfl (Nat.le_of_ble_eq_true rfl) dX12_stuckLine_47 ⟨Nat.zero_le _, Nat.zero_le _⟩ rfl (fun H locs hP hD hS => ?_)
      refine xi_ne (tgt := 55) hx hb dX12_stuckLine_50 (by decide) hf (fun hf => ?_) (fun hf => ?_)
      · refine lv_aload_n hx hb dX12_stuckLine_55 rfl (lv_at hl 1 rfl) ?_
        refine va_get (C := RX12) (T := TX12) (N := 22) hx hb hts i12 hown hK hP 0 rfl rfl 14 (Nat.le_of_ble_eq_true rfl) w1 (fun _ h9 => h9) rfl dX12_stuckLine_56 ?_
        refine lv_istore_n (lv' := [(2, .int u_5.2.2.2.2.2.2.2.2.2.2.2.2.2.2.1), (1, .int u_3.2.2.2.2.2.2.2.2.2.2.2.2.2.2.1), (0, .ref a0)]) hx hb dX12_stuckLine_59 rfl hl (Nat.le_of_ble_eq_true rfl) rfl (fun ls hl => ?_)
        refine lv_aload_n hx hb dX12_stuckLine_60 rfl (lv_at hl 2 rfl) ?_
        refine lv_iconst (v := 0) hx hb dX12_stuckLine_61 rfl ?_
        refine lv_iconst (v := 1) hx hb dX12_stuckLine_62 rfl ?_
        obtain ⟨r_6, u_7, hc7, hf⟩ := bnd2_el hf
        refine xV_I (As := [.int (0 : Int32), .int (1 : Int32)]) (wx := [(a0, .inr (12, [.int u_7.1, .ref a1, .ref a2, .ref a3, .int u_7.2.2.2.2.1, .int u_7.2.2.2.2.2.1, .int u_7.2.2.2.2.2.2.1, .int u_7.2.2.2.2.2.2.2.1, .int u_7.2.2.2.2.2.2.2.2.1, .long u_7.2.2.2.2.2.2.2.2.2.1, .int u_7.2.2.2.2.2.2.2.2.2.2.1, .int u_7.2.2.2.2.2.2.2.2.2.2.2.1, .int u_7.2.2.2.2.2.2.2.2.2.2.2.2.1, .ref a4, .int u_7.2.2.2.2.2.2.2.2.2.2.2.2.2.2.1, .int u_7.2.2.2.2.2.2.2.2.2.2.2.2.2.2.2.1, .int u_7.2.2.2.2.2.2.2.2.2.2.2.2.2.2.2.2.1, .int u_7.2.2.2.2.2.2.2.2.2.2.2.2.2.2.2.2.2.1, .int u_7.2.2.2.2.2.2.2.2.2.2.2.2.2.2.2.2.2.2.1, .long u_7.2.2.2.2.2.2.2.2.2.2.2.2.2.2.2.2.2.2.2.1, .long u_7.2.2.2.2.2.2.2.2.2.2.2.2.2.2.2.2.2.2.2.2.1, .ref a5])), (a1, .inl (ca 0, 4725, .inl u_7.2.1)), (a2, .inl (ca 2, 1500, .inl u_7.2.2.1)), (a3, .inl (ca 3, 3, .inl u_7.2.2.2.1)), (a4, .inl (ca 0, 22, .inl u_7.2.2.2.2.2.2.2.2.2.2.2.2.2.1)), (a5, .inl (ca 0, 256, .inl u_7.2.2.2.2.2.2.2.2.2.2.2.2.2.2.2.2.2.2.2.2.2))]) ⟨hx, hb, hml, hown, hts⟩ (c_X12_takes l D ca zz a0 a1 a2 a3 a4 a5 _ u_5 (0 : Int32) (1 : Int32) r_6 u_7 hc7) (cwV 2 hts (gV gw_5_216 gw_5_218 gw_s_3_1 gw_1_15 gw_5_219) rfl rfl rfl (by decide +kernel) ⟨(Nat.le_of_ble_eq_true rfl), (Nat.le_of_ble_eq_true rfl)⟩) hK hN hZ hA hP hD hS [0, 1, 2, 3, 4, 5] [some 0, some 1, some 2, some 3, some 4, some 5] (by decide +kernel) rfl rfl rfl rfl 0 rfl rfl hl.1 rfl (Nat.le_of_ble_eq_true rfl) dX12_stuckLine_63 ⟨Nat.zero_le _, Nat.zero_le _⟩ rfl (fun H locs hP hD hS => ?_)
        refine xi_ne (tgt := 71) hx hb dX12_stuckLine_66 (by decide) hf (fun hf => ?_) (fun hf => ?_)
        · refine lv_aload_n hx hb dX12_stuckLine_71 rfl (lv_at hl 2 rfl) ?_
          refine va_get (C := RX12) (T := TX12) (N := 22) hx hb hts i12 hown hK hP 0 rfl rfl 13 (Nat.le_of_ble_eq_true rfl) w0 (fun _ h9 => h9) rfl dX12_stuckLine_72 ?_
          refine lv_bipush (v := 9) hx hb dX12_stuckLine_75 rfl ?_
          refine xiald hx hb hK hP 4 rfl hf dX12_stuckLine_77 (fun hf => ?_)
          refine lv_iconst (v := 4) hx hb dX12_stuckLine_78 rfl ?_
          refine xc_ge (tgt := 134) hx hb dX12_stuckLine_79 (by decide) hf (fun hf => ?_) (fun hf => ?_)
          · refine lv_iconst (v := 1) hx hb dX12_stuckLine_134 rfl ?_
            have he := Option.some.inj hf
            obtain ⟨e_r, he⟩ := Prod.mk.inj he
            have e_v0 := he
            refine rt_Z hx hb hr hlocks hK hP hD hS hQ (Or.inr rfl) e_r ?_ dX12_stuckLine_135
            simp only [← e_v0]
          · refine lv_bipush (v := 10) hx hb dX12_stuckLine_82 rfl ?_
            refine lv_iconst (v := 3) hx hb dX12_stuckLine_84 rfl ?_
            refine lv_aload_n hx hb dX12_stuckLine_85 rfl (lv_at hl 2 rfl) ?_
            refine va_get (C := RX12) (T := TX12) (N := 22) hx hb hts i12 hown hK hP 0 rfl rfl 13 (Nat.le_of_ble_eq_true rfl) w0 (fun _ h9 => h9) rfl dX12_stuckLine_86 ?_
            refine lv_bipush (v := 9) hx hb dX12_stuckLine_89 rfl ?_
            refine xiald hx hb hK hP 4 rfl hf dX12_stuckLine_91 (fun hf => ?_)
            refine lv_imul hx hb dX12_stuckLine_92 ?_
            refine lv_iadd hx hb dX12_stuckLine_93 ?_
            refine xnm hf (fun x_8 hf => ?_)
            refine lv_istore_n (lv' := [(3, .int x_8), (2, .int u_5.2.2.2.2.2.2.2.2.2.2.2.2.2.2.1), (1, .int u_3.2.2.2.2.2.2.2.2.2.2.2.2.2.2.1), (0, .ref a0)]) hx hb dX12_stuckLine_94 rfl hl (Nat.le_of_ble_eq_true rfl) rfl (fun ls hl => ?_)
            refine lv_aload_n hx hb dX12_stuckLine_95 rfl (lv_at hl 3 rfl) ?_
            refine va_get (C := RX12) (T := TX12) (N := 22) hx hb hts i12 hown hK hP 0 rfl rfl 13 (Nat.le_of_ble_eq_true rfl) w0 (fun _ h9 => h9) rfl dX12_stuckLine_96 ?_
            refine lv_iload_n hx hb dX12_stuckLine_99 rfl (lv_at hl 0 rfl) ?_
            refine lv_iload_n hx hb dX12_stuckLine_100 rfl (lv_at hl 2 rfl) ?_
            refine xiast (wx := [(a0, .inr (12, [.int u_7.1, .ref a1, .ref a2, .ref a3, .int u_7.2.2.2.2.1, .int u_7.2.2.2.2.2.1, .int u_7.2.2.2.2.2.2.1, .int u_7.2.2.2.2.2.2.2.1, .int u_7.2.2.2.2.2.2.2.2.1, .long u_7.2.2.2.2.2.2.2.2.2.1, .int u_7.2.2.2.2.2.2.2.2.2.2.1, .int u_7.2.2.2.2.2.2.2.2.2.2.2.1, .int u_7.2.2.2.2.2.2.2.2.2.2.2.2.1, .ref a4, .int u_7.2.2.2.2.2.2.2.2.2.2.2.2.2.2.1, .int u_7.2.2.2.2.2.2.2.2.2.2.2.2.2.2.2.1, .int u_7.2.2.2.2.2.2.2.2.2.2.2.2.2.2.2.2.1, .int u_7.2.2.2.2.2.2.2.2.2.2.2.2.2.2.2.2.2.1, .int u_7.2.2.2.2.2.2.2.2.2.2.2.2.2.2.2.2.2.2.1, .long u_7.2.2.2.2.2.2.2.2.2.2.2.2.2.2.2.2.2.2.2.1, .long u_7.2.2.2.2.2.2.2.2.2.2.2.2.2.2.2.2.2.2.2.2.1, .ref a5])), (a1, .inl (ca 0, 4725, .inl u_7.2.1)), (a2, .inl (ca 2, 1500, .inl u_7.2.2.1)), (a3, .inl (ca 3, 3, .inl u_7.2.2.2.1)), (a4, .inl (ca 0, 22, .inl ((upd u_7.2.2.2.2.2.2.2.2.2.2.2.2.2.1 (x_8).toNatClampNeg u_3.2.2.2.2.2.2.2.2.2.2.2.2.2.2.1)))), (a5, .inl (ca 0, 256, .inl u_7.2.2.2.2.2.2.2.2.2.2.2.2.2.2.2.2.2.2.2.2.2))]) hx hb hK hP hD hS 4 rfl hf dX12_stuckLine_101 rfl (fun H locs hf hP hD hS => ?_)
            obtain ⟨y_9, ey_9, hf⟩ := bnd_el hf
            rw [← ey_9] at hP hD
            refine lv_aload_n hx hb dX12_stuckLine_102 rfl (lv_at hl 3 rfl) ?_
            refine va_get (C := RX12) (T := TX12) (N := 22) hx hb hts i12 hown hK hP 0 rfl rfl 13 (Nat.le_of_ble_eq_true rfl) w0 (fun _ h9 => h9) rfl dX12_stuckLine_103 ?_
            refine lv_iload_n hx hb dX12_stuckLine_106 rfl (lv_at hl 0 rfl) ?_
            refine lv_iconst (v := 1) hx hb dX12_stuckLine_107 rfl ?_
            refine lv_iadd hx hb dX12_stuckLine_108 ?_
            refine lv_iload_n hx hb dX12_stuckLine_109 rfl (lv_at hl 1 rfl) ?_
            refine xiast (wx := [(a0, .inr (12, [.int u_7.1, .ref a1, .ref a2, .ref a3, .int u_7.2.2.2.2.1, .int u_7.2.2.2.2.2.1, .int u_7.2.2.2.2.2.2.1, .int u_7.2.2.2.2.2.2.2.1, .int u_7.2.2.2.2.2.2.2.2.1, .long u_7.2.2.2.2.2.2.2.2.2.1, .int u_7.2.2.2.2.2.2.2.2.2.2.1, .int u_7.2.2.2.2.2.2.2.2.2.2.2.1, .int u_7.2.2.2.2.2.2.2.2.2.2.2.2.1, .ref a4, .int u_7.2.2.2.2.2.2.2.2.2.2.2.2.2.2.1, .int u_7.2.2.2.2.2.2.2.2.2.2.2.2.2.2.2.1, .int u_7.2.2.2.2.2.2.2.2.2.2.2.2.2.2.2.2.1, .int u_7.2.2.2.2.2.2.2.2.2.2.2.2.2.2.2.2.2.1, .int u_7.2.2.2.2.2.2.2.2.2.2.2.2.2.2.2.2.2.2.1, .long u_7.2.2.2.2.2.2.2.2.2.2.2.2.2.2.2.2.2.2.2.1, .long u_7.2.2.2.2.2.2.2.2.2.2.2.2.2.2.2.2.2.2.2.2.1, .ref a5])), (a1, .inl (ca 0, 4725, .inl u_7.2.1)), (a2, .inl (ca 2, 1500, .inl u_7.2.2.1)), (a3, .inl (ca 3, 3, .inl u_7.2.2.2.1)), (a4, .inl (ca 0, 22, .inl ((upd y_9 (x_8 + (1 : Int32)).toNatClampNeg u_5.2.2.2.2.2.2.2.2.2.2.2.2.2.2.1)))), (a5, .inl (ca 0, 256, .inl u_7.2.2.2.2.2.2.2.2.2.2.2.2.2.2.2.2.2.2.2.2.2))]) hx hb hK hP hD hS 4 rfl hf dX12_stuckLine_110 rfl (fun H locs hf hP hD hS => ?_)
            obtain ⟨y_10, ey_10, hf⟩ := bnd_el hf
            rw [← ey_10] at hP hD
            refine lv_aload_n hx hb dX12_stuckLine_111 rfl (lv_at hl 3 rfl) ?_
            refine va_get (C := RX12) (T := TX12) (N := 22) hx hb hts i12 hown hK hP 0 rfl rfl 13 (Nat.le_of_ble_eq_true rfl) w0 (fun _ h9 => h9) rfl dX12_stuckLine_112 ?_
            refine lv_iload_n hx hb dX12_stuckLine_115 rfl (lv_at hl 0 rfl) ?_
            refine lv_iconst (v := 2) hx hb dX12_stuckLine_116 rfl ?_
            refine lv_iadd hx hb dX12_stuckLine_117 ?_
            refine lv_aload_n hx hb dX12_stuckLine_118 rfl (lv_at hl 3 rfl) ?_
            refine va_get (C := RX12) (T := TX12) (N := 22) hx hb hts i12 hown hK hP 0 rfl rfl 14 (Nat.le_of_ble_eq_true rfl) w1 (fun _ h9 => h9) rfl dX12_stuckLine_119 ?_
            refine xiast (wx := [(a0, .inr (12, [.int u_7.1, .ref a1, .ref a2, .ref a3, .int u_7.2.2.2.2.1, .int u_7.2.2.2.2.2.1, .int u_7.2.2.2.2.2.2.1, .int u_7.2.2.2.2.2.2.2.1, .int u_7.2.2.2.2.2.2.2.2.1, .long u_7.2.2.2.2.2.2.2.2.2.1, .int u_7.2.2.2.2.2.2.2.2.2.2.1, .int u_7.2.2.2.2.2.2.2.2.2.2.2.1, .int u_7.2.2.2.2.2.2.2.2.2.2.2.2.1, .ref a4, .int u_7.2.2.2.2.2.2.2.2.2.2.2.2.2.2.1, .int u_7.2.2.2.2.2.2.2.2.2.2.2.2.2.2.2.1, .int u_7.2.2.2.2.2.2.2.2.2.2.2.2.2.2.2.2.1, .int u_7.2.2.2.2.2.2.2.2.2.2.2.2.2.2.2.2.2.1, .int u_7.2.2.2.2.2.2.2.2.2.2.2.2.2.2.2.2.2.2.1, .long u_7.2.2.2.2.2.2.2.2.2.2.2.2.2.2.2.2.2.2.2.1, .long u_7.2.2.2.2.2.2.2.2.2.2.2.2.2.2.2.2.2.2.2.2.1, .ref a5])), (a1, .inl (ca 0, 4725, .inl u_7.2.1)), (a2, .inl (ca 2, 1500, .inl u_7.2.2.1)), (a3, .inl (ca 3, 3, .inl u_7.2.2.2.1)), (a4, .inl (ca 0, 22, .inl ((upd y_10 (x_8 + (2 : Int32)).toNatClampNeg u_7.2.2.2.2.2.2.2.2.2.2.2.2.2.2.1)))), (a5, .inl (ca 0, 256, .inl u_7.2.2.2.2.2.2.2.2.2.2.2.2.2.2.2.2.2.2.2.2.2))]) hx hb hK hP hD hS 4 rfl hf dX12_stuckLine_122 rfl (fun H locs hf hP hD hS => ?_)
            obtain ⟨y_11, ey_11, hf⟩ := bnd_el hf
            rw [← ey_11] at hP hD
            refine lv_aload_n hx hb dX12_stuckLine_123 rfl (lv_at hl 3 rfl) ?_
            refine va_get (C := RX12) (T := TX12) (N := 22) hx hb hts i12 hown hK hP 0 rfl rfl 13 (Nat.le_of_ble_eq_true rfl) w0 (fun _ h9 => h9) rfl dX12_stuckLine_124 ?_
            refine lv_bipush (v := 9) hx hb dX12_stuckLine_127 rfl ?_
            refine lv_dup2_11 hx hb dX12_stuckLine_129 rfl rfl ?_
            refine xiald hx hb hK hP 4 rfl hf dX12_stuckLine_130 (fun hf => ?_)
            refine lv_iconst (v := 1) hx hb dX12_stuckLine_131 rfl ?_
            refine lv_iadd hx hb dX12_stuckLine_132 ?_
            refine xiast (wx := [(a0, .inr (12, [.int u_7.1, .ref a1, .ref a2, .ref a3, .int u_7.2.2.2.2.1, .int u_7.2.2.2.2.2.1, .int u_7.2.2.2.2.2.2.1, .int u_7.2.2.2.2.2.2.2.1, .int u_7.2.2.2.2.2.2.2.2.1, .long u_7.2.2.2.2.2.2.2.2.2.1, .int u_7.2.2.2.2.2.2.2.2.2.2.1, .int u_7.2.2.2.2.2.2.2.2.2.2.2.1, .int u_7.2.2.2.2.2.2.2.2.2.2.2.2.1, .ref a4, .int u_7.2.2.2.2.2.2.2.2.2.2.2.2.2.2.1, .int u_7.2.2.2.2.2.2.2.2.2.2.2.2.2.2.2.1, .int u_7.2.2.2.2.2.2.2.2.2.2.2.2.2.2.2.2.1, .int u_7.2.2.2.2.2.2.2.2.2.2.2.2.2.2.2.2.2.1, .int u_7.2.2.2.2.2.2.2.2.2.2.2.2.2.2.2.2.2.2.1, .long u_7.2.2.2.2.2.2.2.2.2.2.2.2.2.2.2.2.2.2.2.1, .long u_7.2.2.2.2.2.2.2.2.2.2.2.2.2.2.2.2.2.2.2.2.1, .ref a5])), (a1, .inl (ca 0, 4725, .inl u_7.2.1)), (a2, .inl (ca 2, 1500, .inl u_7.2.2.1)), (a3, .inl (ca 3, 3, .inl u_7.2.2.2.1)), (a4, .inl (ca 0, 22, .inl ((upd y_11 ((9 : Int32)).toNatClampNeg ((y_11 ((9 : Int32)).toNatClampNeg) + (1 : Int32)))))), (a5, .inl (ca 0, 256, .inl u_7.2.2.2.2.2.2.2.2.2.2.2.2.2.2.2.2.2.2.2.2.2))]) hx hb hK hP hD hS 4 rfl hf dX12_stuckLine_133 rfl (fun H locs hf hP hD hS => ?_)
            obtain ⟨y_12, ey_12, hf⟩ := bnd_el hf
            rw [← ey_12] at hP hD
            refine lv_iconst (v := 1) hx hb dX12_stuckLine_134 rfl ?_
            have he := Option.some.inj hf
            obtain ⟨e_r, he⟩ := Prod.mk.inj he
            have e_v0 := he
            refine rt_Z hx hb hr hlocks hK hP hD hS hQ (Or.inr rfl) e_r ?_ dX12_stuckLine_135
            simp only [← e_v0]
        · refine lv_iconst (v := 0) hx hb dX12_stuckLine_69 rfl ?_
          have he := Option.some.inj hf
          obtain ⟨e_r, he⟩ := Prod.mk.inj he
          have e_v0 := he
          refine rt_Z hx hb hr hlocks hK hP hD hS hQ (Or.inl rfl) e_r ?_ dX12_stuckLine_70
          simp only [← e_v0]
      · refine lv_iconst (v := 0) hx hb dX12_stuckLine_53 rfl ?_
        have he := Option.some.inj hf
        obtain ⟨e_r, he⟩ := Prod.mk.inj he
        have e_v0 := he
        refine rt_Z hx hb hr hlocks hK hP hD hS hQ (Or.inl rfl) e_r ?_ dX12_stuckLine_54
        simp only [← e_v0]
    · refine lv_iconst (v := 0) hx hb dX12_stuckLine_35 rfl ?_
      have he := Option.some.inj hf
      obtain ⟨e_r, he⟩ := Prod.mk.inj he
      have e_v0 := he
      refine rt_Z hx hb hr hlocks hK hP hD hS hQ (Or.inl rfl) e_r ?_ dX12_stuckLine_36
      simp only [← e_v0]
  unfold f_X12_stuckLine at hf
  refine lv_aload_n hx hb dX12_stuckLine_0 rfl (lv_at hl 0 rfl) ?_
  refine va_get (C := RX12) (T := TX12) (N := 22) hx hb hts i12 hown hK hP 0 rfl rfl 13 (Nat.le_of_ble_eq_true rfl) w0 (fun _ h9 => h9) rfl dX12_stuckLine_1 ?_
  refine lv_bipush (v := 9) hx hb dX12_stuckLine_4 rfl ?_
  refine xiald hx hb hK hP 4 rfl hf dX12_stuckLine_6 (fun hf => ?_)
  refine lv_iconst (v := 4) hx hb dX12_stuckLine_7 rfl ?_
  refine xc_ne (tgt := 20) hx hb dX12_stuckLine_8 (by decide) hf (fun hf => ?_) (fun hf => ?_)
  · exact b20 v0 hf _ _ _ hP hD hS (lv_sub hl [0] rfl)
  · refine lv_aload_n hx hb dX12_stuckLine_11 rfl (lv_at hl 0 rfl) ?_
    refine lv_iconst (v := 3) hx hb dX12_stuckLine_12 rfl ?_
    refine lv_aload_n hx hb dX12_stuckLine_13 rfl (lv_at hl 0 rfl) ?_
    refine va_get (C := RX12) (T := TX12) (N := 22) hx hb hts i12 hown hK hP 0 rfl rfl 6 (Nat.le_of_ble_eq_true rfl) w2 (fun _ h9 => h9) rfl dX12_stuckLine_14 ?_
    obtain ⟨u_13, hc13, hf⟩ := bnd1_el hf
    refine xV_V (As := [.int (3 : Int32), .int v0.2.2.2.2.2.2.1]) (wx := [(a0, .inr (12, [.int u_13.1, .ref a1, .ref a2, .ref a3, .int u_13.2.2.2.2.1, .int u_13.2.2.2.2.2.1, .int u_13.2.2.2.2.2.2.1, .int u_13.2.2.2.2.2.2.2.1, .int u_13.2.2.2.2.2.2.2.2.1, .long u_13.2.2.2.2.2.2.2.2.2.1, .int u_13.2.2.2.2.2.2.2.2.2.2.1, .int u_13.2.2.2.2.2.2.2.2.2.2.2.1, .int u_13.2.2.2.2.2.2.2.2.2.2.2.2.1, .ref a4, .int u_13.2.2.2.2.2.2.2.2.2.2.2.2.2.2.1, .int u_13.2.2.2.2.2.2.2.2.2.2.2.2.2.2.2.1, .int u_13.2.2.2.2.2.2.2.2.2.2.2.2.2.2.2.2.1, .int u_13.2.2.2.2.2.2.2.2.2.2.2.2.2.2.2.2.2.1, .int u_13.2.2.2.2.2.2.2.2.2.2.2.2.2.2.2.2.2.2.1, .long u_13.2.2.2.2.2.2.2.2.2.2.2.2.2.2.2.2.2.2.2.1, .long u_13.2.2.2.2.2.2.2.2.2.2.2.2.2.2.2.2.2.2.2.2.1, .ref a5])), (a1, .inl (ca 0, 4725, .inl u_13.2.1)), (a2, .inl (ca 2, 1500, .inl u_13.2.2.1)), (a3, .inl (ca 3, 3, .inl u_13.2.2.2.1)), (a4, .inl (ca 0, 22, .inl u_13.2.2.2.2.2.2.2.2.2.2.2.2.2.1)), (a5, .inl (ca 0, 256, .inl u_13.2.2.2.2.2.2.2.2.2.2.2.2.2.2.2.2.2.2.2.2.2))]) ⟨hx, hb, hml, hown, hts⟩ (c_X12_isBad l D ca zz a0 a1 a2 a3 a4 a5 _ v0 (3 : Int32) v0.2.2.2.2.2.2.1 u_13 hc13) (cwV 2 hts (gV gw_5_212 gw_5_214 gw_s_3_0 gw_1_15 gw_5_215) rfl rfl rfl (by decide +kernel) ⟨(Nat.le_of_ble_eq_true rfl), (Nat.le_of_ble_eq_true rfl)⟩) hK hN hZ hA hP hD hS [0, 1, 2, 3, 4, 5] [some 0, some 1, some 2, some 3, some 4, some 5] (by decide +kernel) rfl rfl rfl rfl 0 rfl rfl hl.1 rfl (Nat.le_of_ble_eq_true rfl) dX12_stuckLine_17 ⟨Nat.zero_le _, Nat.zero_le _⟩ rfl (fun H locs hP hD hS => ?_)
    exact b20 u_13 hf _ _ _ hP hD hS (lv_sub hl [0] rfl)
abbrev wq_X12_line : List Cond := Cond.code yX12_line cX12_line 5 (some .boolean) :: GL
set_option maxHeartbeats 4000000 in
set_option maxRecDepth 100000 in
theorem c_X12_line (l : Launch) (D : va_G) (ca : Nat → ClassId) (zz : Nat → Nat) (a0 a1 a2 a3 a4 a5 : Nat) (sz : Nat) (v0 : V12) (r : Int32) (v0' : V12) (hf : f_X12_line v0 = some (r, v0')) : Met l yX12_line wq_X12_line ({ frames := 4, cells := 0, slots := 0, locals := 89 } : Room) (PR D ca zz [.ref a0] sz [(a0, .inr (12, [.int v0.1, .ref a1, .ref a2, .ref a3, .int v0.2.2.2.2.1, .int v0.2.2.2.2.2.1, .int v0.2.2.2.2.2.2.1, .int v0.2.2.2.2.2.2.2.1, .int v0.2.2.2.2.2.2.2.2.1, .long v0.2.2.2.2.2.2.2.2.2.1, .int v0.2.2.2.2.2.2.2.2.2.2.1, .int v0.2.2.2.2.2.2.2.2.2.2.2.1, .int v0.2.2.2.2.2.2.2.2.2.2.2.2.1, .ref a4, .int v0.2.2.2.2.2.2.2.2.2.2.2.2.2.2.1, .int v0.2.2.2.2.2.2.2.2.2.2.2.2.2.2.2.1, .int v0.2.2.2.2.2.2.2.2.2.2.2.2.2.2.2.2.1, .int v0.2.2.2.2.2.2.2.2.2.2.2.2.2.2.2.2.2.1, .int v0.2.2.2.2.2.2.2.2.2.2.2.2.2.2.2.2.2.2.1, .long v0.2.2.2.2.2.2.2.2.2.2.2.2.2.2.2.2.2.2.2.1, .long v0.2.2.2.2.2.2.2.2.2.2.2.2.2.2.2.2.2.2.2.2.1, .ref a5])), (a1, .inl (ca 0, 4725, .inl v0.2.1)), (a2, .inl (ca 2, 1500, .inl v0.2.2.1)), (a3, .inl (ca 3, 3, .inl v0.2.2.2.1)), (a4, .inl (ca 0, 22, .inl v0.2.2.2.2.2.2.2.2.2.2.2.2.2.1)), (a5, .inl (ca 0, 256, .inl v0.2.2.2.2.2.2.2.2.2.2.2.2.2.2.2.2.2.2.2.2.2))]) (QI D ca r [(a0, .inr (12, [.int v0'.1, .ref a1, .ref a2, .ref a3, .int v0'.2.2.2.2.1, .int v0'.2.2.2.2.2.1, .int v0'.2.2.2.2.2.2.1, .int v0'.2.2.2.2.2.2.2.1, .int v0'.2.2.2.2.2.2.2.2.1, .long v0'.2.2.2.2.2.2.2.2.2.1, .int v0'.2.2.2.2.2.2.2.2.2.2.1, .int v0'.2.2.2.2.2.2.2.2.2.2.2.1, .int v0'.2.2.2.2.2.2.2.2.2.2.2.2.1, .ref a4, .int v0'.2.2.2.2.2.2.2.2.2.2.2.2.2.2.1, .int v0'.2.2.2.2.2.2.2.2.2.2.2.2.2.2.2.1, .int v0'.2.2.2.2.2.2.2.2.2.2.2.2.2.2.2.2.1, .int v0'.2.2.2.2.2.2.2.2.2.2.2.2.2.2.2.2.2.1, .int v0'.2.2.2.2.2.2.2.2.2.2.2.2.2.2.2.2.2.2.1, .long v0'.2.2.2.2.2.2.2.2.2.2.2.2.2.2.2.2.2.2.2.1, .long v0'.2.2.2.2.2.2.2.2.2.2.2.2.2.2.2.2.2.2.2.2.1, .ref a5])), (a1, .inl (ca 0, 4725, .inl v0'.2.1)), (a2, .inl (ca 2, 1500, .inl v0'.2.2.1)), (a3, .inl (ca 3, 3, .inl v0'.2.2.2.1)), (a4, .inl (ca 0, 22, .inl v0'.2.2.2.2.2.2.2.2.2.2.2.2.2.1)), (a5, .inl (ca 0, 256, .inl v0'.2.2.2.2.2.2.2.2.2.2.2.2.2.2.2.2.2.2.2.2.2))] (va_A [(a0, .inr (12, [.int v0.1, .ref a1, .ref a2, .ref a3, .int v0.2.2.2.2.1, .int v0.2.2.2.2.2.1, .int v0.2.2.2.2.2.2.1, .int v0.2.2.2.2.2.2.2.1, .int v0.2.2.2.2.2.2.2.2.1, .long v0.2.2.2.2.2.2.2.2.2.1, .int v0.2.2.2.2.2.2.2.2.2.2.1, .int v0.2.2.2.2.2.2.2.2.2.2.2.1, .int v0.2.2.2.2.2.2.2.2.2.2.2.2.1, .ref a4, .int v0.2.2.2.2.2.2.2.2.2.2.2.2.2.2.1, .int v0.2.2.2.2.2.2.2.2.2.2.2.2.2.2.2.1, .int v0.2.2.2.2.2.2.2.2.2.2.2.2.2.2.2.2.1, .int v0.2.2.2.2.2.2.2.2.2.2.2.2.2.2.2.2.2.1, .int v0.2.2.2.2.2.2.2.2.2.2.2.2.2.2.2.2.2.2.1, .long v0.2.2.2.2.2.2.2.2.2.2.2.2.2.2.2.2.2.2.2.1, .long v0.2.2.2.2.2.2.2.2.2.2.2.2.2.2.2.2.2.2.2.2.1, .ref a5])), (a1, .inl (ca 0, 4725, .inl v0.2.1)), (a2, .inl (ca 2, 1500, .inl v0.2.2.1)), (a3, .inl (ca 3, 3, .inl v0.2.2.2.1)), (a4, .inl (ca 0, 22, .inl v0.2.2.2.2.2.2.2.2.2.2.2.2.2.1)), (a5, .inl (ca 0, 256, .inl v0.2.2.2.2.2.2.2.2.2.2.2.2.2.2.2.2.2.2.2.2.2))] sz)) 0 0 (va_A [(a0, .inr (12, [.int v0.1, .ref a1, .ref a2, .ref a3, .int v0.2.2.2.2.1, .int v0.2.2.2.2.2.1, .int v0.2.2.2.2.2.2.1, .int v0.2.2.2.2.2.2.2.1, .int v0.2.2.2.2.2.2.2.2.1, .long v0.2.2.2.2.2.2.2.2.2.1, .int v0.2.2.2.2.2.2.2.2.2.2.1, .int v0.2.2.2.2.2.2.2.2.2.2.2.1, .int v0.2.2.2.2.2.2.2.2.2.2.2.2.1, .ref a4, .int v0.2.2.2.2.2.2.2.2.2.2.2.2.2.2.1, .int v0.2.2.2.2.2.2.2.2.2.2.2.2.2.2.2.1, .int v0.2.2.2.2.2.2.2.2.2.2.2.2.2.2.2.2.1, .int v0.2.2.2.2.2.2.2.2.2.2.2.2.2.2.2.2.2.1, .int v0.2.2.2.2.2.2.2.2.2.2.2.2.2.2.2.2.2.2.1, .long v0.2.2.2.2.2.2.2.2.2.2.2.2.2.2.2.2.2.2.2.1, .long v0.2.2.2.2.2.2.2.2.2.2.2.2.2.2.2.2.2.2.2.2.1, .ref a5])), (a1, .inl (ca 0, 4725, .inl v0.2.1)), (a2, .inl (ca 2, 1500, .inl v0.2.2.1)), (a3, .inl (ca 3, 3, .inl v0.2.2.2.1)), (a4, .inl (ca 0, 22, .inl v0.2.2.2.2.2.2.2.2.2.2.2.2.2.1)), (a5, .inl (ca 0, 256, .inl v0.2.2.2.2.2.2.2.2.2.2.2.2.2.2.2.2.2.2.2.2.2))] sz) := by
  refine en (y := yX12_line) (wsm := wq_X12_line) (av := [.ref a0]) (cc := cX12_line) (maxL := 5) (ret := (some .boolean)) (Qf := fun A => (QI D ca r [(a0, .inr (12, [.int v0'.1, .ref a1, .ref a2, .ref a3, .int v0'.2.2.2.2.1, .int v0'.2.2.2.2.2.1, .int v0'.2.2.2.2.2.2.1, .int v0'.2.2.2.2.2.2.2.1, .int v0'.2.2.2.2.2.2.2.2.1, .long v0'.2.2.2.2.2.2.2.2.2.1, .int v0'.2.2.2.2.2.2.2.2.2.2.1, .int v0'.2.2.2.2.2.2.2.2.2.2.2.1, .int v0'.2.2.2.2.2.2.2.2.2.2.2.2.1, .ref a4, .int v0'.2.2.2.2.2.2.2.2.2.2.2.2.2.2.1, .int v0'.2.2.2.2.2.2.2.2.2.2.2.2.2.2.2.1, .int v0'.2.2.2.2.2.2.2.2.2.2.2.2.2.2.2.2.1, .int v0'.2.2.2.2.2.2.2.2.2.2.2.2.2.2.2.2.2.1, .int v0'.2.2.2.2.2.2.2.2.2.2.2.2.2.2.2.2.2.2.1, .long v0'.2.2.2.2.2.2.2.2.2.2.2.2.2.2.2.2.2.2.2.1, .long v0'.2.2.2.2.2.2.2.2.2.2.2.2.2.2.2.2.2.2.2.2.1, .ref a5])), (a1, .inl (ca 0, 4725, .inl v0'.2.1)), (a2, .inl (ca 2, 1500, .inl v0'.2.2.1)), (a3, .inl (ca 3, 3, .inl v0'.2.2.2.1)), (a4, .inl (ca 0, 22, .inl v0'.2.2.2.2.2.2.2.2.2.2.2.2.2.1)), (a5, .inl (ca 0, 256, .inl v0'.2.2.2.2.2.2.2.2.2.2.2.2.2.2.2.2.2.2.2.2.2))] A)) (by decide) rfl (Nat.le_of_ble_eq_true rfl) ?_
  intro p e s m args below meth c A Q ls hx hb hr hml hown hts hlocks hnm hA hN hZ hK hQ hP hD hS hl
  have w0 := hts _ (List.mem_cons_of_mem _ gw_5_122)
  have w1 := hts _ (List.mem_cons_of_mem _ gw_5_207)
  have w2 := hts _ (List.mem_cons_of_mem _ gw_5_128)
  have w3 := hts _ (List.mem_cons_of_mem _ gw_5_129)
  have w4 := hts _ (List.mem_cons_of_mem _ gw_5_124)
  have i12 : ∀ w ∈ u_ws RX12 TX12 22, w ∈ wq_X12_line := fun w h => List.mem_cons_of_mem _ (inX12 w h)
  have b16 : ∀ (v0 : V12) (t0 : Int64), fc_X12_line_16 v0 t0 = some (r, v0') → ∀ (H : Heap) (locs : List Loc) (ls : Array Slot), va_P D vwCl [(a0, .inr (12, [.int v0.1, .ref a1, .ref a2, .ref a3, .int v0.2.2.2.2.1, .int v0.2.2.2.2.2.1, .int v0.2.2.2.2.2.2.1, .int v0.2.2.2.2.2.2.2.1, .int v0.2.2.2.2.2.2.2.2.1, .long v0.2.2.2.2.2.2.2.2.2.1, .int v0.2.2.2.2.2.2.2.2.2.2.1, .int v0.2.2.2.2.2.2.2.2.2.2.2.1, .int v0.2.2.2.2.2.2.2.2.2.2.2.2.1, .ref a4, .int v0.2.2.2.2.2.2.2.2.2.2.2.2.2.2.1, .int v0.2.2.2.2.2.2.2.2.2.2.2.2.2.2.2.1, .int v0.2.2.2.2.2.2.2.2.2.2.2.2.2.2.2.2.1, .int v0.2.2.2.2.2.2.2.2.2.2.2.2.2.2.2.2.2.1, .int v0.2.2.2.2.2.2.2.2.2.2.2.2.2.2.2.2.2.2.1, .long v0.2.2.2.2.2.2.2.2.2.2.2.2.2.2.2.2.2.2.2.1, .long v0.2.2.2.2.2.2.2.2.2.2.2.2.2.2.2.2.2.2.2.2.1, .ref a5])), (a1, .inl (ca 0, 4725, .inl v0.2.1)), (a2, .inl (ca 2, 1500, .inl v0.2.2.1)), (a3, .inl (ca 3, 3, .inl v0.2.2.2.1)), (a4, .inl (ca 0, 22, .inl v0.2.2.2.2.2.2.2.2.2.2.2.2.2.1)), (a5, .inl (ca 0, 256, .inl v0.2.2.2.2.2.2.2.2.2.2.2.2.2.2.2.2.2.2.2.2.2))] H → va_D A [(a0, .inr (12, [.int v0.1, .ref a1, .ref a2, .ref a3, .int v0.2.2.2.2.1, .int v0.2.2.2.2.2.1, .int v0.2.2.2.2.2.2.1, .int v0.2.2.2.2.2.2.2.1, .int v0.2.2.2.2.2.2.2.2.1, .long v0.2.2.2.2.2.2.2.2.2.1, .int v0.2.2.2.2.2.2.2.2.2.2.1, .int v0.2.2.2.2.2.2.2.2.2.2.2.1, .int v0.2.2.2.2.2.2.2.2.2.2.2.2.1, .ref a4, .int v0.2.2.2.2.2.2.2.2.2.2.2.2.2.2.1, .int v0.2.2.2.2.2.2.2.2.2.2.2.2.2.2.2.1, .int v0.2.2.2.2.2.2.2.2.2.2.2.2.2.2.2.2.1, .int v0.2.2.2.2.2.2.2.2.2.2.2.2.2.2.2.2.2.1, .int v0.2.2.2.2.2.2.2.2.2.2.2.2.2.2.2.2.2.2.1, .long v0.2.2.2.2.2.2.2.2.2.2.2.2.2.2.2.2.2.2.2.1, .long v0.2.2.2.2.2.2.2.2.2.2.2.2.2.2.2.2.2.2.2.2.1, .ref a5])), (a1, .inl (ca 0, 4725, .inl v0.2.1)), (a2, .inl (ca 2, 1500, .inl v0.2.2.1)), (a3, .inl (ca 3, 3, .inl v0.2.2.2.1)), (a4, .inl (ca 0, 22, .inl v0.2.2.2.2.2.2.2.2.2.2.2.2.2.1)), (a5, .inl (ca 0, 256, .inl v0.2.2.2.2.2.2.2.2.2.2.2.2.2.2.2.2.2.2.2.2.2))] → va_S A s.heap H locs → lv_has ls 5 [(0, .ref a0)] → W p l e ({ frames := 4, cells := 0, slots := 0, locals := 89 } : Room) s m args below meth c H locs 0 0 Q (F0 m 16 ls [.long t0]) := by
    intro v0 t0 hf H locs ls hP hD hS hl
    unfold fc_X12_line_16 at hf
    refine lv_lstore_n (lv' := [(1, .long t0), (0, .ref a0)]) hx hb dX12_line_16 rfl hl (Nat.le_of_ble_eq_true rfl) rfl (fun ls hl => ?_)
    refine lv_lload_n hx hb dX12_line_17 rfl (lv_at hl 0 rfl) ?_
    refine lv_ldc2 hx hb hown w1 dX12_line_18 ?_
    refine xl_ne (tgt := 30) hx hb dX12_line_21 dX12_line_22 (by decide) hf (fun hf => ?_) (fun hf => ?_)
    · refine lv_lload_n hx hb dX12_line_30 rfl (lv_at hl 0 rfl) ?_
      obtain ⟨r_1, hc1, hf⟩ := bnd1_el hf
      refine xS_I (As := [.long t0]) (wx := [(a0, .inr (12, [.int v0.1, .ref a1, .ref a2, .ref a3, .int v0.2.2.2.2.1, .int v0.2.2.2.2.2.1, .int v0.2.2.2.2.2.2.1, .int v0.2.2.2.2.2.2.2.1, .int v0.2.2.2.2.2.2.2.2.1, .long v0.2.2.2.2.2.2.2.2.2.1, .int v0.2.2.2.2.2.2.2.2.2.2.1, .int v0.2.2.2.2.2.2.2.2.2.2.2.1, .int v0.2.2.2.2.2.2.2.2.2.2.2.2.1, .ref a4, .int v0.2.2.2.2.2.2.2.2.2.2.2.2.2.2.1, .int v0.2.2.2.2.2.2.2.2.2.2.2.2.2.2.2.1, .int v0.2.2.2.2.2.2.2.2.2.2.2.2.2.2.2.2.1, .int v0.2.2.2.2.2.2.2.2.2.2.2.2.2.2.2.2.2.1, .int v0.2.2.2.2.2.2.2.2.2.2.2.2.2.2.2.2.2.2.1, .long v0.2.2.2.2.2.2.2.2.2.2.2.2.2.2.2.2.2.2.2.1, .long v0.2.2.2.2.2.2.2.2.2.2.2.2.2.2.2.2.2.2.2.2.1, .ref a5])), (a1, .inl (ca 0, 4725, .inl v0.2.1)), (a2, .inl (ca 2, 1500, .inl v0.2.2.1)), (a3, .inl (ca 3, 3, .inl v0.2.2.2.1)), (a4, .inl (ca 0, 22, .inl v0.2.2.2.2.2.2.2.2.2.2.2.2.2.1)), (a5, .inl (ca 0, 256, .inl v0.2.2.2.2.2.2.2.2.2.2.2.2.2.2.2.2.2.2.2.2.2))]) ⟨hx, hb, hml, hown, hts⟩ (c_X12_settingOf l D ca zz  _ t0 r_1 hc1) (va_cwS 1 hts (gS gw_5_224 gw_5_225 gw_1_15 gw_5_226) rfl rfl rfl (by decide +kernel) ⟨(Nat.le_of_ble_eq_true rfl), (Nat.le_of_ble_eq_true rfl)⟩) hK hN hZ hA hP hD hS [] [none, none, none, none, none, none] (by decide +kernel) rfl rfl rfl rfl hl.1 rfl (Nat.le_of_ble_eq_true rfl) dX12_line_31 ⟨Nat.zero_le _, Nat.zero_le _⟩ rfl (fun H locs hP hD hS => ?_)
      refine lv_istore_n (lv' := [(3, .int r_1), (1, .long t0), (0, .ref a0)]) hx hb dX12_line_34 rfl hl (Nat.le_of_ble_eq_true rfl) rfl (fun ls hl => ?_)
      refine lv_iload_n hx hb dX12_line_35 rfl (lv_at hl 0 rfl) ?_
      refine lv_iconst (v := -1) hx hb dX12_line_36 rfl ?_
      refine xc_ne (tgt := 45) hx hb dX12_line_37 (by decide) hf (fun hf => ?_) (fun hf => ?_)
      · refine lv_aload_n hx hb dX12_line_45 rfl (lv_at hl 2 rfl) ?_
        obtain ⟨u_2, hc2, hf⟩ := bnd1_el hf
        refine xV_V (As := []) (wx := [(a0, .inr (12, [.int u_2.1, .ref a1, .ref a2, .ref a3, .int u_2.2.2.2.2.1, .int u_2.2.2.2.2.2.1, .int u_2.2.2.2.2.2.2.1, .int u_2.2.2.2.2.2.2.2.1, .int u_2.2.2.2.2.2.2.2.2.1, .long u_2.2.2.2.2.2.2.2.2.2.1, .int u_2.2.2.2.2.2.2.2.2.2.2.1, .int u_2.2.2.2.2.2.2.2.2.2.2.2.1, .int u_2.2.2.2.2.2.2.2.2.2.2.2.2.1, .ref a4, .int u_2.2.2.2.2.2.2.2.2.2.2.2.2.2.2.1, .int u_2.2.2.2.2.2.2.2.2.2.2.2.2.2.2.2.1, .int u_2.2.2.2.2.2.2.2.2.2.2.2.2.2.2.2.2.1, .int u_2.2.2.2.2.2.2.2.2.2.2.2.2.2.2.2.2.2.1, .int u_2.2.2.2.2.2.2.2.2.2.2.2.2.2.2.2.2.2.2.1, .long u_2.2.2.2.2.2.2.2.2.2.2.2.2.2.2.2.2.2.2.2.1, .long u_2.2.2.2.2.2.2.2.2.2.2.2.2.2.2.2.2.2.2.2.2.1, .ref a5])), (a1, .inl (ca 0, 4725, .inl u_2.2.1)), (a2, .inl (ca 2, 1500, .inl u_2.2.2.1)), (a3, .inl (ca 3, 3, .inl u_2.2.2.2.1)), (a4, .inl (ca 0, 22, .inl u_2.2.2.2.2.2.2.2.2.2.2.2.2.2.1)), (a5, .inl (ca 0, 256, .inl u_2.2.2.2.2.2.2.2.2.2.2.2.2.2.2.2.2.2.2.2.2.2))]) ⟨hx, hb, hml, hown, hts⟩ (c_X12_token l D ca zz a0 a1 a2 a3 a4 a5 _ v0 u_2 hc2) (cwV 0 hts (gV gw_5_192 gw_5_194 gw_s_2_12 gw_1_15 gw_5_195) rfl rfl rfl (by decide +kernel) ⟨(Nat.le_of_ble_eq_true rfl), (Nat.le_of_ble_eq_true rfl)⟩) hK hN hZ hA hP hD hS [0, 1, 2, 3, 4, 5] [some 0, some 1, some 2, some 3, some 4, some 5] (by decide +kernel) rfl rfl rfl rfl 0 rfl rfl hl.1 rfl (Nat.le_of_ble_eq_true rfl) dX12_line_46 ⟨Nat.zero_le _, Nat.zero_le _⟩ rfl (fun H locs hP hD hS => ?_)
        refine lv_aload_n hx hb dX12_line_49 rfl (lv_at hl 2 rfl) ?_
        refine lv_iload_n hx hb dX12_line_50 rfl (lv_at hl 0 rfl) ?_
        obtain ⟨r_3, hc3, hf⟩ := bnd1_el hf
        refine xS_I (As := [.int r_1]) (wx := [(a0, .inr (12, [.int u_2.1, .ref a1, .ref a2, .ref a3, .int u_2.2.2.2.2.1, .int u_2.2.2.2.2.2.1, .int u_2.2.2.2.2.2.2.1, .int u_2.2.2.2.2.2.2.2.1, .int u_2.2.2.2.2.2.2.2.2.1, .long u_2.2.2.2.2.2.2.2.2.2.1, .int u_2.2.2.2.2.2.2.2.2.2.2.1, .int u_2.2.2.2.2.2.2.2.2.2.2.2.1, .int u_2.2.2.2.2.2.2.2.2.2.2.2.2.1, .ref a4, .int u_2.2.2.2.2.2.2.2.2.2.2.2.2.2.2.1, .int u_2.2.2.2.2.2.2.2.2.2.2.2.2.2.2.2.1, .int u_2.2.2.2.2.2.2.2.2.2.2.2.2.2.2.2.2.1, .int u_2.2.2.2.2.2.2.2.2.2.2.2.2.2.2.2.2.2.1, .int u_2.2.2.2.2.2.2.2.2.2.2.2.2.2.2.2.2.2.2.1, .long u_2.2.2.2.2.2.2.2.2.2.2.2.2.2.2.2.2.2.2.2.1, .long u_2.2.2.2.2.2.2.2.2.2.2.2.2.2.2.2.2.2.2.2.2.1, .ref a5])), (a1, .inl (ca 0, 4725, .inl u_2.2.1)), (a2, .inl (ca 2, 1500, .inl u_2.2.2.1)), (a3, .inl (ca 3, 3, .inl u_2.2.2.2.1)), (a4, .inl (ca 0, 22, .inl u_2.2.2.2.2.2.2.2.2.2.2.2.2.2.1)), (a5, .inl (ca 0, 256, .inl u_2.2.2.2.2.2.2.2.2.2.2.2.2.2.2.2.2.2.2.2.2.2))]) ⟨hx, hb, hml, hown, hts⟩ (c_X12_leastOf l D ca zz  _ r_1 r_3 hc3) (va_cwS 1 hts (gS gw_5_236 gw_5_237 gw_1_15 gw_5_238) rfl rfl rfl (by decide +kernel) ⟨(Nat.le_of_ble_eq_true rfl), (Nat.le_of_ble_eq_true rfl)⟩) hK hN hZ hA hP hD hS [] [none, none, none, none, none, none] (by decide +kernel) rfl rfl rfl rfl hl.1 rfl (Nat.le_of_ble_eq_true rfl) dX12_line_51 ⟨Nat.zero_le _, Nat.zero_le _⟩ rfl (fun H locs hP hD hS => ?_)
        refine lv_iload_n hx hb dX12_line_54 rfl (lv_at hl 0 rfl) ?_
        obtain ⟨r_4, hc4, hf⟩ := bnd1_el hf
        refine xS_I (As := [.int r_1]) (wx := [(a0, .inr (12, [.int u_2.1, .ref a1, .ref a2, .ref a3, .int u_2.2.2.2.2.1, .int u_2.2.2.2.2.2.1, .int u_2.2.2.2.2.2.2.1, .int u_2.2.2.2.2.2.2.2.1, .int u_2.2.2.2.2.2.2.2.2.1, .long u_2.2.2.2.2.2.2.2.2.2.1, .int u_2.2.2.2.2.2.2.2.2.2.2.1, .int u_2.2.2.2.2.2.2.2.2.2.2.2.1, .int u_2.2.2.2.2.2.2.2.2.2.2.2.2.1, .ref a4, .int u_2.2.2.2.2.2.2.2.2.2.2.2.2.2.2.1, .int u_2.2.2.2.2.2.2.2.2.2.2.2.2.2.2.2.1, .int u_2.2.2.2.2.2.2.2.2.2.2.2.2.2.2.2.2.1, .int u_2.2.2.2.2.2.2.2.2.2.2.2.2.2.2.2.2.2.1, .int u_2.2.2.2.2.2.2.2.2.2.2.2.2.2.2.2.2.2.2.1, .long u_2.2.2.2.2.2.2.2.2.2.2.2.2.2.2.2.2.2.2.2.1, .long u_2.2.2.2.2.2.2.2.2.2.2.2.2.2.2.2.2.2.2.2.2.1, .ref a5])), (a1, .inl (ca 0, 4725, .inl u_2.2.1)), (a2, .inl (ca 2, 1500, .inl u_2.2.2.1)), (a3, .inl (ca 3, 3, .inl u_2.2.2.2.1)), (a4, .inl (ca 0, 22, .inl u_2.2.2.2.2.2.2.2.2.2.2.2.2.2.1)), (a5, .inl (ca 0, 256, .inl u_2.2.2.2.2.2.2.2.2.2.2.2.2.2.2.2.2.2.2.2.2.2))]) ⟨hx, hb, hml, hown, hts⟩ (c_X12_mostOf l D ca zz  _ r_1 r_4 hc4) (va_cwS 1 hts (gS gw_5_239 gw_6_0 gw_1_15 gw_6_1) rfl rfl rfl (by decide +kernel) ⟨(Nat.le_of_ble_eq_true rfl), (Nat.le_of_ble_eq_true rfl)⟩) hK hN hZ hA hP hD hS [] [none, none, none, none, none, none] (by decide +kernel) rfl rfl rfl rfl hl.1 rfl (Nat.le_of_ble_eq_true rfl) dX12_line_55 ⟨Nat.zero_le _, Nat.zero_le _⟩ rfl (fun H locs hP hD hS => ?_)
        obtain ⟨r_5, u_6, hc6, hf⟩ := bnd2_el hf
        refine xV_I (As := [.int r_3, .int r_4]) (wx := [(a0, .inr (12, [.int u_6.1, .ref a1, .ref a2, .ref a3, .int u_6.2.2.2.2.1, .int u_6.2.2.2.2.2.1, .int u_6.2.2.2.2.2.2.1, .int u_6.2.2.2.2.2.2.2.1, .int u_6.2.2.2.2.2.2.2.2.1, .long u_6.2.2.2.2.2.2.2.2.2.1, .int u_6.2.2.2.2.2.2.2.2.2.2.1, .int u_6.2.2.2.2.2.2.2.2.2.2.2.1, .int u_6.2.2.2.2.2.2.2.2.2.2.2.2.1, .ref a4, .int u_6.2.2.2.2.2.2.2.2.2.2.2.2.2.2.1, .int u_6.2.2.2.2.2.2.2.2.2.2.2.2.2.2.2.1, .int u_6.2.2.2.2.2.2.2.2.2.2.2.2.2.2.2.2.1, .int u_6.2.2.2.2.2.2.2.2.2.2.2.2.2.2.2.2.2.1, .int u_6.2.2.2.2.2.2.2.2.2.2.2.2.2.2.2.2.2.2.1, .long u_6.2.2.2.2.2.2.2.2.2.2.2.2.2.2.2.2.2.2.2.1, .long u_6.2.2.2.2.2.2.2.2.2.2.2.2.2.2.2.2.2.2.2.2.1, .ref a5])), (a1, .inl (ca 0, 4725, .inl u_6.2.1)), (a2, .inl (ca 2, 1500, .inl u_6.2.2.1)), (a3, .inl (ca 3, 3, .inl u_6.2.2.2.1)), (a4, .inl (ca 0, 22, .inl u_6.2.2.2.2.2.2.2.2.2.2.2.2.2.1)), (a5, .inl (ca 0, 256, .inl u_6.2.2.2.2.2.2.2.2.2.2.2.2.2.2.2.2.2.2.2.2.2))]) ⟨hx, hb, hml, hown, hts⟩ (c_X12_takes l D ca zz a0 a1 a2 a3 a4 a5 _ u_2 r_3 r_4 r_5 u_6 hc6) (cwV 2 hts (gV gw_5_216 gw_5_218 gw_s_3_1 gw_1_15 gw_5_219) rfl rfl rfl (by decide +kernel) ⟨(Nat.le_of_ble_eq_true rfl), (Nat.le_of_ble_eq_true rfl)⟩) hK hN hZ hA hP hD hS [0, 1, 2, 3, 4, 5] [some 0, some 1, some 2, some 3, some 4, some 5] (by decide +kernel) rfl rfl rfl rfl 0 rfl rfl hl.1 rfl (Nat.le_of_ble_eq_true rfl) dX12_line_58 ⟨Nat.zero_le _, Nat.zero_le _⟩ rfl (fun H locs hP hD hS => ?_)
        refine lv_istore (lv' := [(4, .int r_5), (3, .int r_1), (1, .long t0), (0, .ref a0)]) hx hb dX12_line_61 hl (Nat.le_of_ble_eq_true rfl) rfl (fun ls hl => ?_)
        refine lv_aload_n hx hb dX12_line_63 rfl (lv_at hl 3 rfl) ?_
        refine va_get (C := RX12) (T := TX12) (N := 22) hx hb hts i12 hown hK hP 0 rfl rfl 13 (Nat.le_of_ble_eq_true rfl) w2 (fun _ h9 => h9) rfl dX12_line_64 ?_
        refine lv_iload_n hx hb dX12_line_67 rfl (lv_at hl 1 rfl) ?_
        refine lv_aload_n hx hb dX12_line_68 rfl (lv_at hl 3 rfl) ?_
        refine va_get (C := RX12) (T := TX12) (N := 22) hx hb hts i12 hown hK hP 0 rfl rfl 14 (Nat.le_of_ble_eq_true rfl) w3 (fun _ h9 => h9) rfl dX12_line_69 ?_
        refine xiast (wx := [(a0, .inr (12, [.int u_6.1, .ref a1, .ref a2, .ref a3, .int u_6.2.2.2.2.1, .int u_6.2.2.2.2.2.1, .int u_6.2.2.2.2.2.2.1, .int u_6.2.2.2.2.2.2.2.1, .int u_6.2.2.2.2.2.2.2.2.1, .long u_6.2.2.2.2.2.2.2.2.2.1, .int u_6.2.2.2.2.2.2.2.2.2.2.1, .int u_6.2.2.2.2.2.2.2.2.2.2.2.1, .int u_6.2.2.2.2.2.2.2.2.2.2.2.2.1, .ref a4, .int u_6.2.2.2.2.2.2.2.2.2.2.2.2.2.2.1, .int u_6.2.2.2.2.2.2.2.2.2.2.2.2.2.2.2.1, .int u_6.2.2.2.2.2.2.2.2.2.2.2.2.2.2.2.2.1, .int u_6.2.2.2.2.2.2.2.2.2.2.2.2.2.2.2.2.2.1, .int u_6.2.2.2.2.2.2.2.2.2.2.2.2.2.2.2.2.2.2.1, .long u_6.2.2.2.2.2.2.2.2.2.2.2.2.2.2.2.2.2.2.2.1, .long u_6.2.2.2.2.2.2.2.2.2.2.2.2.2.2.2.2.2.2.2.2.1, .ref a5])), (a1, .inl (ca 0, 4725, .inl u_6.2.1)), (a2, .inl (ca 2, 1500, .inl u_6.2.2.1)), (a3, .inl (ca 3, 3, .inl u_6.2.2.2.1)), (a4, .inl (ca 0, 22, .inl ((upd u_6.2.2.2.2.2.2.2.2.2.2.2.2.2.1 (r_1).toNatClampNeg u_6.2.2.2.2.2.2.2.2.2.2.2.2.2.2.1)))), (a5, .inl (ca 0, 256, .inl u_6.2.2.2.2.2.2.2.2.2.2.2.2.2.2.2.2.2.2.2.2.2))]) hx hb hK hP hD hS 4 rfl hf dX12_line_72 rfl (fun H locs hf hP hD hS => ?_)
        obtain ⟨y_7, ey_7, hf⟩ := bnd_el hf
        rw [← ey_7] at hP hD
        refine lv_iload hx hb dX12_line_73 (lv_at hl 0 rfl) ?_
        obtain ⟨hbo, hf⟩ := chkbo_el hf
        have he := Option.some.inj hf
        obtain ⟨e_r, he⟩ := Prod.mk.inj he
        have e_v0 := he
        refine rt_Z hx hb hr hlocks hK hP hD hS hQ hbo e_r ?_ dX12_line_75
        simp only [← e_v0]
      · refine lv_aload_n hx hb dX12_line_40 rfl (lv_at hl 2 rfl) ?_
        obtain ⟨r_8, u_9, hc9, hf⟩ := bnd2_el hf
        refine xV_I (As := []) (wx := [(a0, .inr (12, [.int u_9.1, .ref a1, .ref a2, .ref a3, .int u_9.2.2.2.2.1, .int u_9.2.2.2.2.2.1, .int u_9.2.2.2.2.2.2.1, .int u_9.2.2.2.2.2.2.2.1, .int u_9.2.2.2.2.2.2.2.2.1, .long u_9.2.2.2.2.2.2.2.2.2.1, .int u_9.2.2.2.2.2.2.2.2.2.2.1, .int u_9.2.2.2.2.2.2.2.2.2.2.2.1, .int u_9.2.2.2.2.2.2.2.2.2.2.2.2.1, .ref a4, .int u_9.2.2.2.2.2.2.2.2.2.2.2.2.2.2.1, .int u_9.2.2.2.2.2.2.2.2.2.2.2.2.2.2.2.1, .int u_9.2.2.2.2.2.2.2.2.2.2.2.2.2.2.2.2.1, .int u_9.2.2.2.2.2.2.2.2.2.2.2.2.2.2.2.2.2.1, .int u_9.2.2.2.2.2.2.2.2.2.2.2.2.2.2.2.2.2.2.1, .long u_9.2.2.2.2.2.2.2.2.2.2.2.2.2.2.2.2.2.2.2.1, .long u_9.2.2.2.2.2.2.2.2.2.2.2.2.2.2.2.2.2.2.2.2.1, .ref a5])), (a1, .inl (ca 0, 4725, .inl u_9.2.1)), (a2, .inl (ca 2, 1500, .inl u_9.2.2.1)), (a3, .inl (ca 3, 3, .inl u_9.2.2.2.1)), (a4, .inl (ca 0, 22, .inl u_9.2.2.2.2.2.2.2.2.2.2.2.2.2.1)), (a5, .inl (ca 0, 256, .inl u_9.2.2.2.2.2.2.2.2.2.2.2.2.2.2.2.2.2.2.2.2.2))]) ⟨hx, hb, hml, hown, hts⟩ (c_X12_fails l D ca zz a0 a1 a2 a3 a4 a5 _ v0 r_8 u_9 hc9) (cwV 0 hts (gV gw_5_220 gw_5_222 gw_s_3_2 gw_1_15 gw_5_223) rfl rfl rfl (by decide +kernel) ⟨(Nat.le_of_ble_eq_true rfl), (Nat.le_of_ble_eq_true rfl)⟩) hK hN hZ hA hP hD hS [0, 1, 2, 3, 4, 5] [some 0, some 1, some 2, some 3, some 4, some 5] (by decide +kernel) rfl rfl rfl rfl 0 rfl rfl hl.1 rfl (Nat.le_of_ble_eq_true rfl) dX12_line_41 ⟨Nat.zero_le _, Nat.zero_le _⟩ rfl (fun H locs hP hD hS => ?_)
        obtain ⟨hbo, hf⟩ := chkbo_el hf
        have he := Option.some.inj hf
        obtain ⟨e_r, he⟩ := Prod.mk.inj he
        have e_v0 := he
        refine rt_Z hx hb hr hlocks hK hP hD hS hQ hbo e_r ?_ dX12_line_44
        simp only [← e_v0]
    · refine lv_aload_n hx hb dX12_line_25 rfl (lv_at hl 1 rfl) ?_
      obtain ⟨r_10, u_11, hc11, hf⟩ := bnd2_el hf
      refine xV_I (As := []) (wx := [(a0, .inr (12, [.int u_11.1, .ref a1, .ref a2, .ref a3, .int u_11.2.2.2.2.1, .int u_11.2.2.2.2.2.1, .int u_11.2.2.2.2.2.2.1, .int u_11.2.2.2.2.2.2.2.1, .int u_11.2.2.2.2.2.2.2.2.1, .long u_11.2.2.2.2.2.2.2.2.2.1, .int u_11.2.2.2.2.2.2.2.2.2.2.1, .int u_11.2.2.2.2.2.2.2.2.2.2.2.1, .int u_11.2.2.2.2.2.2.2.2.2.2.2.2.1, .ref a4, .int u_11.2.2.2.2.2.2.2.2.2.2.2.2.2.2.1, .int u_11.2.2.2.2.2.2.2.2.2.2.2.2.2.2.2.1, .int u_11.2.2.2.2.2.2.2.2.2.2.2.2.2.2.2.2.1, .int u_11.2.2.2.2.2.2.2.2.2.2.2.2.2.2.2.2.2.1, .int u_11.2.2.2.2.2.2.2.2.2.2.2.2.2.2.2.2.2.2.1, .long u_11.2.2.2.2.2.2.2.2.2.2.2.2.2.2.2.2.2.2.2.1, .long u_11.2.2.2.2.2.2.2.2.2.2.2.2.2.2.2.2.2.2.2.2.1, .ref a5])), (a1, .inl (ca 0, 4725, .inl u_11.2.1)), (a2, .inl (ca 2, 1500, .inl u_11.2.2.1)), (a3, .inl (ca 3, 3, .inl u_11.2.2.2.1)), (a4, .inl (ca 0, 22, .inl u_11.2.2.2.2.2.2.2.2.2.2.2.2.2.1)), (a5, .inl (ca 0, 256, .inl u_11.2.2.2.2.2.2.2.2.2.2.2.2.2.2.2.2.2.2.2.2.2))]) ⟨hx, hb, hml, hown, hts⟩ (c_X12_stuckLine l D ca zz a0 a1 a2 a3 a4 a5 _ v0 r_10 u_11 hc11) (cwV 0 hts (gV gw_5_208 gw_5_210 gw_s_2_15 gw_1_15 gw_5_211) rfl rfl rfl (by decide +kernel) ⟨(Nat.le_of_ble_eq_true rfl), (Nat.le_of_ble_eq_true rfl)⟩) hK hN hZ hA hP hD hS [0, 1, 2, 3, 4, 5] [some 0, some 1, some 2, some 3, some 4, some 5] (by decide +kernel) rfl rfl rfl rfl 0 rfl rfl hl.1 rfl (Nat.le_of_ble_eq_true rfl) dX12_line_26 ⟨Nat.zero_le _, Nat.zero_le _⟩ rfl (fun H locs hP hD hS => ?_)
      obtain ⟨hbo, hf⟩ := chkbo_el hf
      have he := Option.some.inj hf
      obtain ⟨e_r, he⟩ := Prod.mk.inj he
      have e_v0 := he
      refine rt_Z hx hb hr hlocks hK hP hD hS hQ hbo e_r ?_ dX12_line_29
      simp only [← e_v0]
  unfold f_X12_line at hf
  refine lv_aload_n hx hb dX12_line_0 rfl (lv_at hl 0 rfl) ?_
  refine va_get (C := RX12) (T := TX12) (N := 22) hx hb hts i12 hown hK hP 0 rfl rfl 7 (Nat.le_of_ble_eq_true rfl) w0 (fun _ h9 => h9) rfl dX12_line_1 ?_
  refine lv_iconst (v := 2) hx hb dX12_line_4 rfl ?_
  refine xc_ne (tgt := 15) hx hb dX12_line_5 (by decide) hf (fun hf => ?_) (fun hf => ?_)
  · refine lv_lconst (v := 0) hx hb dX12_line_15 rfl ?_
    exact b16 v0 (0 : Int64) hf _ _ _ hP hD hS (lv_sub hl [0] rfl)
  · refine lv_aload_n hx hb dX12_line_8 rfl (lv_at hl 0 rfl) ?_
    refine va_get (C := RX12) (T := TX12) (N := 22) hx hb hts i12 hown hK hP 0 rfl rfl 9 (Nat.le_of_ble_eq_true rfl) w4 (fun _ h9 => h9) rfl dX12_line_9 ?_
    refine lv_goto (tgt := 16) hx hb dX12_line_12 (by decide) ?_
    exact b16 v0 v0.2.2.2.2.2.2.2.2.2.1 hf _ _ _ hP hD hS (lv_sub hl [0] rfl)
