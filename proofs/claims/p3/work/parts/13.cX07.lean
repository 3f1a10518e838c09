abbrev wq_X5_nextToken : List Cond := Cond.code yX5_nextToken cX5_nextToken 3 none :: GL
set_option maxHeartbeats 4000000 in
set_option maxRecDepth 100000 in
theorem c_X5_nextToken (l : Launch) (D : va_G) (ca : Nat → ClassId) (zz : Nat → Nat) (a0 a1 a2 a3 a4 a5 a6 b0 b1 : Nat) (sz : Nat) (v0 : V5) (v1 : V9) (v0' : V5) (hf : f_X5_nextToken v0 v1 = some v0') : Met l yX5_nextToken wq_X5_nextToken ({ frames := 2, cells := 0, slots := 0, locals := 42 } : Room) (PR D ca zz [.ref a0, .ref b0] sz [(a0, .inr (5, [.ref a1, .ref a6, .int v0.2.2.1, .int v0.2.2.2.1, .int v0.2.2.2.2.1, .int v0.2.2.2.2.2.1, .int v0.2.2.2.2.2.2.1, .int v0.2.2.2.2.2.2.2])), (a1, .inr (7, [.ref a2, .ref a3, .ref a4, .ref a5, .int v0.1.2.2.2.2])), (a2, .inl (ca 0, 9, .inl v0.1.1)), (a3, .inl (ca 0, 4, .inl v0.1.2.1)), (a4, .inl (ca 0, 4, .inl v0.1.2.2.1)), (a5, .inl (ca 0, 4, .inl v0.1.2.2.2.1)), (a6, .inl (ca 0, 3, .inl v0.2.1)), (b0, .inr (9, [.ref b1, .int v1.2.1, .int v1.2.2.1, .int v1.2.2.2])), (b1, .inl (ca 0, 300, .inl v1.1))]) (QV D ca [(a0, .inr (5, [.ref a1, .ref a6, .int v0'.2.2.1, .int v0'.2.2.2.1, .int v0'.2.2.2.2.1, .int v0'.2.2.2.2.2.1, .int v0'.2.2.2.2.2.2.1, .int v0'.2.2.2.2.2.2.2])), (a1, .inr (7, [.ref a2, .ref a3, .ref a4, .ref a5, .int v0'.1.2.2.2.2])), (a2, .inl (ca 0, 9, .inl v0'.1.1)), (a3, .inl (ca 0, 4, .inl v0'.1.2.1)), (a4, .inl (ca 0, 4, .inl v0'.1.2.2.1)), (a5, .inl (ca 0, 4, .inl v0'.1.2.2.2.1)), (a6, .inl (ca 0, 3, .inl v0'.2.1)), (b0, .inr (9, [.ref b1, .int v1.2.1, .int v1.2.2.1, .int v1.2.2.2])), (b1, .inl (ca 0, 300, .inl v1.1))] (va_A [(a0, .inr (5, [.ref a1, .ref a6, .int v0.2.2.1, .int v0.2.2.2.1, .int v0.2.2.2.2.1, .int v0.2.2.2.2.2.1, .int v0.2.2.2.2.2.2.1, .int v0.2.2.2.2.2.2.2])), (a1, .inr (7, [.ref a2, .ref a3, .ref a4, .ref a5, .int v0.1.2.2.2.2])), (a2, .inl (ca 0, 9, .inl v0.1.1)), (a3, .inl (ca 0, 4, .inl v0.1.2.1)), (a4, .inl (ca 0, 4, .inl v0.1.2.2.1)), (a5, .inl (ca 0, 4, .inl v0.1.2.2.2.1)), (a6, .inl (ca 0, 3, .inl v0.2.1)), (b0, .inr (9, [.ref b1, .int v1.2.1, .int v1.2.2.1, .int v1.2.2.2])), (b1, .inl (ca 0, 300, .inl v1.1))] sz)) 0 0 (va_A [(a0, .inr (5, [.ref a1, .ref a6, .int v0.2.2.1, .int v0.2.2.2.1, .int v0.2.2.2.2.1, .int v0.2.2.2.2.2.1, .int v0.2.2.2.2.2.2.1, .int v0.2.2.2.2.2.2.2])), (a1, .inr (7, [.ref a2, .ref a3, .ref a4, .ref a5, .int v0.1.2.2.2.2])), (a2, .inl (ca 0, 9, .inl v0.1.1)), (a3, .inl (ca 0, 4, .inl v0.1.2.1)), (a4, .inl (ca 0, 4, .inl v0.1.2.2.1)), (a5, .inl (ca 0, 4, .inl v0.1.2.2.2.1)), (a6, .inl (ca 0, 3, .inl v0.2.1)), (b0, .inr (9, [.ref b1, .int v1.2.1, .int v1.2.2.1, .int v1.2.2.2])), (b1, .inl (ca 0, 300, .inl v1.1))] sz) := by
  refine en (y := yX5_nextToken) (wsm := wq_X5_nextToken) (av := [.ref a0, .ref b0]) (cc := cX5_nextToken) (maxL := 3) (ret := none) (Qf := fun A => (QV D ca [(a0, .inr (5, [.ref a1, .ref a6, .int v0'.2.2.1, .int v0'.2.2.2.1, .int v0'.2.2.2.2.1, .int v0'.2.2.2.2.2.1, .int v0'.2.2.2.2.2.2.1, .int v0'.2.2.2.2.2.2.2])), (a1, .inr (7, [.ref a2, .ref a3, .ref a4, .ref a5, .int v0'.1.2.2.2.2])), (a2, .inl (ca 0, 9, .inl v0'.1.1)), (a3, .inl (ca 0, 4, .inl v0'.1.2.1)), (a4, .inl (ca 0, 4, .inl v0'.1.2.2.1)), (a5, .inl (ca 0, 4, .inl v0'.1.2.2.2.1)), (a6, .inl (ca 0, 3, .inl v0'.2.1)), (b0, .inr (9, [.ref b1, .int v1.2.1, .int v1.2.2.1, .int v1.2.2.2])), (b1, .inl (ca 0, 300, .inl v1.1))] A)) (by decide) rfl (Nat.le_of_ble_eq_true rfl) ?_
  intro p e s m args below meth c A Q ls hx hb hr hml hown hts hlocks hnm hA hN hZ hK hQ hP hD hS hl
  have w0 := hts _ (List.mem_cons_of_mem _ gw_2_134)
  have w1 := hts _ (List.mem_cons_of_mem _ gw_2_136)
  have w2 := hts _ (List.mem_cons_of_mem _ gw_2_135)
  have nw30 := NW.use (args := args) (w := .fieldLinkNest RX5 84 "NoiseWatch$Text" "size" "I" "NoiseWatch") hN 30 rfl
  have i5 : ∀ w ∈ u_ws RX5 TX5 8, w ∈ wq_X5_nextToken := fun w h => List.mem_cons_of_mem _ (inX5 w h)
  have i9 : ∀ w ∈ u_ws RX9 TX9 4, w ∈ wq_X5_nextToken := fun w h => List.mem_cons_of_mem _ (inX9 w h)
  have b38 : ∀ (v0 : V5), fc_X5_nextToken_38 v1 v0 = some v0' → ∀ (H : Heap) (locs : List Loc) (ls : Array Slot), va_P D vwCl [(a0, .inr (5, [.ref a1, .ref a6, .int v0.2.2.1, .int v0.2.2.2.1, .int v0.2.2.2.2.1, .int v0.2.2.2.2.2.1, .int v0.2.2.2.2.2.2.1, .int v0.2.2.2.2.2.2.2])), (a1, .inr (7, [.ref a2, .ref a3, .ref a4, .ref a5, .int v0.1.2.2.2.2])), (a2, .inl (ca 0, 9, .inl v0.1.1)), (a3, .inl (ca 0, 4, .inl v0.1.2.1)), (a4, .inl (ca 0, 4, .inl v0.1.2.2.1)), (a5, .inl (ca 0, 4, .inl v0.1.2.2.2.1)), (a6, .inl (ca 0, 3, .inl v0.2.1)), (b0, .inr (9, [.ref b1, .int v1.2.1, .int v1.2.2.1, .int v1.2.2.2])), (b1, .inl (ca 0, 300, .inl v1.1))] H → va_D A [(a0, .inr (5, [.ref a1, .ref a6, .int v0.2.2.1, .int v0.2.2.2.1, .int v0.2.2.2.2.1, .int v0.2.2.2.2.2.1, .int v0.2.2.2.2.2.2.1, .int v0.2.2.2.2.2.2.2])), (a1, .inr (7, [.ref a2, .ref a3, .ref a4, .ref a5, .int v0.1.2.2.2.2])), (a2, .inl (ca 0, 9, .inl v0.1.1)), (a3, .inl (ca 0, 4, .inl v0.1.2.1)), (a4, .inl (ca 0, 4, .inl v0.1.2.2.1)), (a5, .inl (ca 0, 4, .inl v0.1.2.2.2.1)), (a6, .inl (ca 0, 3, .inl v0.2.1)), (b0, .inr (9, [.ref b1, .int v1.2.1, .int v1.2.2.1, .int v1.2.2.2])), (b1, .inl (ca 0, 300, .inl v1.1))] → va_S A s.heap H locs → lv_has ls 3 [(0, .ref a0), (1, .ref b0)] → W p l e ({ frames := 2, cells := 0, slots := 0, locals := 42 } : Room) s m args below meth c H locs 0 0 Q (F0 m 38 ls []) := by
    intro v0 hf H locs ls hP hD hS hl
    unfold fc_X5_nextToken_38 at hf
    refine lv_aload_n hx hb dX5_nextToken_38 rfl (lv_at hl 0 rfl) ?_
    refine lv_aload_n hx hb dX5_nextToken_39 rfl (lv_at hl 0 rfl) ?_
    refine va_get (C := RX5) (T := TX5) (N := 8) hx hb hts i5 hown hK hP 0 rfl rfl 2 (Nat.le_of_ble_eq_true rfl) w0 (fun _ h9 => h9) rfl dX5_nextToken_40 ?_
    refine xput (C := RX5) (T := TX5) (N := 8) (wx := [(a0, .inr (5, [.ref a1, .ref a6, .int v0.2.2.1, .int v0.2.2.2.1, .int v0.2.2.1, .int v0.2.2.2.2.2.1, .int v0.2.2.2.2.2.2.1, .int v0.2.2.2.2.2.2.2])), (a1, .inr (7, [.ref a2, .ref a3, .ref a4, .ref a5, .int v0.1.2.2.2.2])), (a2, .inl (ca 0, 9, .inl v0.1.1)), (a3, .inl (ca 0, 4, .inl v0.1.2.1)), (a4, .inl (ca 0, 4, .inl v0.1.2.2.1)), (a5, .inl (ca 0, 4, .inl v0.1.2.2.2.1)), (a6, .inl (ca 0, 3, .inl v0.2.1)), (b0, .inr (9, [.ref b1, .int v1.2.1, .int v1.2.2.1, .int v1.2.2.2])), (b1, .inl (ca 0, 300, .inl v1.1))]) hx hb hts i5 tyX5 tyX5_ok nmX5 hown hK hP hD hS 0 rfl rfl 4 (Nat.le_of_ble_eq_true rfl) w1 (fun _ h9 => h9) rfl rfl rfl rfl (Nat.le_of_ble_eq_true rfl) dX5_nextToken_43 rfl (fun H locs hP hD hS => ?_)
    refine lv_aload_n hx hb dX5_nextToken_46 rfl (lv_at hl 1 rfl) ?_
    refine lv_aload_n hx hb dX5_nextToken_47 rfl (lv_at hl 0 rfl) ?_
    refine va_get (C := RX5) (T := TX5) (N := 8) hx hb hts i5 hown hK hP 0 rfl rfl 2 (Nat.le_of_ble_eq_true rfl) w0 (fun _ h9 => h9) rfl dX5_nextToken_48 ?_
    obtain ⟨r_1, hc1, hf⟩ := bnd1_el hf
    refine xV_I (As := [.int v0.2.2.1]) (wx := [(a0, .inr (5, [.ref a1, .ref a6, .int v0.2.2.1, .int v0.2.2.2.1, .int v0.2.2.1, .int v0.2.2.2.2.2.1, .int v0.2.2.2.2.2.2.1, .int v0.2.2.2.2.2.2.2])), (a1, .inr (7, [.ref a2, .ref a3, .ref a4, .ref a5, .int v0.1.2.2.2.2])), (a2, .inl (ca 0, 9, .inl v0.1.1)), (a3, .inl (ca 0, 4, .inl v0.1.2.1)), (a4, .inl (ca 0, 4, .inl v0.1.2.2.1)), (a5, .inl (ca 0, 4, .inl v0.1.2.2.2.1)), (a6, .inl (ca 0, 3, .inl v0.2.1)), (b0, .inr (9, [.ref b1, .int v1.2.1, .int v1.2.2.1, .int v1.2.2.2])), (b1, .inl (ca 0, 300, .inl v1.1))]) ⟨hx, hb, hml, hown, hts⟩ (c_X9_byteAt l D ca zz b0 b1 _ v1 v0.2.2.1 r_1 hc1) (cwV 1 hts (gV gw_3_3 gw_3_4 gw_3_5 gw_1_10 gw_3_6) rfl rfl rfl (by decide +kernel) ⟨(Nat.le_of_ble_eq_true rfl), (Nat.le_of_ble_eq_true rfl)⟩) hK hN hZ hA hP hD hS [7, 8] [none, none, none, none, none, none, none, some 0, some 1] (by decide +kernel) rfl rfl rfl rfl 7 rfl rfl hl.1 rfl (Nat.le_of_ble_eq_true rfl) dX5_nextToken_51 ⟨Nat.zero_le _, Nat.zero_le _⟩ rfl (fun H locs hP hD hS => ?_)
    refine lv_istore_n (lv' := [(2, .int r_1), (0, .ref a0), (1, .ref b0)]) hx hb dX5_nextToken_54 rfl hl (Nat.le_of_ble_eq_true rfl) rfl (fun ls hl => ?_)
    refine lv_iload_n hx hb dX5_nextToken_55 rfl (lv_at hl 0 rfl) ?_
    refine lv_iconst (v := -1) hx hb dX5_nextToken_56 rfl ?_
    refine xc_ne (tgt := 68) hx hb dX5_nextToken_57 (by decide) hf (fun hf => ?_) (fun hf => ?_)
    · refine lv_iload_n hx hb dX5_nextToken_68 rfl (lv_at hl 0 rfl) ?_
      obtain ⟨r_2, hc2, hf⟩ := bnd1_el hf
      refine xS_I (As := [.int r_1]) (wx := [(a0, .inr (5, [.ref a1, .ref a6, .int v0.2.2.1, .int v0.2.2.2.1, .int v0.2.2.1, .int v0.2.2.2.2.2.1, .int v0.2.2.2.2.2.2.1, .int v0.2.2.2.2.2.2.2])), (a1, .inr (7, [.ref a2, .ref a3, .ref a4, .ref a5, .int v0.1.2.2.2.2])), (a2, .inl (ca 0, 9, .inl v0.1.1)), (a3, .inl (ca 0, 4, .inl v0.1.2.1)), (a4, .inl (ca 0, 4, .inl v0.1.2.2.1)), (a5, .inl (ca 0, 4, .inl v0.1.2.2.2.1)), (a6, .inl (ca 0, 3, .inl v0.2.1)), (b0, .inr (9, [.ref b1, .int v1.2.1, .int v1.2.2.1, .int v1.2.2.2])), (b1, .inl (ca 0, 300, .inl v1.1))]) ⟨hx, hb, hml, hown, hts⟩ (c_X5_isLetter l D ca zz  _ r_1 r_2 hc2) (va_cwS 1 hts (gS gw_3_10 gw_3_11 gw_1_13 gw_3_12) rfl rfl rfl (by decide +kernel) ⟨(Nat.le_of_ble_eq_true rfl), (Nat.le_of_ble_eq_true rfl)⟩) hK hN hZ hA hP hD hS [] [none, none, none, none, none, none, none, none, none] (by decide +kernel) rfl rfl rfl rfl hl.1 rfl (Nat.le_of_ble_eq_true rfl) dX5_nextToken_69 ⟨Nat.zero_le _, Nat.zero_le _⟩ rfl (fun H locs hP hD hS => ?_)
      refine xi_eq (tgt := 83) hx hb dX5_nextToken_72 (by decide) hf (fun hf => ?_) (fun hf => ?_)
      · refine lv_iload_n hx hb dX5_nextToken_83 rfl (lv_at hl 0 rfl) ?_
        obtain ⟨r_3, hc3, hf⟩ := bnd1_el hf
        refine xS_I (As := [.int r_1]) (wx := [(a0, .inr (5, [.ref a1, .ref a6, .int v0.2.2.1, .int v0.2.2.2.1, .int v0.2.2.1, .int v0.2.2.2.2.2.1, .int v0.2.2.2.2.2.2.1, .int v0.2.2.2.2.2.2.2])), (a1, .inr (7, [.ref a2, .ref a3, .ref a4, .ref a5, .int v0.1.2.2.2.2])), (a2, .inl (ca 0, 9, .inl v0.1.1)), (a3, .inl (ca 0, 4, .inl v0.1.2.1)), (a4, .inl (ca 0, 4, .inl v0.1.2.2.1)), (a5, .inl (ca 0, 4, .inl v0.1.2.2.2.1)), (a6, .inl (ca 0, 3, .inl v0.2.1)), (b0, .inr (9, [.ref b1, .int v1.2.1, .int v1.2.2.1, .int v1.2.2.2])), (b1, .inl (ca 0, 300, .inl v1.1))]) ⟨hx, hb, hml, hown, hts⟩ (c_X5_isDigit l D ca zz  _ r_1 r_3 hc3) (va_cwS 1 hts (gS gw_3_17 gw_3_18 gw_1_13 gw_3_19) rfl rfl rfl (by decide +kernel) ⟨(Nat.le_of_ble_eq_true rfl), (Nat.le_of_ble_eq_true rfl)⟩) hK hN hZ hA hP hD hS [] [none, none, none, none, none, none, none, none, none] (by decide +kernel) rfl rfl rfl rfl hl.1 rfl (Nat.le_of_ble_eq_true rfl) dX5_nextToken_84 ⟨Nat.zero_le _, Nat.zero_le _⟩ rfl (fun H locs hP hD hS => ?_)
        refine xi_eq (tgt := 98) hx hb dX5_nextToken_87 (by decide) hf (fun hf => ?_) (fun hf => ?_)
        · refine lv_iload_n hx hb dX5_nextToken_98 rfl (lv_at hl 0 rfl) ?_
          refine lv_bipush (v := 59) hx hb dX5_nextToken_99 rfl ?_
          refine xc_ne (tgt := 122) hx hb dX5_nextToken_101 (by decide) hf (fun hf => ?_) (fun hf => ?_)
          · refine lv_aload_n hx hb dX5_nextToken_122 rfl (lv_at hl 1 rfl) ?_
            refine lv_iconst (v := 4) hx hb dX5_nextToken_123 rfl ?_
            refine xput (C := RX5) (T := TX5) (N := 8) (wx := [(a0, .inr (5, [.ref a1, .ref a6, .int v0.2.2.1, .int (4 : Int32), .int v0.2.2.1, .int v0.2.2.2.2.2.1, .int v0.2.2.2.2.2.2.1, .int v0.2.2.2.2.2.2.2])), (a1, .inr (7, [.ref a2, .ref a3, .ref a4, .ref a5, .int v0.1.2.2.2.2])), (a2, .inl (ca 0, 9, .inl v0.1.1)), (a3, .inl (ca 0, 4, .inl v0.1.2.1)), (a4, .inl (ca 0, 4, .inl v0.1.2.2.1)), (a5, .inl (ca 0, 4, .inl v0.1.2.2.2.1)), (a6, .inl (ca 0, 3, .inl v0.2.1)), (b0, .inr (9, [.ref b1, .int v1.2.1, .int v1.2.2.1, .int v1.2.2.2])), (b1, .inl (ca 0, 300, .inl v1.1))]) hx hb hts i5 tyX5 tyX5_ok nmX5 hown hK hP hD hS 0 rfl rfl 3 (Nat.le_of_ble_eq_true rfl) w2 (fun _ h9 => h9) rfl rfl rfl rfl (Nat.le_of_ble_eq_true rfl) dX5_nextToken_124 rfl (fun H locs hP hD hS => ?_)
            have he := Option.some.inj hf
            have e_v0 := he
            refine rt_V hx hb hr hlocks hK hP hD hS hQ ?_ dX5_nextToken_127
            simp only [← e_v0]
          · refine lv_aload_n hx hb dX5_nextToken_104 rfl (lv_at hl 1 rfl) ?_
            refine lv_dup hx hb dX5_nextToken_105 rfl ?_
            refine va_get (C := RX5) (T := TX5) (N := 8) hx hb hts i5 hown hK hP 0 rfl rfl 2 (Nat.le_of_ble_eq_true rfl) w0 (fun _ h9 => h9) rfl dX5_nextToken_106 ?_
            refine lv_iconst (v := 1) hx hb dX5_nextToken_109 rfl ?_
            refine lv_iadd hx hb dX5_nextToken_110 ?_
            refine xnm hf (fun x_4 hf => ?_)
            refine xput (C := RX5) (T := TX5) (N := 8) (wx := [(a0, .inr (5, [.ref a1, .ref a6, .int x_4, .int v0.2.2.2.1, .int v0.2.2.1, .int v0.2.2.2.2.2.1, .int v0.2.2.2.2.2.2.1, .int v0.2.2.2.2.2.2.2])), (a1, .inr (7, [.ref a2, .ref a3, .ref a4, .ref a5, .int v0.1.2.2.2.2])), (a2, .inl (ca 0, 9, .inl v0.1.1)), (a3, .inl (ca 0, 4, .inl v0.1.2.1)), (a4, .inl (ca 0, 4, .inl v0.1.2.2.1)), (a5, .inl (ca 0, 4, .inl v0.1.2.2.2.1)), (a6, .inl (ca 0, 3, .inl v0.2.1)), (b0, .inr (9, [.ref b1, .int v1.2.1, .int v1.2.2.1, .int v1.2.2.2])), (b1, .inl (ca 0, 300, .inl v1.1))]) hx hb hts i5 tyX5 tyX5_ok nmX5 hown hK hP hD hS 0 rfl rfl 2 (Nat.le_of_ble_eq_true rfl) w0 (fun _ h9 => h9) rfl rfl rfl rfl (Nat.le_of_ble_eq_true rfl) dX5_nextToken_111 rfl (fun H locs hP hD hS => ?_)
            refine lv_aload_n hx hb dX5_nextToken_114 rfl (lv_at hl 1 rfl) ?_
            refine lv_iconst (v := 3) hx hb dX5_nextToken_115 rfl ?_
            refine xput (C := RX5) (T := TX5) (N := 8) (wx := [(a0, .inr (5, [.ref a1, .ref a6, .int x_4, .int (3 : Int32), .int v0.2.2.1, .int v0.2.2.2.2.2.1, .int v0.2.2.2.2.2.2.1, .int v0.2.2.2.2.2.2.2])), (a1, .inr (7, [.ref a2, .ref a3, .ref a4, .ref a5, .int v0.1.2.2.2.2])), (a2, .inl (ca 0, 9, .inl v0.1.1)), (a3, .inl (ca 0, 4, .inl v0.1.2.1)), (a4, .inl (ca 0, 4, .inl v0.1.2.2.1)), (a5, .inl (ca 0, 4, .inl v0.1.2.2.2.1)), (a6, .inl (ca 0, 3, .inl v0.2.1)), (b0, .inr (9, [.ref b1, .int v1.2.1, .int v1.2.2.1, .int v1.2.2.2])), (b1, .inl (ca 0, 300, .inl v1.1))]) hx hb hts i5 tyX5 tyX5_ok nmX5 hown hK hP hD hS 0 rfl rfl 3 (Nat.le_of_ble_eq_true rfl) w2 (fun _ h9 => h9) rfl rfl rfl rfl (Nat.le_of_ble_eq_true rfl) dX5_nextToken_116 rfl (fun H locs hP hD hS => ?_)
            refine lv_goto (tgt := 127) hx hb dX5_nextToken_119 (by decide) ?_
            have he := Option.some.inj hf
            have e_v0 := he
            refine rt_V hx hb hr hlocks hK hP hD hS hQ ?_ dX5_nextToken_127
            simp only [← e_v0]
        · refine lv_aload_n hx hb dX5_nextToken_90 rfl (lv_at hl 1 rfl) ?_
          refine lv_aload_n hx hb dX5_nextToken_91 rfl (lv_at hl 2 rfl) ?_
          obtain ⟨u_5, hc5, hf⟩ := bnd1_el hf
          have hMhc5 := fun sz => c_X5_passNumber l D ca zz a0 a1 a2 a3 a4 a5 a6 b0 b1 sz ((v0.1, v0.2.1, v0.2.2.1, v0.2.2.2.1, v0.2.2.1, v0.2.2.2.2.2)) v1 u_5 hc5
          dsimp only at hMhc5
          refine xV_V (As := [.ref b0]) (wx := [(a0, .inr (5, [.ref a1, .ref a6, .int u_5.2.2.1, .int u_5.2.2.2.1, .int u_5.2.2.2.2.1, .int u_5.2.2.2.2.2.1, .int u_5.2.2.2.2.2.2.1, .int u_5.2.2.2.2.2.2.2])), (a1, .inr (7, [.ref a2, .ref a3, .ref a4, .ref a5, .int u_5.1.2.2.2.2])), (a2, .inl (ca 0, 9, .inl u_5.1.1)), (a3, .inl (ca 0, 4, .inl u_5.1.2.1)), (a4, .inl (ca 0, 4, .inl u_5.1.2.2.1)), (a5, .inl (ca 0, 4, .inl u_5.1.2.2.2.1)), (a6, .inl (ca 0, 3, .inl u_5.2.1)), (b0, .inr (9, [.ref b1, .int v1.2.1, .int v1.2.2.1, .int v1.2.2.2])), (b1, .inl (ca 0, 300, .inl v1.1))]) ⟨hx, hb, hml, hown, hts⟩ (hMhc5 _) (cwV 1 hts (gV gw_3_20 gw_3_22 gw_s_1_2 gw_1_13 gw_3_23) rfl rfl rfl (by decide +kernel) ⟨(Nat.le_of_ble_eq_true rfl), (Nat.le_of_ble_eq_true rfl)⟩) hK hN hZ hA hP hD hS [0, 1, 2, 3, 4, 5, 6, 7, 8] [some 0, some 1, some 2, some 3, some 4, some 5, some 6, some 7, some 8] (by decide +kernel) rfl rfl rfl rfl 0 rfl rfl hl.1 rfl (Nat.le_of_ble_eq_true rfl) dX5_nextToken_92 ⟨Nat.zero_le _, Nat.zero_le _⟩ rfl (fun H locs hP hD hS => ?_)
          refine lv_goto (tgt := 127) hx hb dX5_nextToken_95 (by decide) ?_
          have he := Option.some.inj hf
          have e_v0 := he
          refine rt_V hx hb hr hlocks hK hP hD hS hQ ?_ dX5_nextToken_127
          simp only [← e_v0]
      · refine lv_aload_n hx hb dX5_nextToken_75 rfl (lv_at hl 1 rfl) ?_
        refine lv_aload_n hx hb dX5_nextToken_76 rfl (lv_at hl 2 rfl) ?_
        obtain ⟨u_6, hc6, hf⟩ := bnd1_el hf
        have hMhc6 := fun sz => c_X5_passWord l D ca zz a0 a1 a2 a3 a4 a5 a6 b0 b1 sz ((v0.1, v0.2.1, v0.2.2.1, v0.2.2.2.1, v0.2.2.1, v0.2.2.2.2.2)) v1 u_6 hc6
        dsimp only at hMhc6
        refine xV_V (As := [.ref b0]) (wx := [(a0, .inr (5, [.ref a1, .ref a6, .int u_6.2.2.1, .int u_6.2.2.2.1, .int u_6.2.2.2.2.1, .int u_6.2.2.2.2.2.1, .int u_6.2.2.2.2.2.2.1, .int u_6.2.2.2.2.2.2.2])), (a1, .inr (7, [.ref a2, .ref a3, .ref a4, .ref a5, .int u_6.1.2.2.2.2])), (a2, .inl (ca 0, 9, .inl u_6.1.1)), (a3, .inl (ca 0, 4, .inl u_6.1.2.1)), (a4, .inl (ca 0, 4, .inl u_6.1.2.2.1)), (a5, .inl (ca 0, 4, .inl u_6.1.2.2.2.1)), (a6, .inl (ca 0, 3, .inl u_6.2.1)), (b0, .inr (9, [.ref b1, .int v1.2.1, .int v1.2.2.1, .int v1.2.2.2])), (b1, .inl (ca 0, 300, .inl v1.1))]) ⟨hx, hb, hml, hown, hts⟩ (hMhc6 _) (cwV 1 hts (gV gw_3_13 gw_3_15 gw_s_1_1 gw_1_13 gw_3_16) rfl rfl rfl (by decide +kernel) ⟨(Nat.le_of_ble_eq_true rfl), (Nat.le_of_ble_eq_true rfl)⟩) hK hN hZ hA hP hD hS [0, 1, 2, 3, 4, 5, 6, 7, 8] [some 0, some 1, some 2, some 3, some 4, some 5, some 6, some 7, some 8] (by decide +kernel) rfl rfl rfl rfl 0 rfl rfl hl.1 rfl (Nat.le_of_ble_eq_true rfl) dX5_nextToken_77 ⟨Nat.zero_le _, Nat.zero_le _⟩ rfl (fun H locs hP hD hS => ?_)
        refine lv_goto (tgt := 127) hx hb dX5_nextToken_80 (by decide) ?_
        have he := Option.some.inj hf
        have e_v0 := he
        refine rt_V hx hb hr hlocks hK hP hD hS hQ ?_ dX5_nextToken_127
        simp only [← e_v0]
    · refine lv_aload_n hx hb dX5_nextToken_60 rfl (lv_at hl 1 rfl) ?_
      refine lv_iconst (v := 0) hx hb dX5_nextToken_61 rfl ?_
      refine xput (C := RX5) (T := TX5) (N := 8) (wx := [(a0, .inr (5, [.ref a1, .ref a6, .int v0.2.2.1, .int (0 : Int32), .int v0.2.2.1, .int v0.2.2.2.2.2.1, .int v0.2.2.2.2.2.2.1, .int v0.2.2.2.2.2.2.2])), (a1, .inr (7, [.ref a2, .ref a3, .ref a4, .ref a5, .int v0.1.2.2.2.2])), (a2, .inl (ca 0, 9, .inl v0.1.1)), (a3, .inl (ca 0, 4, .inl v0.1.2.1)), (a4, .inl (ca 0, 4, .inl v0.1.2.2.1)), (a5, .inl (ca 0, 4, .inl v0.1.2.2.2.1)), (a6, .inl (ca 0, 3, .inl v0.2.1)), (b0, .inr (9, [.ref b1, .int v1.2.1, .int v1.2.2.1, .int v1.2.2.2])), (b1, .inl (ca 0, 300, .inl v1.1))]) hx hb hts i5 tyX5 tyX5_ok nmX5 hown hK hP hD hS 0 rfl rfl 3 (Nat.le_of_ble_eq_true rfl) w2 (fun _ h9 => h9) rfl rfl rfl rfl (Nat.le_of_ble_eq_true rfl) dX5_nextToken_62 rfl (fun H locs hP hD hS => ?_)
      refine lv_goto (tgt := 127) hx hb dX5_nextToken_65 (by decide) ?_
      have he := Option.some.inj hf
      have e_v0 := he
      refine rt_V hx hb hr hlocks hK hP hD hS hQ ?_ dX5_nextToken_127
      simp only [← e_v0]
  have bl0 : ∀ (k0 : V5 → Option (V5)) (q0 : ∀ (v0 : V5), k0 v0 = some v0' → ∀ (H : Heap) (locs : List Loc) (ls : Array Slot), va_P D vwCl [(a0, .inr (5, [.ref a1, .ref a6, .int v0.2.2.1, .int v0.2.2.2.1, .int v0.2.2.2.2.1, .int v0.2.2.2.2.2.1, .int v0.2.2.2.2.2.2.1, .int v0.2.2.2.2.2.2.2])), (a1, .inr (7, [.ref a2, .ref a3, .ref a4, .ref a5, .int v0.1.2.2.2.2])), (a2, .inl (ca 0, 9, .inl v0.1.1)), (a3, .inl (ca 0, 4, .inl v0.1.2.1)), (a4, .inl (ca 0, 4, .inl v0.1.2.2.1)), (a5, .inl (ca 0, 4, .inl v0.1.2.2.2.1)), (a6, .inl (ca 0, 3, .inl v0.2.1)), (b0, .inr (9, [.ref b1, .int v1.2.1, .int v1.2.2.1, .int v1.2.2.2])), (b1, .inl (ca 0, 300, .inl v1.1))] H → va_D A [(a0, .inr (5, [.ref a1, .ref a6, .int v0.2.2.1, .int v0.2.2.2.1, .int v0.2.2.2.2.1, .int v0.2.2.2.2.2.1, .int v0.2.2.2.2.2.2.1, .int v0.2.2.2.2.2.2.2])), (a1, .inr (7, [.ref a2, .ref a3, .ref a4, .ref a5, .int v0.1.2.2.2.2])), (a2, .inl (ca 0, 9, .inl v0.1.1)), (a3, .inl (ca 0, 4, .inl v0.1.2.1)), (a4, .inl (ca 0, 4, .inl v0.1.2.2.1)), (a5, .inl (ca 0, 4, .inl v0.1.2.2.2.1)), (a6, .inl (ca 0, 3, .inl v0.2.1)), (b0, .inr (9, [.ref b1, .int v1.2.1, .int v1.2.2.1, .int v1.2.2.2])), (b1, .inl (ca 0, 300, .inl v1.1))] → va_S A s.heap H locs → lv_has ls 3 [(0, .ref a0), (1, .ref b0)] → W p l e ({ frames := 2, cells := 0, slots := 0, locals := 42 } : Room) s m args below meth c H locs 0 0 Q (F0 m 0 ls [])) (v0 : V5), fl_X5_nextToken_0 v1 k0 v0 = some v0' → ∀ (H : Heap) (locs : List Loc) (ls : Array Slot), va_P D vwCl [(a0, .inr (5, [.ref a1, .ref a6, .int v0.2.2.1, .int v0.2.2.2.1, .int v0.2.2.2.2.1, .int v0.2.2.2.2.2.1, .int v0.2.2.2.2.2.2.1, .int v0.2.2.2.2.2.2.2])), (a1, .inr (7, [.ref a2, .ref a3, .ref a4, .ref a5, .int v0.1.2.2.2.2])), (a2, .inl (ca 0, 9, .inl v0.1.1)), (a3, .inl (ca 0, 4, .inl v0.1.2.1)), (a4, .inl (ca 0, 4, .inl v0.1.2.2.1)), (a5, .inl (ca 0, 4, .inl v0.1.2.2.2.1)), (a6, .inl (ca 0, 3, .inl v0.2.1)), (b0, .inr (9, [.ref b1, .int v1.2.1, .int v1.2.2.1, .int v1.2.2.2])), (b1, .inl (ca 0, 300, .inl v1.1))] H → va_D A [(a0, .inr (5, [.ref a1, .ref a6, .int v0.2.2.1, .int v0.2.2.2.1, .int v0.2.2.2.2.1, .int v0.2.2.2.2.2.1, .int v0.2.2.2.2.2.2.1, .int v0.2.2.2.2.2.2.2])), (a1, .inr (7, [.ref a2, .ref a3, .ref a4, .ref a5, .int v0.1.2.2.2.2])), (a2, .inl (ca 0, 9, .inl v0.1.1)), (a3, .inl (ca 0, 4, .inl v0.1.2.1)), (a4, .inl (ca 0, 4, .inl v0.1.2.2.1)), (a5, .inl (ca 0, 4, .inl v0.1.2.2.2.1)), (a6, .inl (ca 0, 3, .inl v0.2.1)), (b0, .inr (9, [.ref b1, .int v1.2.1, .int v1.2.2.1, .int v1.2.2.2])), (b1, .inl (ca 0, 300, .inl v1.1))] → va_S A s.heap H locs → lv_has ls 3 [(0, .ref a0), (1, .ref b0)] → W p l e ({ frames := 2, cells := 0, slots := 0, locals := 42 } : Room) s m args below meth c H locs 0 0 Q (F0 m 0 ls []) := by
    intro k0 q0 v0 hf H locs ls hP hD hS hl
    unfold fl_X5_nextToken_0 at hf
    refine lv_aload_n hx hb dX5_nextToken_0 rfl (lv_at hl 0 rfl) ?_
    refine va_get (C := RX5) (T := TX5) (N := 8) hx hb hts i5 hown hK hP 0 rfl rfl 2 (Nat.le_of_ble_eq_true rfl) w0 (fun _ h9 => h9) rfl dX5_nextToken_1 ?_
    refine lv_aload_n hx hb dX5_nextToken_4 rfl (lv_at hl 1 rfl) ?_
    refine va_getN (C := RX9) (T := TX9) (N := 4) hx hb hts i9 hown hK hP 7 rfl rfl 1 (Nat.le_of_ble_eq_true rfl) nw30 (fun _ h9 => h9) rfl dX5_nextToken_5 ?_
    refine xc_ge (tgt := 38) hx hb dX5_nextToken_8 (by decide) hf (fun hf => ?_) (fun hf => ?_)
    · exact b38 v0 hf _ _ _ hP hD hS (lv_sub hl [0, 1] rfl)
    · refine lv_aload_n hx hb dX5_nextToken_11 rfl (lv_at hl 1 rfl) ?_
      refine lv_aload_n hx hb dX5_nextToken_12 rfl (lv_at hl 0 rfl) ?_
      refine va_get (C := RX5) (T := TX5) (N := 8) hx hb hts i5 hown hK hP 0 rfl rfl 2 (Nat.le_of_ble_eq_true rfl) w0 (fun _ h9 => h9) rfl dX5_nextToken_13 ?_
      obtain ⟨r_7, hc7, hf⟩ := bnd1_el hf
      refine xV_I (As := [.int v0.2.2.1]) (wx := [(a0, .inr (5, [.ref a1, .ref a6, .int v0.2.2.1, .int v0.2.2.2.1, .int v0.2.2.2.2.1, .int v0.2.2.2.2.2.1, .int v0.2.2.2.2.2.2.1, .int v0.2.2.2.2.2.2.2])), (a1, .inr (7, [.ref a2, .ref a3, .ref a4, .ref a5, .int v0.1.2.2.2.2])), (a2, .inl (ca 0, 9, .inl v0.1.1)), (a3, .inl (ca 0, 4, .inl v0.1.2.1)), (a4, .inl (ca 0, 4, .inl v0.1.2.2.1)), (a5, .inl (ca 0, 4, .inl v0.1.2.2.2.1)), (a6, .inl (ca 0, 3, .inl v0.2.1)), (b0, .inr (9, [.ref b1, .int v1.2.1, .int v1.2.2.1, .int v1.2.2.2])), (b1, .inl (ca 0, 300, .inl v1.1))]) ⟨hx, hb, hml, hown, hts⟩ (c_X9_byteAt l D ca zz b0 b1 _ v1 v0.2.2.1 r_7 hc7) (cwV 1 hts (gV gw_3_3 gw_3_4 gw_3_5 gw_1_10 gw_3_6) rfl rfl rfl (by decide +kernel) ⟨(Nat.le_of_ble_eq_true rfl), (Nat.le_of_ble_eq_true rfl)⟩) hK hN hZ hA hP hD hS [7, 8] [none, none, none, none, none, none, none, some 0, some 1] (by decide +kernel) rfl rfl rfl rfl 7 rfl rfl hl.1 rfl (Nat.le_of_ble_eq_true rfl) dX5_nextToken_16 ⟨Nat.zero_le _, Nat.zero_le _⟩ rfl (fun H locs hP hD hS => ?_)
      obtain ⟨r_8, hc8, hf⟩ := bnd1_el hf
      refine xS_I (As := [.int r_7]) (wx := [(a0, .inr (5, [.ref a1, .ref a6, .int v0.2.2.1, .int v0.2.2.2.1, .int v0.2.2.2.2.1, .int v0.2.2.2.2.2.1, .int v0.2.2.2.2.2.2.1, .int v0.2.2.2.2.2.2.2])), (a1, .inr (7, [.ref a2, .ref a3, .ref a4, .ref a5, .int v0.1.2.2.2.2])), (a2, .inl (ca 0, 9, .inl v0.1.1)), (a3, .inl (ca 0, 4, .inl v0.1.2.1)), (a4, .inl (ca 0, 4, .inl v0.1.2.2.1)), (a5, .inl (ca 0, 4, .inl v0.1.2.2.2.1)), (a6, .inl (ca 0, 3, .inl v0.2.1)), (b0, .inr (9, [.ref b1, .int v1.2.1, .int v1.2.2.1, .int v1.2.2.2])), (b1, .inl (ca 0, 300, .inl v1.1))]) ⟨hx, hb, hml, hown, hts⟩ (c_X5_isBlank l D ca zz  _ r_7 r_8 hc8) (va_cwS 1 hts (gS gw_3_7 gw_3_8 gw_1_13 gw_3_9) rfl rfl rfl (by decide +kernel) ⟨(Nat.le_of_ble_eq_true rfl), (Nat.le_of_ble_eq_true rfl)⟩) hK hN hZ hA hP hD hS [] [none, none, none, none, none, none, none, none, none] (by decide +kernel) rfl rfl rfl rfl hl.1 rfl (Nat.le_of_ble_eq_true rfl) dX5_nextToken_19 ⟨Nat.zero_le _, Nat.zero_le _⟩ rfl (fun H locs hP hD hS => ?_)
      refine xi_eq (tgt := 38) hx hb dX5_nextToken_22 (by decide) hf (fun hf => ?_) (fun hf => ?_)
      · exact b38 v0 hf _ _ _ hP hD hS (lv_sub hl [0, 1] rfl)
      · refine lv_aload_n hx hb dX5_nextToken_25 rfl (lv_at hl 0 rfl) ?_
        refine lv_dup hx hb dX5_nextToken_26 rfl ?_
        refine va_get (C := RX5) (T := TX5) (N := 8) hx hb hts i5 hown hK hP 0 rfl rfl 2 (Nat.le_of_ble_eq_true rfl) w0 (fun _ h9 => h9) rfl dX5_nextToken_27 ?_
        refine lv_iconst (v := 1) hx hb dX5_nextToken_30 rfl ?_
        refine lv_iadd hx hb dX5_nextToken_31 ?_
        refine xnm hf (fun x_9 hf => ?_)
        refine xput (C := RX5) (T := TX5) (N := 8) (wx := [(a0, .inr (5, [.ref a1, .ref a6, .int x_9, .int v0.2.2.2.1, .int v0.2.2.2.2.1, .int v0.2.2.2.2.2.1, .int v0.2.2.2.2.2.2.1, .int v0.2.2.2.2.2.2.2])), (a1, .inr (7, [.ref a2, .ref a3, .ref a4, .ref a5, .int v0.1.2.2.2.2])), (a2, .inl (ca 0, 9, .inl v0.1.1)), (a3, .inl (ca 0, 4, .inl v0.1.2.1)), (a4, .inl (ca 0, 4, .inl v0.1.2.2.1)), (a5, .inl (ca 0, 4, .inl v0.1.2.2.2.1)), (a6, .inl (ca 0, 3, .inl v0.2.1)), (b0, .inr (9, [.ref b1, .int v1.2.1, .int v1.2.2.1, .int v1.2.2.2])), (b1, .inl (ca 0, 300, .inl v1.1))]) hx hb hts i5 tyX5 tyX5_ok nmX5 hown hK hP hD hS 0 rfl rfl 2 (Nat.le_of_ble_eq_true rfl) w0 (fun _ h9 => h9) rfl rfl rfl rfl (Nat.le_of_ble_eq_true rfl) dX5_nextToken_32 rfl (fun H locs hP hD hS => ?_)
        refine lv_goto (tgt := 0) hx hb dX5_nextToken_35 (by decide) ?_
        have jb := q0 ((v0.1, v0.2.1, x_9, v0.2.2.2))
        dsimp only at jb
        exact jb hf _ _ _ hP hD hS (lv_sub hl [0, 1] rfl)
  have b0 : ∀ (n : Nat) (v0 : V5), fb_X5_nextToken_0 v1 n v0 = some v0' → ∀ (H : Heap) (locs : List Loc) (ls : Array Slot), va_P D vwCl [(a0, .inr (5, [.ref a1, .ref a6, .int v0.2.2.1, .int v0.2.2.2.1, .int v0.2.2.2.2.1, .int v0.2.2.2.2.2.1, .int v0.2.2.2.2.2.2.1, .int v0.2.2.2.2.2.2.2])), (a1, .inr (7, [.ref a2, .ref a3, .ref a4, .ref a5, .int v0.1.2.2.2.2])), (a2, .inl (ca 0, 9, .inl v0.1.1)), (a3, .inl (ca 0, 4, .inl v0.1.2.1)), (a4, .inl (ca 0, 4, .inl v0.1.2.2.1)), (a5, .inl (ca 0, 4, .inl v0.1.2.2.2.1)), (a6, .inl (ca 0, 3, .inl v0.2.1)), (b0, .inr (9, [.ref b1, .int v1.2.1, .int v1.2.2.1, .int v1.2.2.2])), (b1, .inl (ca 0, 300, .inl v1.1))] H → va_D A [(a0, .inr (5, [.ref a1, .ref a6, .int v0.2.2.1, .int v0.2.2.2.1, .int v0.2.2.2.2.1, .int v0.2.2.2.2.2.1, .int v0.2.2.2.2.2.2.1, .int v0.2.2.2.2.2.2.2])), (a1, .inr (7, [.ref a2, .ref a3, .ref a4, .ref a5, .int v0.1.2.2.2.2])), (a2, .inl (ca 0, 9, .inl v0.1.1)), (a3, .inl (ca 0, 4, .inl v0.1.2.1)), (a4, .inl (ca 0, 4, .inl v0.1.2.2.1)), (a5, .inl (ca 0, 4, .inl v0.1.2.2.2.1)), (a6, .inl (ca 0, 3, .inl v0.2.1)), (b0, .inr (9, [.ref b1, .int v1.2.1, .int v1.2.2.1, .int v1.2.2.2])), (b1, .inl (ca 0, 300, .inl v1.1))] → va_S A s.heap H locs → lv_has ls 3 [(0, .ref a0), (1, .ref b0)] → W p l e ({ frames := 2, cells := 0, slots := 0, locals := 42 } : Room) s m args below meth c H locs 0 0 Q (F0 m 0 ls []) := by
    intro n
    induction n with
    | zero => intro v0 hf; exact no_el hf
    | succ n ih => exact bl0 (fb_X5_nextToken_0 v1 n) ih
  unfold f_X5_nextToken at hf
  exact b0 FU v0 hf _ _ _ hP hD hS (lv_sub hl [0, 1] rfl)
abbrev wq_X9_hasWord : List Cond := Cond.code yX9_hasWord cX9_hasWord 5 (some .boolean) :: GL
set_option maxHeartbeats 4000000 in
set_option maxRecDepth 100000 in
theorem c_X9_hasWord (l : Launch) (D : va_G) (ca : Nat → ClassId) (zz : Nat → Nat) (a0 a1 : Nat) (sz : Nat) (v0 : V9) (p1 : Int32) (p2 : Int32) (p3 : Nat) (r : Int32) (hf : f_X9_hasWord v0 p1 p2 p3 = some r) : Met l yX9_hasWord wq_X9_hasWord ({ frames := 4, cells := 0, slots := 0, locals := 85 } : Room) (PR D ca zz [.ref a0, .int p1, .int p2, .ref (zz (10 + p3))] sz [(a0, .inr (9, [.ref a1, .int v0.2.1, .int v0.2.2.1, .int v0.2.2.2])), (a1, .inl (ca 0, 300, .inl v0.1))]) (QI D ca r [(a0, .inr (9, [.ref a1, .int v0.2.1, .int v0.2.2.1, .int v0.2.2.2])), (a1, .inl (ca 0, 300, .inl v0.1))] (va_A [(a0, .inr (9, [.ref a1, .int v0.2.1, .int v0.2.2.1, .int v0.2.2.2])), (a1, .inl (ca 0, 300, .inl v0.1))] sz)) 0 0 (va_A [(a0, .inr (9, [.ref a1, .int v0.2.1, .int v0.2.2.1, .int v0.2.2.2])), (a1, .inl (ca 0, 300, .inl v0.1))] sz) := by
  refine en (y := yX9_hasWord) (wsm := wq_X9_hasWord) (av := [.ref a0, .int p1, .int p2, .ref (zz (10 + p3))]) (cc := cX9_hasWord) (maxL := 5) (ret := (some .boolean)) (Qf := fun A => (QI D ca r [(a0, .inr (9, [.ref a1, .int v0.2.1, .int v0.2.2.1, .int v0.2.2.2])), (a1, .inl (ca 0, 300, .inl v0.1))] A)) (by decide) rfl (Nat.le_of_ble_eq_true rfl) ?_
  intro p e s m args below meth c A Q ls hx hb hr hml hown hts hlocks hnm hA hN hZ hK hQ hP hD hS hl
  have bl15 : ∀ (k15 : Int32 → Nat → Int32 → Option (Int32)) (q15 : ∀ (x1 : Int32) (x3 : Nat) (x4 : Int32), k15 x1 x3 x4 = some r → ∀ (H : Heap) (locs : List Loc) (ls : Array Slot), va_P D vwCl [(a0, .inr (9, [.ref a1, .int v0.2.1, .int v0.2.2.1, .int v0.2.2.2])), (a1, .inl (ca 0, 300, .inl v0.1))] H → va_D A [(a0, .inr (9, [.ref a1, .int v0.2.1, .int v0.2.2.1, .int v0.2.2.2])), (a1, .inl (ca 0, 300, .inl v0.1))] → va_S A s.heap H locs → lv_has ls 5 [(0, .ref a0), (1, .int x1), (3, .ref (zz (10 + x3))), (4, .int x4)] → W p l e ({ frames := 4, cells := 0, slots := 0, locals := 85 } : Room) s m args below meth c H locs 0 0 Q (F0 m 15 ls [])) (x1 : Int32) (x3 : Nat) (x4 : Int32), fl_X9_hasWord_15 v0 k15 x1 x3 x4 = some r → ∀ (H : Heap) (locs : List Loc) (ls : Array Slot), va_P D vwCl [(a0, .inr (9, [.ref a1, .int v0.2.1, .int v0.2.2.1, .int v0.2.2.2])), (a1, .inl (ca 0, 300, .inl v0.1))] H → va_D A [(a0, .inr (9, [.ref a1, .int v0.2.1, .int v0.2.2.1, .int v0.2.2.2])), (a1, .inl (ca 0, 300, .inl v0.1))] → va_S A s.heap H locs → lv_has ls 5 [(0, .ref a0), (1, .int x1), (3, .ref (zz (10 + x3))), (4, .int x4)] → W p l e ({ frames := 4, cells := 0, slots := 0, locals := 85 } : Room) s m args below meth c H locs 0 0 Q (F0 m 15 ls []) := by
    intro k15 q15 x1 x3 x4 hf H locs ls hP hD hS hl
    unfold fl_X9_hasWord_15 at hf
    refine lv_iload hx hb dX9_hasWord_15 (lv_at hl 3 rfl) ?_
    refine lv_aload_n hx hb dX9_hasWord_17 rfl (lv_at hl 2 rfl) ?_
    obtain ⟨r_2, hc2, hf⟩ := bnd1_el hf
    refine xT_I (As := []) ⟨hx, hb, hml, hown, hts⟩ (c_J0_length_8abf5 l D ca zz _ x3 r_2 hc2) (cwV 0 hts (gV gw_3_49 gw_3_50 gw_3_51 gw_1_17 gw_3_52) rfl rfl rfl (by decide +kernel) ⟨(Nat.le_of_ble_eq_true rfl), (Nat.le_of_ble_eq_true rfl)⟩) (sl_J0_length_8abf5 hc2) hK hN hZ hA hP hD hS rfl hl.1 rfl (Nat.le_of_ble_eq_true rfl) dX9_hasWord_18 ⟨Nat.zero_le _, Nat.zero_le _⟩ (fun H locs hP hD hS => ?_)
    refine xc_ge (tgt := 49) hx hb dX9_hasWord_21 (by decide) hf (fun hf => ?_) (fun hf => ?_)
    · refine lv_iconst (v := 1) hx hb dX9_hasWord_49 rfl ?_
      have he := Option.some.inj hf
      have e_r := he
      refine rt_Z hx hb hr hlocks hK hP hD hS hQ (Or.inr rfl) e_r ?_ dX9_hasWord_50
      rfl
    · refine lv_aload_n hx hb dX9_hasWord_24 rfl (lv_at hl 0 rfl) ?_
      refine lv_iload_n hx hb dX9_hasWord_25 rfl (lv_at hl 1 rfl) ?_
      refine lv_iload hx hb dX9_hasWord_26 (lv_at hl 3 rfl) ?_
      refine lv_iadd hx hb dX9_hasWord_28 ?_
      obtain ⟨r_3, hc3, hf⟩ := bnd1_el hf
      refine xV_I (As := [.int (x1 + x4)]) (wx := [(a0, .inr (9, [.ref a1, .int v0.2.1, .int v0.2.2.1, .int v0.2.2.2])), (a1, .inl (ca 0, 300, .inl v0.1))]) ⟨hx, hb, hml, hown, hts⟩ (c_X9_byteAt l D ca zz a0 a1 _ v0 (x1 + x4) r_3 hc3) (cwV 1 hts (gV gw_3_59 gw_3_4 gw_3_5 gw_1_10 gw_3_6) rfl rfl rfl (by decide +kernel) ⟨(Nat.le_of_ble_eq_true rfl), (Nat.le_of_ble_eq_true rfl)⟩) hK hN hZ hA hP hD hS [0, 1] [some 0, some 1] (by decide +kernel) rfl rfl rfl rfl 0 rfl rfl hl.1 rfl (Nat.le_of_ble_eq_true rfl) dX9_hasWord_29 ⟨Nat.zero_le _, Nat.zero_le _⟩ rfl (fun H locs hP hD hS => ?_)
      refine lv_aload_n hx hb dX9_hasWord_32 rfl (lv_at hl 2 rfl) ?_
      refine lv_iload hx hb dX9_hasWord_33 (lv_at hl 3 rfl) ?_
      obtain ⟨r_4, hc4, hf⟩ := bnd1_el hf
      refine xT_I (As := [.int x4]) ⟨hx, hb, hml, hown, hts⟩ (c_J0_charAt_5068e l D ca zz _ x3 x4 r_4 hc4) (cwV 1 hts (gV gw_3_60 gw_3_61 gw_3_62 gw_1_17 gw_3_63) rfl rfl rfl (by decide +kernel) ⟨(Nat.le_of_ble_eq_true rfl), (Nat.le_of_ble_eq_true rfl)⟩) (sl_J0_charAt_5068e hc4) hK hN hZ hA hP hD hS rfl hl.1 rfl (Nat.le_of_ble_eq_true rfl) dX9_hasWord_35 ⟨Nat.zero_le _, Nat.zero_le _⟩ (fun H locs hP hD hS => ?_)
      refine xc_eq (tgt := 43) hx hb dX9_hasWord_38 (by decide) hf (fun hf => ?_) (fun hf => ?_)
      · obtain ⟨x_5, ex_5, hf⟩ := bnd_el hf
        refine lv_iinc (v := x_5) (lv' := [(4, .int x_5), (0, .ref a0), (1, .int x1), (3, .ref (zz (10 + x3)))]) hx hb dX9_hasWord_43 hl (k := 3) rfl (by rw [ex_5]; rfl) (Nat.le_of_ble_eq_true rfl) rfl (fun ls hl => ?_)
        refine lv_goto (tgt := 15) hx hb dX9_hasWord_46 (by decide) ?_
        exact q15 x1 x3 x_5 hf _ _ _ hP hD hS (lv_sub hl [1, 2, 3, 0] rfl)
      · refine lv_iconst (v := 0) hx hb dX9_hasWord_41 rfl ?_
        have he := Option.some.inj hf
        have e_r := he
        refine rt_Z hx hb hr hlocks hK hP hD hS hQ (Or.inl rfl) e_r ?_ dX9_hasWord_42
        rfl
  have b15 : ∀ (n : Nat) (x1 : Int32) (x3 : Nat) (x4 : Int32), fb_X9_hasWord_15 v0 n x1 x3 x4 = some r → ∀ (H : Heap) (locs : List Loc) (ls : Array Slot), va_P D vwCl [(a0, .inr (9, [.ref a1, .int v0.2.1, .int v0.2.2.1, .int v0.2.2.2])), (a1, .inl (ca 0, 300, .inl v0.1))] H → va_D A [(a0, .inr (9, [.ref a1, .int v0.2.1, .int v0.2.2.1, .int v0.2.2.2])), (a1, .inl (ca 0, 300, .inl v0.1))] → va_S A s.heap H locs → lv_has ls 5 [(0, .ref a0), (1, .int x1), (3, .ref (zz (10 + x3))), (4, .int x4)] → W p l e ({ frames := 4, cells := 0, slots := 0, locals := 85 } : Room) s m args below meth c H locs 0 0 Q (F0 m 15 ls []) := by
    intro n
    induction n with
    | zero => intro x1 x3 x4 hf; exact no_el hf
    | succ n ih => exact bl15 (fb_X9_hasWord_15 v0 n) ih
  unfold f_X9_hasWord at hf
  refine lv_iload_n hx hb dX9_hasWord_0 rfl (lv_at hl 2 rfl) ?_
  refine lv_iload_n hx hb dX9_hasWord_1 rfl (lv_at hl 1 rfl) ?_
  refine lv_isub hx hb dX9_hasWord_2 ?_
  refine lv_aload_n hx hb dX9_hasWord_3 rfl (lv_at hl 3 rfl) ?_
  obtain ⟨r_1, hc1, hf⟩ := bnd1_el hf
  refine xT_I (As := []) ⟨hx, hb, hml, hown, hts⟩ (c_J0_length_8abf5 l D ca zz _ p3 r_1 hc1) (cwV 0 hts (gV gw_3_49 gw_3_50 gw_3_51 gw_1_17 gw_3_52) rfl rfl rfl (by decide +kernel) ⟨(Nat.le_of_ble_eq_true rfl), (Nat.le_of_ble_eq_true rfl)⟩) (sl_J0_length_8abf5 hc1) hK hN hZ hA hP hD hS rfl hl.1 rfl (Nat.le_of_ble_eq_true rfl) dX9_hasWord_4 ⟨Nat.zero_le _, Nat.zero_le _⟩ (fun H locs hP hD hS => ?_)
  refine xc_eq (tgt := 12) hx hb dX9_hasWord_7 (by decide) hf (fun hf => ?_) (fun hf => ?_)
  · refine lv_iconst (v := 0) hx hb dX9_hasWord_12 rfl ?_
    refine lv_istore (lv' := [(4, .int (0 : Int32)), (0, .ref a0), (1, .int p1), (2, .int p2), (3, .ref (zz (10 + p3)))]) hx hb dX9_hasWord_13 hl (Nat.le_of_ble_eq_true rfl) rfl (fun ls hl => ?_)
    exact b15 FU p1 p3 (0 : Int32) hf _ _ _ hP hD hS (lv_sub hl [1, 2, 4, 0] rfl)
  · refine lv_iconst (v := 0) hx hb dX9_hasWord_10 rfl ?_
    have he := Option.some.inj hf
    have e_r := he
    refine rt_Z hx hb hr hlocks hK hP hD hS hQ (Or.inl rfl) e_r ?_ dX9_hasWord_11
    rfl
abbrev wq_X5_settingOf : List Cond := Cond.code yX5_settingOf cX5_settingOf 3 (some .int) :: GL
set_option maxHeartbeats 4000000 in
set_option maxRecDepth 100000 in
theorem c_X5_settingOf (l : Launch) (D : va_G) (ca : Nat → ClassId) (zz : Nat → Nat) (a0 a1 a6 b0 b1 : Nat) (sz : Nat) (v0 : V5) (v1 : V9) (r : Int32) (hf : f_X5_settingOf v0 v1 = some r) : Met l yX5_settingOf wq_X5_settingOf ({ frames := 5, cells := 0, slots := 0, locals := 109 } : Room) (PR D ca zz [.ref a0, .ref b0] sz [(a0, .inr (5, [.ref a1, .ref a6, .int v0.2.2.1, .int v0.2.2.2.1, .int v0.2.2.2.2.1, .int v0.2.2.2.2.2.1, .int v0.2.2.2.2.2.2.1, .int v0.2.2.2.2.2.2.2])), (b0, .inr (9, [.ref b1, .int v1.2.1, .int v1.2.2.1, .int v1.2.2.2])), (b1, .inl (ca 0, 300, .inl v1.1))]) (QI D ca r [(a0, .inr (5, [.ref a1, .ref a6, .int v0.2.2.1, .int v0.2.2.2.1, .int v0.2.2.2.2.1, .int v0.2.2.2.2.2.1, .int v0.2.2.2.2.2.2.1, .int v0.2.2.2.2.2.2.2])), (b0, .inr (9, [.ref b1, .int v1.2.1, .int v1.2.2.1, .int v1.2.2.2])), (b1, .inl (ca 0, 300, .inl v1.1))] (va_A [(a0, .inr (5, [.ref a1, .ref a6, .int v0.2.2.1, .int v0.2.2.2.1, .int v0.2.2.2.2.1, .int v0.2.2.2.2.2.1, .int v0.2.2.2.2.2.2.1, .int v0.2.2.2.2.2.2.2])), (b0, .inr (9, [.ref b1, .int v1.2.1, .int v1.2.2.1, .int v1.2.2.2])), (b1, .inl (ca 0, 300, .inl v1.1))] sz)) 0 0 (va_A [(a0, .inr (5, [.ref a1, .ref a6, .int v0.2.2.1, .int v0.2.2.2.1, .int v0.2.2.2.2.1, .int v0.2.2.2.2.2.1, .int v0.2.2.2.2.2.2.1, .int v0.2.2.2.2.2.2.2])), (b0, .inr (9, [.ref b1, .int v1.2.1, .int v1.2.2.1, .int v1.2.2.2])), (b1, .inl (ca 0, 300, .inl v1.1))] sz) := by
  refine en (y := yX5_settingOf) (wsm := wq_X5_settingOf) (av := [.ref a0, .ref b0]) (cc := cX5_settingOf) (maxL := 3) (ret := (some .int)) (Qf := fun A => (QI D ca r [(a0, .inr (5, [.ref a1, .ref a6, .int v0.2.2.1, .int v0.2.2.2.1, .int v0.2.2.2.2.1, .int v0.2.2.2.2.2.1, .int v0.2.2.2.2.2.2.1, .int v0.2.2.2.2.2.2.2])), (b0, .inr (9, [.ref b1, .int v1.2.1, .int v1.2.2.1, .int v1.2.2.2])), (b1, .inl (ca 0, 300, .inl v1.1))] A)) (by decide) rfl (Nat.le_of_ble_eq_true rfl) ?_
  intro p e s m args below meth c A Q ls hx hb hr hml hown hts hlocks hnm hA hN hZ hK hQ hP hD hS hl
  have w0 := hts _ (List.mem_cons_of_mem _ gw_2_136)
  have w1 := hts _ (List.mem_cons_of_mem _ gw_2_134)
  have i5 : ∀ w ∈ u_ws RX5 TX5 8, w ∈ wq_X5_settingOf := fun w h => List.mem_cons_of_mem _ (inX5 w h)
  have bl2 : ∀ (k2 : Int32 → Option (Int32)) (q2 : ∀ (x2 : Int32), k2 x2 = some r → ∀ (H : Heap) (locs : List Loc) (ls : Array Slot), va_P D vwCl [(a0, .inr (5, [.ref a1, .ref a6, .int v0.2.2.1, .int v0.2.2.2.1, .int v0.2.2.2.2.1, .int v0.2.2.2.2.2.1, .int v0.2.2.2.2.2.2.1, .int v0.2.2.2.2.2.2.2])), (b0, .inr (9, [.ref b1, .int v1.2.1, .int v1.2.2.1, .int v1.2.2.2])), (b1, .inl (ca 0, 300, .inl v1.1))] H → va_D A [(a0, .inr (5, [.ref a1, .ref a6, .int v0.2.2.1, .int v0.2.2.2.1, .int v0.2.2.2.2.1, .int v0.2.2.2.2.2.1, .int v0.2.2.2.2.2.2.1, .int v0.2.2.2.2.2.2.2])), (b0, .inr (9, [.ref b1, .int v1.2.1, .int v1.2.2.1, .int v1.2.2.2])), (b1, .inl (ca 0, 300, .inl v1.1))] → va_S A s.heap H locs → lv_has ls 3 [(0, .ref a0), (1, .ref b0), (2, .int x2)] → W p l e ({ frames := 5, cells := 0, slots := 0, locals := 109 } : Room) s m args below meth c H locs 0 0 Q (F0 m 2 ls [])) (x2 : Int32), fl_X5_settingOf_2 v0 v1 k2 x2 = some r → ∀ (H : Heap) (locs : List Loc) (ls : Array Slot), va_P D vwCl [(a0, .inr (5, [.ref a1, .ref a6, .int v0.2.2.1, .int v0.2.2.2.1, .int v0.2.2.2.2.1, .int v0.2.2.2.2.2.1, .int v0.2.2.2.2.2.2.1, .int v0.2.2.2.2.2.2.2])), (b0, .inr (9, [.ref b1, .int v1.2.1, .int v1.2.2.1, .int v1.2.2.2])), (b1, .inl (ca 0, 300, .inl v1.1))] H → va_D A [(a0, .inr (5, [.ref a1, .ref a6, .int v0.2.2.1, .int v0.2.2.2.1, .int v0.2.2.2.2.1, .int v0.2.2.2.2.2.1, .int v0.2.2.2.2.2.2.1, .int v0.2.2.2.2.2.2.2])), (b0, .inr (9, [.ref b1, .int v1.2.1, .int v1.2.2.1, .int v1.2.2.2])), (b1, .inl (ca 0, 300, .inl v1.1))] → va_S A s.heap H locs → lv_has ls 3 [(0, .ref a0), (1, .ref b0), (2, .int x2)] → W p l e ({ frames := 5, cells := 0, slots := 0, locals := 109 } : Room) s m args below meth c H locs 0 0 Q (F0 m 2 ls []) := by
    intro k2 q2 x2 hf H locs ls hP hD hS hl
    unfold fl_X5_settingOf_2 at hf
    refine lv_iload_n hx hb dX5_settingOf_2 rfl (lv_at hl 2 rfl) ?_
    refine lv_bipush (v := 9) hx hb dX5_settingOf_3 rfl ?_
    refine xc_gt (tgt := 35) hx hb dX5_settingOf_5 (by decide) hf (fun hf => ?_) (fun hf => ?_)
    · refine lv_iconst (v := -1) hx hb dX5_settingOf_35 rfl ?_
      have he := Option.some.inj hf
      have e_r := he
      refine rt_I hx hb hr hlocks hK hP hD hS hQ e_r ?_ dX5_settingOf_36
      rfl
    · refine lv_aload_n hx hb dX5_settingOf_8 rfl (lv_at hl 1 rfl) ?_
      refine lv_aload_n hx hb dX5_settingOf_9 rfl (lv_at hl 0 rfl) ?_
      refine va_get (C := RX5) (T := TX5) (N := 8) hx hb hts i5 hown hK hP 0 rfl rfl 4 (Nat.le_of_ble_eq_true rfl) w0 (fun _ h9 => h9) rfl dX5_settingOf_10 ?_
      refine lv_aload_n hx hb dX5_settingOf_13 rfl (lv_at hl 0 rfl) ?_
      refine va_get (C := RX5) (T := TX5) (N := 8) hx hb hts i5 hown hK hP 0 rfl rfl 2 (Nat.le_of_ble_eq_true rfl) w1 (fun _ h9 => h9) rfl dX5_settingOf_14 ?_
      refine lv_iload_n hx hb dX5_settingOf_17 rfl (lv_at hl 2 rfl) ?_
      obtain ⟨r_1, hc1, hf⟩ := bnd1_el hf
      refine xS_S (As := [.int x2]) ⟨hx, hb, hml, hown, hts⟩ (c_X5_wordOf l D ca zz _ x2 r_1 hc1) (va_cwS 1 hts (gS gw_3_32 gw_3_33 gw_1_13 gw_3_34) rfl rfl rfl (by decide +kernel) ⟨(Nat.le_of_ble_eq_true rfl), (Nat.le_of_ble_eq_true rfl)⟩) hK hN hZ hA hP hD hS rfl hl.1 rfl (Nat.le_of_ble_eq_true rfl) dX5_settingOf_18 ⟨Nat.zero_le _, Nat.zero_le _⟩ (fun H locs hP hD hS => ?_)
      obtain ⟨r_2, hc2, hf⟩ := bnd1_el hf
      refine xV_I (As := [.int v0.2.2.2.2.1, .int v0.2.2.1, .ref (zz (10 + r_1))]) (wx := [(a0, .inr (5, [.ref a1, .ref a6, .int v0.2.2.1, .int v0.2.2.2.1, .int v0.2.2.2.2.1, .int v0.2.2.2.2.2.1, .int v0.2.2.2.2.2.2.1, .int v0.2.2.2.2.2.2.2])), (b0, .inr (9, [.ref b1, .int v1.2.1, .int v1.2.2.1, .int v1.2.2.2])), (b1, .inl (ca 0, 300, .inl v1.1))]) ⟨hx, hb, hml, hown, hts⟩ (c_X9_hasWord l D ca zz b0 b1 _ v1 v0.2.2.2.2.1 v0.2.2.1 r_1 r_2 hc2) (cwV 3 hts (gV gw_3_45 gw_3_46 gw_3_47 gw_1_10 gw_3_48) rfl rfl rfl (by decide +kernel) ⟨(Nat.le_of_ble_eq_true rfl), (Nat.le_of_ble_eq_true rfl)⟩) hK hN hZ hA hP hD hS [1, 2] [none, some 0, some 1] (by decide +kernel) rfl rfl rfl rfl 1 rfl rfl hl.1 rfl (Nat.le_of_ble_eq_true rfl) dX5_settingOf_21 ⟨Nat.zero_le _, Nat.zero_le _⟩ rfl (fun H locs hP hD hS => ?_)
      refine xi_eq (tgt := 29) hx hb dX5_settingOf_24 (by decide) hf (fun hf => ?_) (fun hf => ?_)
      · obtain ⟨x_3, ex_3, hf⟩ := bnd_el hf
        refine lv_iinc (v := x_3) (lv' := [(2, .int x_3), (0, .ref a0), (1, .ref b0)]) hx hb dX5_settingOf_29 hl (k := 2) rfl (by rw [ex_3]; rfl) (Nat.le_of_ble_eq_true rfl) rfl (fun ls hl => ?_)
        refine lv_goto (tgt := 2) hx hb dX5_settingOf_32 (by decide) ?_
        exact q2 x_3 hf _ _ _ hP hD hS (lv_sub hl [1, 2, 0] rfl)
      · refine lv_iload_n hx hb dX5_settingOf_27 rfl (lv_at hl 2 rfl) ?_
        have he := Option.some.inj hf
        have e_r := he
        refine rt_I hx hb hr hlocks hK hP hD hS hQ e_r ?_ dX5_settingOf_28
        rfl
  have b2 : ∀ (n : Nat) (x2 : Int32), fb_X5_settingOf_2 v0 v1 n x2 = some r → ∀ (H : Heap) (locs : List Loc) (ls : Array Slot), va_P D vwCl [(a0, .inr (5, [.ref a1, .ref a6, .int v0.2.2.1, .int v0.2.2.2.1, .int v0.2.2.2.2.1, .int v0.2.2.2.2.2.1, .int v0.2.2.2.2.2.2.1, .int v0.2.2.2.2.2.2.2])), (b0, .inr (9, [.ref b1, .int v1.2.1, .int v1.2.2.1, .int v1.2.2.2])), (b1, .inl (ca 0, 300, .inl v1.1))] H → va_D A [(a0, .inr (5, [.ref a1, .ref a6, .int v0.2.2.1, .int v0.2.2.2.1, .int v0.2.2.2.2.1, .int v0.2.2.2.2.2.1, .int v0.2.2.2.2.2.2.1, .int v0.2.2.2.2.2.2.2])), (b0, .inr (9, [.ref b1, .int v1.2.1, .int v1.2.2.1, .int v1.2.2.2])), (b1, .inl (ca 0, 300, .inl v1.1))] → va_S A s.heap H locs → lv_has ls 3 [(0, .ref a0), (1, .ref b0), (2, .int x2)] → W p l e ({ frames := 5, cells := 0, slots := 0, locals := 109 } : Room) s m args below meth c H locs 0 0 Q (F0 m 2 ls []) := by
    intro n
    induction n with
    | zero => intro x2 hf; exact no_el hf
    | succ n ih => exact bl2 (fb_X5_settingOf_2 v0 v1 n) ih
  unfold f_X5_settingOf at hf
  refine lv_iconst (v := 0) hx hb dX5_settingOf_0 rfl ?_
  refine lv_istore_n (lv' := [(2, .int (0 : Int32)), (0, .ref a0), (1, .ref b0)]) hx hb dX5_settingOf_1 rfl hl (Nat.le_of_ble_eq_true rfl) rfl (fun ls hl => ?_)
  exact b2 FU (0 : Int32) hf _ _ _ hP hD hS (lv_sub hl [1, 2, 0] rfl)
abbrev wq_X5_note : List Cond := Cond.code yX5_note cX5_note 2 none :: GL
set_option maxHeartbeats 4000000 in
set_option maxRecDepth 100000 in
theorem c_X5_note (l : Launch) (D : va_G) (ca : Nat → ClassId) (zz : Nat → Nat) (a0 a1 a2 a3 a4 a5 a6 : Nat) (sz : Nat) (v0 : V5) (p1 : Int32) (v0' : V5) (hf : f_X5_note v0 p1 = some v0') : Met l yX5_note wq_X5_note ({ frames := 0, cells := 0, slots := 0, locals := 0 } : Room) (PR D ca zz [.ref a0, .int p1] sz [(a0, .inr (5, [.ref a1, .ref a6, .int v0.2.2.1, .int v0.2.2.2.1, .int v0.2.2.2.2.1, .int v0.2.2.2.2.2.1, .int v0.2.2.2.2.2.2.1, .int v0.2.2.2.2.2.2.2])), (a1, .inr (7, [.ref a2, .ref a3, .ref a4, .ref a5, .int v0.1.2.2.2.2])), (a2, .inl (ca 0, 9, .inl v0.1.1)), (a3, .inl (ca 0, 4, .inl v0.1.2.1)), (a4, .inl (ca 0, 4, .inl v0.1.2.2.1)), (a5, .inl (ca 0, 4, .inl v0.1.2.2.2.1)), (a6, .inl (ca 0, 3, .inl v0.2.1))]) (QV D ca [(a0, .inr (5, [.ref a1, .ref a6, .int v0'.2.2.1, .int v0'.2.2.2.1, .int v0'.2.2.2.2.1, .int v0'.2.2.2.2.2.1, .int v0'.2.2.2.2.2.2.1, .int v0'.2.2.2.2.2.2.2])), (a1, .inr (7, [.ref a2, .ref a3, .ref a4, .ref a5, .int v0'.1.2.2.2.2])), (a2, .inl (ca 0, 9, .inl v0'.1.1)), (a3, .inl (ca 0, 4, .inl v0'.1.2.1)), (a4, .inl (ca 0, 4, .inl v0'.1.2.2.1)), (a5, .inl (ca 0, 4, .inl v0'.1.2.2.2.1)), (a6, .inl (ca 0, 3, .inl v0'.2.1))] (va_A [(a0, .inr (5, [.ref a1, .ref a6, .int v0.2.2.1, .int v0.2.2.2.1, .int v0.2.2.2.2.1, .int v0.2.2.2.2.2.1, .int v0.2.2.2.2.2.2.1, .int v0.2.2.2.2.2.2.2])), (a1, .inr (7, [.ref a2, .ref a3, .ref a4, .ref a5, .int v0.1.2.2.2.2])), (a2, .inl (ca 0, 9, .inl v0.1.1)), (a3, .inl (ca 0, 4, .inl v0.1.2.1)), (a4, .inl (ca 0, 4, .inl v0.1.2.2.1)), (a5, .inl (ca 0, 4, .inl v0.1.2.2.2.1)), (a6, .inl (ca 0, 3, .inl v0.2.1))] sz)) 0 0 (va_A [(a0, .inr (5, [.ref a1, .ref a6, .int v0.2.2.1, .int v0.2.2.2.1, .int v0.2.2.2.2.1, .int v0.2.2.2.2.2.1, .int v0.2.2.2.2.2.2.1, .int v0.2.2.2.2.2.2.2])), (a1, .inr (7, [.ref a2, .ref a3, .ref a4, .ref a5, .int v0.1.2.2.2.2])), (a2, .inl (ca 0, 9, .inl v0.1.1)), (a3, .inl (ca 0, 4, .inl v0.1.2.1)), (a4, .inl (ca 0, 4, .inl v0.1.2.2.1)), (a5, .inl (ca 0, 4, .inl v0.1.2.2.2.1)), (a6, .inl (ca 0, 3, .inl v0.2.1))] sz) := by
  refine en (y := yX5_note) (wsm := wq_X5_note) (av := [.ref a0, .int p1]) (cc := cX5_note) (maxL := 2) (ret := none) (Qf := fun A => (QV D ca [(a0, .inr (5, [.ref a1, .ref a6, .int v0'.2.2.1, .int v0'.2.2.2.1, .int v0'.2.2.2.2.1, .int v0'.2.2.2.2.2.1, .int v0'.2.2.2.2.2.2.1, .int v0'.2.2.2.2.2.2.2])), (a1, .inr (7, [.ref a2, .ref a3, .ref a4, .ref a5, .int v0'.1.2.2.2.2])), (a2, .inl (ca 0, 9, .inl v0'.1.1)), (a3, .inl (ca 0, 4, .inl v0'.1.2.1)), (a4, .inl (ca 0, 4, .inl v0'.1.2.2.1)), (a5, .inl (ca 0, 4, .inl v0'.1.2.2.2.1)), (a6, .inl (ca 0, 3, .inl v0'.2.1))] A)) (by decide) rfl (Nat.le_of_ble_eq_true rfl) ?_
  intro p e s m args below meth c A Q ls hx hb hr hml hown hts hlocks hnm hA hN hZ hK hQ hP hD hS hl
  have w0 := hts _ (List.mem_cons_of_mem _ gw_2_138)
  have w1 := hts _ (List.mem_cons_of_mem _ gw_2_136)
  have w2 := hts _ (List.mem_cons_of_mem _ gw_2_140)
  have i5 : ∀ w ∈ u_ws RX5 TX5 8, w ∈ wq_X5_note := fun w h => List.mem_cons_of_mem _ (inX5 w h)
  unfold f_X5_note at hf
  refine lv_aload_n hx hb dX5_note_0 rfl (lv_at hl 0 rfl) ?_
  refine va_get (C := RX5) (T := TX5) (N := 8) hx hb hts i5 hown hK hP 0 rfl rfl 6 (Nat.le_of_ble_eq_true rfl) w0 (fun _ h9 => h9) rfl dX5_note_1 ?_
  refine xi_ne (tgt := 20) hx hb dX5_note_4 (by decide) hf (fun hf => ?_) (fun hf => ?_)
  · have he := Option.some.inj hf
    have e_v0 := he
    refine rt_V hx hb hr hlocks hK hP hD hS hQ ?_ dX5_note_20
    simp only [← e_v0]
  · refine lv_aload_n hx hb dX5_note_7 rfl (lv_at hl 0 rfl) ?_
    refine lv_iload_n hx hb dX5_note_8 rfl (lv_at hl 1 rfl) ?_
    refine xput (C := RX5) (T := TX5) (N := 8) (wx := [(a0, .inr (5, [.ref a1, .ref a6, .int v0.2.2.1, .int v0.2.2.2.1, .int v0.2.2.2.2.1, .int v0.2.2.2.2.2.1, .int p1, .int v0.2.2.2.2.2.2.2])), (a1, .inr (7, [.ref a2, .ref a3, .ref a4, .ref a5, .int v0.1.2.2.2.2])), (a2, .inl (ca 0, 9, .inl v0.1.1)), (a3, .inl (ca 0, 4, .inl v0.1.2.1)), (a4, .inl (ca 0, 4, .inl v0.1.2.2.1)), (a5, .inl (ca 0, 4, .inl v0.1.2.2.2.1)), (a6, .inl (ca 0, 3, .inl v0.2.1))]) hx hb hts i5 tyX5 tyX5_ok nmX5 hown hK hP hD hS 0 rfl rfl 6 (Nat.le_of_ble_eq_true rfl) w0 (fun _ h9 => h9) rfl rfl rfl rfl (Nat.le_of_ble_eq_true rfl) dX5_note_9 rfl (fun H locs hP hD hS => ?_)
    refine lv_aload_n hx hb dX5_note_12 rfl (lv_at hl 0 rfl) ?_
    refine lv_aload_n hx hb dX5_note_13 rfl (lv_at hl 0 rfl) ?_
    refine va_get (C := RX5) (T := TX5) (N := 8) hx hb hts i5 hown hK hP 0 rfl rfl 4 (Nat.le_of_ble_eq_true rfl) w1 (fun _ h9 => h9) rfl dX5_note_14 ?_
    refine xput (C := RX5) (T := TX5) (N := 8) (wx := [(a0, .inr (5, [.ref a1, .ref a6, .int v0.2.2.1, .int v0.2.2.2.1, .int v0.2.2.2.2.1, .int v0.2.2.2.2.2.1, .int p1, .int v0.2.2.2.2.1])), (a1, .inr (7, [.ref a2, .ref a3, .ref a4, .ref a5, .int v0.1.2.2.2.2])), (a2, .inl (ca 0, 9, .inl v0.1.1)), (a3, .inl (ca 0, 4, .inl v0.1.2.1)), (a4, .inl (ca 0, 4, .inl v0.1.2.2.1)), (a5, .inl (ca 0, 4, .inl v0.1.2.2.2.1)), (a6, .inl (ca 0, 3, .inl v0.2.1))]) hx hb hts i5 tyX5 tyX5_ok nmX5 hown hK hP hD hS 0 rfl rfl 7 (Nat.le_of_ble_eq_true rfl) w2 (fun _ h9 => h9) rfl rfl rfl rfl (Nat.le_of_ble_eq_true rfl) dX5_note_17 rfl (fun H locs hP hD hS => ?_)
    have he := Option.some.inj hf
    have e_v0 := he
    refine rt_V hx hb hr hlocks hK hP hD hS hQ ?_ dX5_note_20
    simp only [← e_v0]
abbrev wq_X5_canBe : List Cond := Cond.code yX5_canBe cX5_canBe 3 (some .boolean) :: GL
set_option maxHeartbeats 4000000 in
set_option maxRecDepth 100000 in
theorem c_X5_canBe (l : Launch) (D : va_G) (ca : Nat → ClassId) (zz : Nat → Nat) (a0 a1 a6 : Nat) (sz : Nat) (v0 : V5) (p1 : Int32) (p2 : Int32) (r : Int32) (hf : f_X5_canBe v0 p1 p2 = some r) : Met l yX5_canBe wq_X5_canBe ({ frames := 0, cells := 0, slots := 0, locals := 0 } : Room) (PR D ca zz [.ref a0, .int p1, .int p2] sz [(a0, .inr (5, [.ref a1, .ref a6, .int v0.2.2.1, .int v0.2.2.2.1, .int v0.2.2.2.2.1, .int v0.2.2.2.2.2.1, .int v0.2.2.2.2.2.2.1, .int v0.2.2.2.2.2.2.2])), (a6, .inl (ca 0, 3, .inl v0.2.1))]) (QI D ca r [(a0, .inr (5, [.ref a1, .ref a6, .int v0.2.2.1, .int v0.2.2.2.1, .int v0.2.2.2.2.1, .int v0.2.2.2.2.2.1, .int v0.2.2.2.2.2.2.1, .int v0.2.2.2.2.2.2.2])), (a6, .inl (ca 0, 3, .inl v0.2.1))] (va_A [(a0, .inr (5, [.ref a1, .ref a6, .int v0.2.2.1, .int v0.2.2.2.1, .int v0.2.2.2.2.1, .int v0.2.2.2.2.2.1, .int v0.2.2.2.2.2.2.1, .int v0.2.2.2.2.2.2.2])), (a6, .inl (ca 0, 3, .inl v0.2.1))] sz)) 0 0 (va_A [(a0, .inr (5, [.ref a1, .ref a6, .int v0.2.2.1, .int v0.2.2.2.1, .int v0.2.2.2.2.1, .int v0.2.2.2.2.2.1, .int v0.2.2.2.2.2.2.1, .int v0.2.2.2.2.2.2.2])), (a6, .inl (ca 0, 3, .inl v0.2.1))] sz) := by
  refine en (y := yX5_canBe) (wsm := wq_X5_canBe) (av := [.ref a0, .int p1, .int p2]) (cc := cX5_canBe) (maxL := 3) (ret := (some .boolean)) (Qf := fun A => (QI D ca r [(a0, .inr (5, [.ref a1, .ref a6, .int v0.2.2.1, .int v0.2.2.2.1, .int v0.2.2.2.2.1, .int v0.2.2.2.2.2.1, .int v0.2.2.2.2.2.2.1, .int v0.2.2.2.2.2.2.2])), (a6, .inl (ca 0, 3, .inl v0.2.1))] A)) (by decide) rfl (Nat.le_of_ble_eq_true rfl) ?_
  intro p e s m args below meth c A Q ls hx hb hr hml hown hts hlocks hnm hA hN hZ hK hQ hP hD hS hl
  have w0 := hts _ (List.mem_cons_of_mem _ gw_2_137)
  have w1 := hts _ (List.mem_cons_of_mem _ gw_2_133)
  have nw47 := NW.use (args := args) (w := .fieldLinkNest RX5 70 "NoiseWatch" "LEAST" "[I" "NoiseWatch") hN 47 rfl
  have nw48 := NW.use (args := args) (w := .fieldLinkNest RX5 73 "NoiseWatch" "MOST" "[I" "NoiseWatch") hN 48 rfl
  have i5 : ∀ w ∈ u_ws RX5 TX5 8, w ∈ wq_X5_canBe := fun w h => List.mem_cons_of_mem _ (inX5 w h)
  have b50 : ∀ (x2 : Int32), fc_X5_canBe_50 v0 x2 = some r → ∀ (H : Heap) (locs : List Loc) (ls : Array Slot), va_P D vwCl [(a0, .inr (5, [.ref a1, .ref a6, .int v0.2.2.1, .int v0.2.2.2.1, .int v0.2.2.2.2.1, .int v0.2.2.2.2.2.1, .int v0.2.2.2.2.2.2.1, .int v0.2.2.2.2.2.2.2])), (a6, .inl (ca 0, 3, .inl v0.2.1))] H → va_D A [(a0, .inr (5, [.ref a1, .ref a6, .int v0.2.2.1, .int v0.2.2.2.1, .int v0.2.2.2.2.1, .int v0.2.2.2.2.2.1, .int v0.2.2.2.2.2.2.1, .int v0.2.2.2.2.2.2.2])), (a6, .inl (ca 0, 3, .inl v0.2.1))] → va_S A s.heap H locs → lv_has ls 3 [(0, .ref a0), (2, .int x2)] → W p l e ({ frames := 0, cells := 0, slots := 0, locals := 0 } : Room) s m args below meth c H locs 0 0 Q (F0 m 50 ls []) := by
    intro x2 hf H locs ls hP hD hS hl
    unfold fc_X5_canBe_50 at hf
    refine lv_iload_n hx hb dX5_canBe_50 rfl (lv_at hl 1 rfl) ?_
    refine lv_iconst (v := 1) hx hb dX5_canBe_51 rfl ?_
    refine xc_ne (tgt := 74) hx hb dX5_canBe_52 (by decide) hf (fun hf => ?_) (fun hf => ?_)
    · refine lv_iload_n hx hb dX5_canBe_74 rfl (lv_at hl 1 rfl) ?_
      refine xi_eq (tgt := 86) hx hb dX5_canBe_75 (by decide) hf (fun hf => ?_) (fun hf => ?_)
      · refine lv_iconst (v := 1) hx hb dX5_canBe_86 rfl ?_
        refine lv_goto (tgt := 91) hx hb dX5_canBe_87 (by decide) ?_
        have he := Option.some.inj hf
        have e_r := he
        refine rt_Z hx hb hr hlocks hK hP hD hS hQ (Or.inr rfl) e_r ?_ dX5_canBe_91
        rfl
      · refine lv_aload_n hx hb dX5_canBe_78 rfl (lv_at hl 0 rfl) ?_
        refine va_get (C := RX5) (T := TX5) (N := 8) hx hb hts i5 hown hK hP 0 rfl rfl 5 (Nat.le_of_ble_eq_true rfl) w0 (fun _ h9 => h9) rfl dX5_canBe_79 ?_
        refine lv_iconst (v := 1) hx hb dX5_canBe_82 rfl ?_
        refine xc_gt (tgt := 90) hx hb dX5_canBe_83 (by decide) hf (fun hf => ?_) (fun hf => ?_)
        · refine lv_iconst (v := 0) hx hb dX5_canBe_90 rfl ?_
          have he := Option.some.inj hf
          have e_r := he
          refine rt_Z hx hb hr hlocks hK hP hD hS hQ (Or.inl rfl) e_r ?_ dX5_canBe_91
          rfl
        · refine lv_iconst (v := 1) hx hb dX5_canBe_86 rfl ?_
          refine lv_goto (tgt := 91) hx hb dX5_canBe_87 (by decide) ?_
          have he := Option.some.inj hf
          have e_r := he
          refine rt_Z hx hb hr hlocks hK hP hD hS hQ (Or.inr rfl) e_r ?_ dX5_canBe_91
          rfl
    · refine lv_aload_n hx hb dX5_canBe_55 rfl (lv_at hl 0 rfl) ?_
      refine va_get (C := RX5) (T := TX5) (N := 8) hx hb hts i5 hown hK hP 0 rfl rfl 5 (Nat.le_of_ble_eq_true rfl) w0 (fun _ h9 => h9) rfl dX5_canBe_56 ?_
      refine lv_aload_n hx hb dX5_canBe_59 rfl (lv_at hl 0 rfl) ?_
      refine va_get (C := RX5) (T := TX5) (N := 8) hx hb hts i5 hown hK hP 0 rfl rfl 1 (Nat.le_of_ble_eq_true rfl) w1 (fun _ h9 => h9) rfl dX5_canBe_60 ?_
      refine lv_iconst (v := 0) hx hb dX5_canBe_63 rfl ?_
      refine xiald hx hb hK hP 1 rfl hf dX5_canBe_64 (fun hf => ?_)
      refine xc_lt (tgt := 72) hx hb dX5_canBe_65 (by decide) hf (fun hf => ?_) (fun hf => ?_)
      · refine lv_iconst (v := 0) hx hb dX5_canBe_72 rfl ?_
        have he := Option.some.inj hf
        have e_r := he
        refine rt_Z hx hb hr hlocks hK hP hD hS hQ (Or.inl rfl) e_r ?_ dX5_canBe_73
        rfl
      · refine lv_iconst (v := 1) hx hb dX5_canBe_68 rfl ?_
        refine lv_goto (tgt := 73) hx hb dX5_canBe_69 (by decide) ?_
        have he := Option.some.inj hf
        have e_r := he
        refine rt_Z hx hb hr hlocks hK hP hD hS hQ (Or.inr rfl) e_r ?_ dX5_canBe_73
        rfl
  unfold f_X5_canBe at hf
  refine lv_iload_n hx hb dX5_canBe_0 rfl (lv_at hl 1 rfl) ?_
  refine xi_lt (tgt := 50) hx hb dX5_canBe_1 (by decide) hf (fun hf => ?_) (fun hf => ?_)
  · exact b50 p2 hf _ _ _ hP hD hS (lv_sub hl [0, 2] rfl)
  · refine lv_iload_n hx hb dX5_canBe_4 rfl (lv_at hl 1 rfl) ?_
    refine va_getsN hx hb hZ.2.1.1 hS hown nw47 (fun _ h9 => h9) dX5_canBe_5 ?_
    refine va_tlen (v := 9) hx hb hZ.2.1.2.1 hS rfl dX5_canBe_8 ?_
    refine xc_ge (tgt := 50) hx hb dX5_canBe_9 (by decide) hf (fun hf => ?_) (fun hf => ?_)
    · exact b50 p2 hf _ _ _ hP hD hS (lv_sub hl [0, 2] rfl)
    · refine lv_iload_n hx hb dX5_canBe_12 rfl (lv_at hl 1 rfl) ?_
      refine va_getsN hx hb hZ.2.2.1.1 hS hown nw48 (fun _ h9 => h9) dX5_canBe_13 ?_
      refine va_tlen (v := 9) hx hb hZ.2.2.1.2.1 hS rfl dX5_canBe_16 ?_
      refine xc_ge (tgt := 50) hx hb dX5_canBe_17 (by decide) hf (fun hf => ?_) (fun hf => ?_)
      · exact b50 p2 hf _ _ _ hP hD hS (lv_sub hl [0, 2] rfl)
      · refine lv_aload_n hx hb dX5_canBe_20 rfl (lv_at hl 0 rfl) ?_
        refine va_get (C := RX5) (T := TX5) (N := 8) hx hb hts i5 hown hK hP 0 rfl rfl 5 (Nat.le_of_ble_eq_true rfl) w0 (fun _ h9 => h9) rfl dX5_canBe_21 ?_
        refine va_getsN hx hb hZ.2.1.1 hS hown nw47 (fun _ h9 => h9) dX5_canBe_24 ?_
        refine lv_iload_n hx hb dX5_canBe_27 rfl (lv_at hl 1 rfl) ?_
        refine xtild hx hb hZ.2.1.2.1 hS hf dX5_canBe_28 (fun hf => ?_)
        refine xc_lt (tgt := 48) hx hb dX5_canBe_29 (by decide) hf (fun hf => ?_) (fun hf => ?_)
        · refine lv_iconst (v := 0) hx hb dX5_canBe_48 rfl ?_
          have he := Option.some.inj hf
          have e_r := he
          refine rt_Z hx hb hr hlocks hK hP hD hS hQ (Or.inl rfl) e_r ?_ dX5_canBe_49
          rfl
        · refine lv_aload_n hx hb dX5_canBe_32 rfl (lv_at hl 0 rfl) ?_
          refine va_get (C := RX5) (T := TX5) (N := 8) hx hb hts i5 hown hK hP 0 rfl rfl 5 (Nat.le_of_ble_eq_true rfl) w0 (fun _ h9 => h9) rfl dX5_canBe_33 ?_
          refine va_getsN hx hb hZ.2.2.1.1 hS hown nw48 (fun _ h9 => h9) dX5_canBe_36 ?_
          refine lv_iload_n hx hb dX5_canBe_39 rfl (lv_at hl 1 rfl) ?_
          refine xtild hx hb hZ.2.2.1.2.1 hS hf dX5_canBe_40 (fun hf => ?_)
          refine xc_gt (tgt := 48) hx hb dX5_canBe_41 (by decide) hf (fun hf => ?_) (fun hf => ?_)
          · refine lv_iconst (v := 0) hx hb dX5_canBe_48 rfl ?_
            have he := Option.some.inj hf
            have e_r := he
            refine rt_Z hx hb hr hlocks hK hP hD hS hQ (Or.inl rfl) e_r ?_ dX5_canBe_49
            rfl
          · refine lv_iconst (v := 1) hx hb dX5_canBe_44 rfl ?_
            refine lv_goto (tgt := 49) hx hb dX5_canBe_45 (by decide) ?_
            have he := Option.some.inj hf
            have e_r := he
            refine rt_Z hx hb hr hlocks hK hP hD hS hQ (Or.inr rfl) e_r ?_ dX5_canBe_49
            rfl
abbrev wq_X7_addStuck : List Cond := Cond.code yX7_addStuck cX7_addStuck 4 none :: GL
set_option maxHeartbeats 4000000 in
set_option maxRecDepth 100000 in
theorem c_X7_addStuck (l : Launch) (D : va_G) (ca : Nat → ClassId) (zz : Nat → Nat) (a0 a1 a2 a3 a4 : Nat) (sz : Nat) (v0 : V7) (p1 : Int32) (p2 : Int32) (p3 : Int32) (v0' : V7) (hf : f_X7_addStuck v0 p1 p2 p3 = some v0') : Met l yX7_addStuck wq_X7_addStuck ({ frames := 0, cells := 0, slots := 0, locals := 0 } : Room) (PR D ca zz [.ref a0, .int p1, .int p2, .int p3] sz [(a0, .inr (7, [.ref a1, .ref a2, .ref a3, .ref a4, .int v0.2.2.2.2])), (a1, .inl (ca 0, 9, .inl v0.1)), (a2, .inl (ca 0, 4, .inl v0.2.1)), (a3, .inl (ca 0, 4, .inl v0.2.2.1)), (a4, .inl (ca 0, 4, .inl v0.2.2.2.1))]) (QV D ca [(a0, .inr (7, [.ref a1, .ref a2, .ref a3, .ref a4, .int v0'.2.2.2.2])), (a1, .inl (ca 0, 9, .inl v0'.1)), (a2, .inl (ca 0, 4, .inl v0'.2.1)), (a3, .inl (ca 0, 4, .inl v0'.2.2.1)), (a4, .inl (ca 0, 4, .inl v0'.2.2.2.1))] (va_A [(a0, .inr (7, [.ref a1, .ref a2, .ref a3, .ref a4, .int v0.2.2.2.2])), (a1, .inl (ca 0, 9, .inl v0.1)), (a2, .inl (ca 0, 4, .inl v0.2.1)), (a3, .inl (ca 0, 4, .inl v0.2.2.1)), (a4, .inl (ca 0, 4, .inl v0.2.2.2.1))] sz)) 0 0 (va_A [(a0, .inr (7, [.ref a1, .ref a2, .ref a3, .ref a4, .int v0.2.2.2.2])), (a1, .inl (ca 0, 9, .inl v0.1)), (a2, .inl (ca 0, 4, .inl v0.2.1)), (a3, .inl (ca 0, 4, .inl v0.2.2.1)), (a4, .inl (ca 0, 4, .inl v0.2.2.2.1))] sz) := by
  refine en (y := yX7_addStuck) (wsm := wq_X7_addStuck) (av := [.ref a0, .int p1, .int p2, .int p3]) (cc := cX7_addStuck) (maxL := 4) (ret := none) (Qf := fun A => (QV D ca [(a0, .inr (7, [.ref a1, .ref a2, .ref a3, .ref a4, .int v0'.2.2.2.2])), (a1, .inl (ca 0, 9, .inl v0'.1)), (a2, .inl (ca 0, 4, .inl v0'.2.1)), (a3, .inl (ca 0, 4, .inl v0'.2.2.1)), (a4, .inl (ca 0, 4, .inl v0'.2.2.2.1))] A)) (by decide) rfl (Nat.le_of_ble_eq_true rfl) ?_
  intro p e s m args below meth c A Q ls hx hb hr hml hown hts hlocks hnm hA hN hZ hK hQ hP hD hS hl
  have w0 := hts _ (List.mem_cons_of_mem _ gw_1_59)
  have w1 := hts _ (List.mem_cons_of_mem _ gw_1_56)
  have w2 := hts _ (List.mem_cons_of_mem _ gw_1_57)
  have w3 := hts _ (List.mem_cons_of_mem _ gw_1_58)
  have i7 : ∀ w ∈ u_ws RX7 TX7 5, w ∈ wq_X7_addStuck := fun w h => List.mem_cons_of_mem _ (inX7 w h)
  unfold f_X7_addStuck at hf
  refine lv_aload_n hx hb dX7_addStuck_0 rfl (lv_at hl 0 rfl) ?_
  refine va_get (C := RX7) (T := TX7) (N := 5) hx hb hts i7 hown hK hP 0 rfl rfl 4 (Nat.le_of_ble_eq_true rfl) w0 (fun _ h9 => h9) rfl dX7_addStuck_1 ?_
  refine xi_lt (tgt := 55) hx hb dX7_addStuck_4 (by decide) hf (fun hf => ?_) (fun hf => ?_)
  · have he := Option.some.inj hf
    have e_v0 := he
    refine rt_V hx hb hr hlocks hK hP hD hS hQ ?_ dX7_addStuck_55
    simp only [← e_v0]
  · refine lv_aload_n hx hb dX7_addStuck_7 rfl (lv_at hl 0 rfl) ?_
    refine va_get (C := RX7) (T := TX7) (N := 5) hx hb hts i7 hown hK hP 0 rfl rfl 4 (Nat.le_of_ble_eq_true rfl) w0 (fun _ h9 => h9) rfl dX7_addStuck_8 ?_
    refine lv_iconst (v := 4) hx hb dX7_addStuck_11 rfl ?_
    refine xc_ge (tgt := 55) hx hb dX7_addStuck_12 (by decide) hf (fun hf => ?_) (fun hf => ?_)
    · have he := Option.some.inj hf
      have e_v0 := he
      refine rt_V hx hb hr hlocks hK hP hD hS hQ ?_ dX7_addStuck_55
      simp only [← e_v0]
    · refine lv_aload_n hx hb dX7_addStuck_15 rfl (lv_at hl 0 rfl) ?_
      refine va_get (C := RX7) (T := TX7) (N := 5) hx hb hts i7 hown hK hP 0 rfl rfl 1 (Nat.le_of_ble_eq_true rfl) w1 (fun _ h9 => h9) rfl dX7_addStuck_16 ?_
      refine lv_aload_n hx hb dX7_addStuck_19 rfl (lv_at hl 0 rfl) ?_
      refine va_get (C := RX7) (T := TX7) (N := 5) hx hb hts i7 hown hK hP 0 rfl rfl 4 (Nat.le_of_ble_eq_true rfl) w0 (fun _ h9 => h9) rfl dX7_addStuck_20 ?_
      refine lv_iload_n hx hb dX7_addStuck_23 rfl (lv_at hl 1 rfl) ?_
      refine xiast (wx := [(a0, .inr (7, [.ref a1, .ref a2, .ref a3, .ref a4, .int v0.2.2.2.2])), (a1, .inl (ca 0, 9, .inl v0.1)), (a2, .inl (ca 0, 4, .inl ((upd v0.2.1 (v0.2.2.2.2).toNatClampNeg p1)))), (a3, .inl (ca 0, 4, .inl v0.2.2.1)), (a4, .inl (ca 0, 4, .inl v0.2.2.2.1))]) hx hb hK hP hD hS 2 rfl hf dX7_addStuck_24 rfl (fun H locs hf hP hD hS => ?_)
      obtain ⟨y_1, ey_1, hf⟩ := bnd_el hf
      rw [← ey_1] at hP hD
      refine lv_aload_n hx hb dX7_addStuck_25 rfl (lv_at hl 0 rfl) ?_
      refine va_get (C := RX7) (T := TX7) (N := 5) hx hb hts i7 hown hK hP 0 rfl rfl 2 (Nat.le_of_ble_eq_true rfl) w2 (fun _ h9 => h9) rfl dX7_addStuck_26 ?_
      refine lv_aload_n hx hb dX7_addStuck_29 rfl (lv_at hl 0 rfl) ?_
      refine va_get (C := RX7) (T := TX7) (N := 5) hx hb hts i7 hown hK hP 0 rfl rfl 4 (Nat.le_of_ble_eq_true rfl) w0 (fun _ h9 => h9) rfl dX7_addStuck_30 ?_
      refine lv_iload_n hx hb dX7_addStuck_33 rfl (lv_at hl 2 rfl) ?_
      refine xiast (wx := [(a0, .inr (7, [.ref a1, .ref a2, .ref a3, .ref a4, .int v0.2.2.2.2])), (a1, .inl (ca 0, 9, .inl v0.1)), (a2, .inl (ca 0, 4, .inl y_1)), (a3, .inl (ca 0, 4, .inl ((upd v0.2.2.1 (v0.2.2.2.2).toNatClampNeg p2)))), (a4, .inl (ca 0, 4, .inl v0.2.2.2.1))]) hx hb hK hP hD hS 3 rfl hf dX7_addStuck_34 rfl (fun H locs hf hP hD hS => ?_)
      obtain ⟨y_2, ey_2, hf⟩ := bnd_el hf
      rw [← ey_2] at hP hD
      refine lv_aload_n hx hb dX7_addStuck_35 rfl (lv_at hl 0 rfl) ?_
      refine va_get (C := RX7) (T := TX7) (N := 5) hx hb hts i7 hown hK hP 0 rfl rfl 3 (Nat.le_of_ble_eq_true rfl) w3 (fun _ h9 => h9) rfl dX7_addStuck_36 ?_
      refine lv_aload_n hx hb dX7_addStuck_39 rfl (lv_at hl 0 rfl) ?_
      refine va_get (C := RX7) (T := TX7) (N := 5) hx hb hts i7 hown hK hP 0 rfl rfl 4 (Nat.le_of_ble_eq_true rfl) w0 (fun _ h9 => h9) rfl dX7_addStuck_40 ?_
      refine lv_iload_n hx hb dX7_addStuck_43 rfl (lv_at hl 3 rfl) ?_
      refine xiast (wx := [(a0, .inr (7, [.ref a1, .ref a2, .ref a3, .ref a4, .int v0.2.2.2.2])), (a1, .inl (ca 0, 9, .inl v0.1)), (a2, .inl (ca 0, 4, .inl y_1)), (a3, .inl (ca 0, 4, .inl y_2)), (a4, .inl (ca 0, 4, .inl ((upd v0.2.2.2.1 (v0.2.2.2.2).toNatClampNeg p3))))]) hx hb hK hP hD hS 4 rfl hf dX7_addStuck_44 rfl (fun H locs hf hP hD hS => ?_)
      obtain ⟨y_3, ey_3, hf⟩ := bnd_el hf
      rw [← ey_3] at hP hD
      refine lv_aload_n hx hb dX7_addStuck_45 rfl (lv_at hl 0 rfl) ?_
      refine lv_dup hx hb dX7_addStuck_46 rfl ?_
      refine va_get (C := RX7) (T := TX7) (N := 5) hx hb hts i7 hown hK hP 0 rfl rfl 4 (Nat.le_of_ble_eq_true rfl) w0 (fun _ h9 => h9) rfl dX7_addStuck_47 ?_
      refine lv_iconst (v := 1) hx hb dX7_addStuck_50 rfl ?_
      refine lv_iadd hx hb dX7_addStuck_51 ?_
      refine xnm hf (fun x_4 hf => ?_)
      refine xput (C := RX7) (T := TX7) (N := 5) (wx := [(a0, .inr (7, [.ref a1, .ref a2, .ref a3, .ref a4, .int x_4])), (a1, .inl (ca 0, 9, .inl v0.1)), (a2, .inl (ca 0, 4, .inl y_1)), (a3, .inl (ca 0, 4, .inl y_2)), (a4, .inl (ca 0, 4, .inl y_3))]) hx hb hts i7 tyX7 tyX7_ok nmX7 hown hK hP hD hS 0 rfl rfl 4 (Nat.le_of_ble_eq_true rfl) w0 (fun _ h9 => h9) rfl rfl rfl rfl (Nat.le_of_ble_eq_true rfl) dX7_addStuck_52 rfl (fun H locs hP hD hS => ?_)
      have he := Option.some.inj hf
      have e_v0 := he
      refine rt_V hx hb hr hlocks hK hP hD hS hQ ?_ dX7_addStuck_55
      simp only [← e_v0]
abbrev wq_X7_setValue : List Cond := Cond.code yX7_setValue cX7_setValue 3 none :: GL
set_option maxHeartbeats 4000000 in
set_option maxRecDepth 100000 in
theorem c_X7_setValue (l : Launch) (D : va_G) (ca : Nat → ClassId) (zz : Nat → Nat) (a0 a1 a2 a3 a4 : Nat) (sz : Nat) (v0 : V7) (p1 : Int32) (p2 : Int32) (v0' : V7) (hf : f_X7_setValue v0 p1 p2 = some v0') : Met l yX7_setValue wq_X7_setValue ({ frames := 0, cells := 0, slots := 0, locals := 0 } : Room) (PR D ca zz [.ref a0, .int p1, .int p2] sz [(a0, .inr (7, [.ref a1, .ref a2, .ref a3, .ref a4, .int v0.2.2.2.2])), (a1, .inl (ca 0, 9, .inl v0.1)), (a2, .inl (ca 0, 4, .inl v0.2.1)), (a3, .inl (ca 0, 4, .inl v0.2.2.1)), (a4, .inl (ca 0, 4, .inl v0.2.2.2.1))]) (QV D ca [(a0, .inr (7, [.ref a1, .ref a2, .ref a3, .ref a4, .int v0'.2.2.2.2])), (a1, .inl (ca 0, 9, .inl v0'.1)), (a2, .inl (ca 0, 4, .inl v0'.2.1)), (a3, .inl (ca 0, 4, .inl v0'.2.2.1)), (a4, .inl (ca 0, 4, .inl v0'.2.2.2.1))] (va_A [(a0, .inr (7, [.ref a1, .ref a2, .ref a3, .ref a4, .int v0.2.2.2.2])), (a1, .inl (ca 0, 9, .inl v0.1)), (a2, .inl (ca 0, 4, .inl v0.2.1)), (a3, .inl (ca 0, 4, .inl v0.2.2.1)), (a4, .inl (ca 0, 4, .inl v0.2.2.2.1))] sz)) 0 0 (va_A [(a0, .inr (7, [.ref a1, .ref a2, .ref a3, .ref a4, .int v0.2.2.2.2])), (a1, .inl (ca 0, 9, .inl v0.1)), (a2, .inl (ca 0, 4, .inl v0.2.1)), (a3, .inl (ca 0, 4, .inl v0.2.2.1)), (a4, .inl (ca 0, 4, .inl v0.2.2.2.1))] sz) := by
  refine en (y := yX7_setValue) (wsm := wq_X7_setValue) (av := [.ref a0, .int p1, .int p2]) (cc := cX7_setValue) (maxL := 3) (ret := none) (Qf := fun A => (QV D ca [(a0, .inr (7, [.ref a1, .ref a2, .ref a3, .ref a4, .int v0'.2.2.2.2])), (a1, .inl (ca 0, 9, .inl v0'.1)), (a2, .inl (ca 0, 4, .inl v0'.2.1)), (a3, .inl (ca 0, 4, .inl v0'.2.2.1)), (a4, .inl (ca 0, 4, .inl v0'.2.2.2.1))] A)) (by decide) rfl (Nat.le_of_ble_eq_true rfl) ?_
  intro p e s m args below meth c A Q ls hx hb hr hml hown hts hlocks hnm hA hN hZ hK hQ hP hD hS hl
  have w0 := hts _ (List.mem_cons_of_mem _ gw_1_55)
  have i7 : ∀ w ∈ u_ws RX7 TX7 5, w ∈ wq_X7_setValue := fun w h => List.mem_cons_of_mem _ (inX7 w h)
  unfold f_X7_setValue at hf
  refine lv_iload_n hx hb dX7_setValue_0 rfl (lv_at hl 1 rfl) ?_
  refine xi_lt (tgt := 20) hx hb dX7_setValue_1 (by decide) hf (fun hf => ?_) (fun hf => ?_)
  · have he := Option.some.inj hf
    have e_v0 := he
    refine rt_V hx hb hr hlocks hK hP hD hS hQ ?_ dX7_setValue_20
    simp only [← e_v0]
  · refine lv_iload_n hx hb dX7_setValue_4 rfl (lv_at hl 1 rfl) ?_
    refine lv_aload_n hx hb dX7_setValue_5 rfl (lv_at hl 0 rfl) ?_
    refine va_get (C := RX7) (T := TX7) (N := 5) hx hb hts i7 hown hK hP 0 rfl rfl 0 (Nat.le_of_ble_eq_true rfl) w0 (fun _ h9 => h9) rfl dX7_setValue_6 ?_
    refine va_alen hx hb hK hP 1 0 rfl rfl (v := (9 : Int32)) rfl dX7_setValue_9 ?_
    refine xc_ge (tgt := 20) hx hb dX7_setValue_10 (by decide) hf (fun hf => ?_) (fun hf => ?_)
    · have he := Option.some.inj hf
      have e_v0 := he
      refine rt_V hx hb hr hlocks hK hP hD hS hQ ?_ dX7_setValue_20
      simp only [← e_v0]
    · refine lv_aload_n hx hb dX7_setValue_13 rfl (lv_at hl 0 rfl) ?_
      refine va_get (C := RX7) (T := TX7) (N := 5) hx hb hts i7 hown hK hP 0 rfl rfl 0 (Nat.le_of_ble_eq_true rfl) w0 (fun _ h9 => h9) rfl dX7_setValue_14 ?_
      refine lv_iload_n hx hb dX7_setValue_17 rfl (lv_at hl 1 rfl) ?_
      refine lv_iload_n hx hb dX7_setValue_18 rfl (lv_at hl 2 rfl) ?_
      refine xiast (wx := [(a0, .inr (7, [.ref a1, .ref a2, .ref a3, .ref a4, .int v0.2.2.2.2])), (a1, .inl (ca 0, 9, .inl ((upd v0.1 (p1).toNatClampNeg p2)))), (a2, .inl (ca 0, 4, .inl v0.2.1)), (a3, .inl (ca 0, 4, .inl v0.2.2.1)), (a4, .inl (ca 0, 4, .inl v0.2.2.2.1))]) hx hb hK hP hD hS 1 rfl hf dX7_setValue_19 rfl (fun H locs hf hP hD hS => ?_)
      obtain ⟨y_1, ey_1, hf⟩ := bnd_el hf
      rw [← ey_1] at hP hD
      have he := Option.some.inj hf
      have e_v0 := he
      refine rt_V hx hb hr hlocks hK hP hD hS hQ ?_ dX7_setValue_20
      simp only [← e_v0]
abbrev wq_X5_putNumbers : List Cond := Cond.code yX5_putNumbers cX5_putNumbers 2 none :: GL
set_option maxHeartbeats 4000000 in
set_option maxRecDepth 100000 in
theorem c_X5_putNumbers (l : Launch) (D : va_G) (ca : Nat → ClassId) (zz : Nat → Nat) (a0 a1 a2 a3 a4 a5 a6 : Nat) (sz : Nat) (v0 : V5) (p1 : Int32) (v0' : V5) (hf : f_X5_putNumbers v0 p1 = some v0') : Met l yX5_putNumbers wq_X5_putNumbers ({ frames := 1, cells := 0, slots := 0, locals := 23 } : Room) (PR D ca zz [.ref a0, .int p1] sz [(a0, .inr (5, [.ref a1, .ref a6, .int v0.2.2.1, .int v0.2.2.2.1, .int v0.2.2.2.2.1, .int v0.2.2.2.2.2.1, .int v0.2.2.2.2.2.2.1, .int v0.2.2.2.2.2.2.2])), (a1, .inr (7, [.ref a2, .ref a3, .ref a4, .ref a5, .int v0.1.2.2.2.2])), (a2, .inl (ca 0, 9, .inl v0.1.1)), (a3, .inl (ca 0, 4, .inl v0.1.2.1)), (a4, .inl (ca 0, 4, .inl v0.1.2.2.1)), (a5, .inl (ca 0, 4, .inl v0.1.2.2.2.1)), (a6, .inl (ca 0, 3, .inl v0.2.1))]) (QV D ca [(a0, .inr (5, [.ref a1, .ref a6, .int v0'.2.2.1, .int v0'.2.2.2.1, .int v0'.2.2.2.2.1, .int v0'.2.2.2.2.2.1, .int v0'.2.2.2.2.2.2.1, .int v0'.2.2.2.2.2.2.2])), (a1, .inr (7, [.ref a2, .ref a3, .ref a4, .ref a5, .int v0'.1.2.2.2.2])), (a2, .inl (ca 0, 9, .inl v0'.1.1)), (a3, .inl (ca 0, 4, .inl v0'.1.2.1)), (a4, .inl (ca 0, 4, .inl v0'.1.2.2.1)), (a5, .inl (ca 0, 4, .inl v0'.1.2.2.2.1)), (a6, .inl (ca 0, 3, .inl v0'.2.1))] (va_A [(a0, .inr (5, [.ref a1, .ref a6, .int v0.2.2.1, .int v0.2.2.2.1, .int v0.2.2.2.2.1, .int v0.2.2.2.2.2.1, .int v0.2.2.2.2.2.2.1, .int v0.2.2.2.2.2.2.2])), (a1, .inr (7, [.ref a2, .ref a3, .ref a4, .ref a5, .int v0.1.2.2.2.2])), (a2, .inl (ca 0, 9, .inl v0.1.1)), (a3, .inl (ca 0, 4, .inl v0.1.2.1)), (a4, .inl (ca 0, 4, .inl v0.1.2.2.1)), (a5, .inl (ca 0, 4, .inl v0.1.2.2.2.1)), (a6, .inl (ca 0, 3, .inl v0.2.1))] sz)) 0 0 (va_A [(a0, .inr (5, [.ref a1, .ref a6, .int v0.2.2.1, .int v0.2.2.2.1, .int v0.2.2.2.2.1, .int v0.2.2.2.2.2.1, .int v0.2.2.2.2.2.2.1, .int v0.2.2.2.2.2.2.2])), (a1, .inr (7, [.ref a2, .ref a3, .ref a4, .ref a5, .int v0.1.2.2.2.2])), (a2, .inl (ca 0, 9, .inl v0.1.1)), (a3, .inl (ca 0, 4, .inl v0.1.2.1)), (a4, .inl (ca 0, 4, .inl v0.1.2.2.1)), (a5, .inl (ca 0, 4, .inl v0.1.2.2.2.1)), (a6, .inl (ca 0, 3, .inl v0.2.1))] sz) := by
  refine en (y := yX5_putNumbers) (wsm := wq_X5_putNumbers) (av := [.ref a0, .int p1]) (cc := cX5_putNumbers) (maxL := 2) (ret := none) (Qf := fun A => (QV D ca [(a0, .inr (5, [.ref a1, .ref a6, .int v0'.2.2.1, .int v0'.2.2.2.1, .int v0'.2.2.2.2.1, .int v0'.2.2.2.2.2.1, .int v0'.2.2.2.2.2.2.1, .int v0'.2.2.2.2.2.2.2])), (a1, .inr (7, [.ref a2, .ref a3, .ref a4, .ref a5, .int v0'.1.2.2.2.2])), (a2, .inl (ca 0, 9, .inl v0'.1.1)), (a3, .inl (ca 0, 4, .inl v0'.1.2.1)), (a4, .inl (ca 0, 4, .inl v0'.1.2.2.1)), (a5, .inl (ca 0, 4, .inl v0'.1.2.2.2.1)), (a6, .inl (ca 0, 3, .inl v0'.2.1))] A)) (by decide) rfl (Nat.le_of_ble_eq_true rfl) ?_
  intro p e s m args below meth c A Q ls hx hb hr hml hown hts hlocks hnm hA hN hZ hK hQ hP hD hS hl
  have w0 := hts _ (List.mem_cons_of_mem _ gw_2_131)
  have w1 := hts _ (List.mem_cons_of_mem _ gw_2_133)
  have i5 : ∀ w ∈ u_ws RX5 TX5 8, w ∈ wq_X5_putNumbers := fun w h => List.mem_cons_of_mem _ (inX5 w h)
  unfold f_X5_putNumbers at hf
  refine lv_iload_n hx hb dX5_putNumbers_0 rfl (lv_at hl 1 rfl) ?_
  refine lv_bipush (v := 9) hx hb dX5_putNumbers_1 rfl ?_
  refine xc_ne (tgt := 34) hx hb dX5_putNumbers_3 (by decide) hf (fun hf => ?_) (fun hf => ?_)
  · refine lv_aload_n hx hb dX5_putNumbers_34 rfl (lv_at hl 0 rfl) ?_
    refine va_get (C := RX5) (T := TX5) (N := 8) hx hb hts i5 hown hK hP 0 rfl rfl 0 (Nat.le_of_ble_eq_true rfl) w0 (fun _ h9 => h9) rfl dX5_putNumbers_35 ?_
    refine lv_iload_n hx hb dX5_putNumbers_38 rfl (lv_at hl 1 rfl) ?_
    refine lv_aload_n hx hb dX5_putNumbers_39 rfl (lv_at hl 0 rfl) ?_
    refine va_get (C := RX5) (T := TX5) (N := 8) hx hb hts i5 hown hK hP 0 rfl rfl 1 (Nat.le_of_ble_eq_true rfl) w1 (fun _ h9 => h9) rfl dX5_putNumbers_40 ?_
    refine lv_iconst (v := 0) hx hb dX5_putNumbers_43 rfl ?_
    refine xiald hx hb hK hP 6 rfl hf dX5_putNumbers_44 (fun hf => ?_)
    obtain ⟨u_1, hc1, hf⟩ := bnd1_el hf
    refine xV_V (As := [.int p1, .int (v0.2.1 ((0 : Int32)).toNatClampNeg)]) (wx := [(a0, .inr (5, [.ref a1, .ref a6, .int v0.2.2.1, .int v0.2.2.2.1, .int v0.2.2.2.2.1, .int v0.2.2.2.2.2.1, .int v0.2.2.2.2.2.2.1, .int v0.2.2.2.2.2.2.2])), (a1, .inr (7, [.ref a2, .ref a3, .ref a4, .ref a5, .int u_1.2.2.2.2])), (a2, .inl (ca 0, 9, .inl u_1.1)), (a3, .inl (ca 0, 4, .inl u_1.2.1)), (a4, .inl (ca 0, 4, .inl u_1.2.2.1)), (a5, .inl (ca 0, 4, .inl u_1.2.2.2.1)), (a6, .inl (ca 0, 3, .inl v0.2.1))]) ⟨hx, hb, hml, hown, hts⟩ (c_X7_setValue l D ca zz a1 a2 a3 a4 a5 _ v0.1 p1 (v0.2.1 ((0 : Int32)).toNatClampNeg) u_1 hc1) (cwV 2 hts (gV gw_3_118 gw_3_119 gw_3_120 gw_1_3 gw_3_121) rfl rfl rfl (by decide +kernel) ⟨(Nat.le_of_ble_eq_true rfl), (Nat.le_of_ble_eq_true rfl)⟩) hK hN hZ hA hP hD hS [1, 2, 3, 4, 5] [none, some 0, some 1, some 2, some 3, some 4, none] (by decide +kernel) rfl rfl rfl rfl 1 rfl rfl hl.1 rfl (Nat.le_of_ble_eq_true rfl) dX5_putNumbers_45 ⟨Nat.zero_le _, Nat.zero_le _⟩ rfl (fun H locs hP hD hS => ?_)
    have he := Option.some.inj hf
    have e_v0 := he
    refine rt_V hx hb hr hlocks hK hP hD hS hQ ?_ dX5_putNumbers_48
    simp only [← e_v0]
  · refine lv_aload_n hx hb dX5_putNumbers_6 rfl (lv_at hl 0 rfl) ?_
    refine va_get (C := RX5) (T := TX5) (N := 8) hx hb hts i5 hown hK hP 0 rfl rfl 0 (Nat.le_of_ble_eq_true rfl) w0 (fun _ h9 => h9) rfl dX5_putNumbers_7 ?_
    refine lv_aload_n hx hb dX5_putNumbers_10 rfl (lv_at hl 0 rfl) ?_
    refine va_get (C := RX5) (T := TX5) (N := 8) hx hb hts i5 hown hK hP 0 rfl rfl 1 (Nat.le_of_ble_eq_true rfl) w1 (fun _ h9 => h9) rfl dX5_putNumbers_11 ?_
    refine lv_iconst (v := 0) hx hb dX5_putNumbers_14 rfl ?_
    refine xiald hx hb hK hP 6 rfl hf dX5_putNumbers_15 (fun hf => ?_)
    refine lv_aload_n hx hb dX5_putNumbers_16 rfl (lv_at hl 0 rfl) ?_
    refine va_get (C := RX5) (T := TX5) (N := 8) hx hb hts i5 hown hK hP 0 rfl rfl 1 (Nat.le_of_ble_eq_true rfl) w1 (fun _ h9 => h9) rfl dX5_putNumbers_17 ?_
    refine lv_iconst (v := 1) hx hb dX5_putNumbers_20 rfl ?_
    refine xiald hx hb hK hP 6 rfl hf dX5_putNumbers_21 (fun hf => ?_)
    refine lv_aload_n hx hb dX5_putNumbers_22 rfl (lv_at hl 0 rfl) ?_
    refine va_get (C := RX5) (T := TX5) (N := 8) hx hb hts i5 hown hK hP 0 rfl rfl 1 (Nat.le_of_ble_eq_true rfl) w1 (fun _ h9 => h9) rfl dX5_putNumbers_23 ?_
    refine lv_iconst (v := 2) hx hb dX5_putNumbers_26 rfl ?_
    refine xiald hx hb hK hP 6 rfl hf dX5_putNumbers_27 (fun hf => ?_)
    obtain ⟨u_2, hc2, hf⟩ := bnd1_el hf
    refine xV_V (As := [.int (v0.2.1 ((0 : Int32)).toNatClampNeg), .int (v0.2.1 ((1 : Int32)).toNatClampNeg), .int (v0.2.1 ((2 : Int32)).toNatClampNeg)]) (wx := [(a0, .inr (5, [.ref a1, .ref a6, .int v0.2.2.1, .int v0.2.2.2.1, .int v0.2.2.2.2.1, .int v0.2.2.2.2.2.1, .int v0.2.2.2.2.2.2.1, .int v0.2.2.2.2.2.2.2])), (a1, .inr (7, [.ref a2, .ref a3, .ref a4, .ref a5, .int u_2.2.2.2.2])), (a2, .inl (ca 0, 9, .inl u_2.1)), (a3, .inl (ca 0, 4, .inl u_2.2.1)), (a4, .inl (ca 0, 4, .inl u_2.2.2.1)), (a5, .inl (ca 0, 4, .inl u_2.2.2.2.1)), (a6, .inl (ca 0, 3, .inl v0.2.1))]) ⟨hx, hb, hml, hown, hts⟩ (c_X7_addStuck l D ca zz a1 a2 a3 a4 a5 _ v0.1 (v0.2.1 ((0 : Int32)).toNatClampNeg) (v0.2.1 ((1 : Int32)).toNatClampNeg) (v0.2.1 ((2 : Int32)).toNatClampNeg) u_2 hc2) (cwV 3 hts (gV gw_3_114 gw_3_115 gw_3_116 gw_1_3 gw_3_117) rfl rfl rfl (by decide +kernel) ⟨(Nat.le_of_ble_eq_true rfl), (Nat.le_of_ble_eq_true rfl)⟩) hK hN hZ hA hP hD hS [1, 2, 3, 4, 5] [none, some 0, some 1, some 2, some 3, some 4, none] (by decide +kernel) rfl rfl rfl rfl 1 rfl rfl hl.1 rfl (Nat.le_of_ble_eq_true rfl) dX5_putNumbers_28 ⟨Nat.zero_le _, Nat.zero_le _⟩ rfl (fun H locs hP hD hS => ?_)
    refine lv_goto (tgt := 48) hx hb dX5_putNumbers_31 (by decide) ?_
    have he := Option.some.inj hf
    have e_v0 := he
    refine rt_V hx hb hr hlocks hK hP hD hS hQ ?_ dX5_putNumbers_48
    simp only [← e_v0]
