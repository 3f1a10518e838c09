abbrev wq_X11_row : List Cond := Cond.code yX11_row cX11_row 4 (some .int) :: GL
set_option maxHeartbeats 4000000 in
set_option maxRecDepth 100000 in
theorem c_X11_row (l : Launch) (D : va_G) (ca : Nat → ClassId) (zz : Nat → Nat) (a0 a1 a2 a3 a4 a5 a6 a7 a8 a9 a10 a11 a12 a13 a14 a15 a16 a17 a18 a19 a20 a21 a41 a42 a49 a52 a54 a55 : Nat) (sz : Nat) (v0 : V11) (p1 : Int32) (p2 : Int32) (p3 : Int32) (r : Int32) (hf : f_X11_row v0 p1 p2 p3 = some r) : Met l yX11_row wq_X11_row ({ frames := 2, cells := 0, slots := 0, locals := 43 } : Room) (PR D ca zz [.ref a0, .int p1, .int p2, .int p3] sz [(a0, .inr (11, [.ref a1, .ref a21, .ref a41, .ref a42, .ref a49, .ref a52, .ref a54, .ref a55])), (a1, .inr (10, [.ref a2, .ref a7, .ref a9, .ref a10, .ref a11, .ref a14, .ref a16, .ref a19, .int v0.1.2.2.2.2.2.2.2.2.1, .int v0.1.2.2.2.2.2.2.2.2.2.1, .int v0.1.2.2.2.2.2.2.2.2.2.2.1, .int v0.1.2.2.2.2.2.2.2.2.2.2.2.1, .int v0.1.2.2.2.2.2.2.2.2.2.2.2.2.1, .int v0.1.2.2.2.2.2.2.2.2.2.2.2.2.2])), (a2, .inr (7, [.ref a3, .ref a4, .ref a5, .ref a6, .int v0.1.1.2.2.2.2])), (a3, .inl (ca 0, 9, .inl v0.1.1.1)), (a4, .inl (ca 0, 4, .inl v0.1.1.2.1)), (a5, .inl (ca 0, 4, .inl v0.1.1.2.2.1)), (a6, .inl (ca 0, 4, .inl v0.1.1.2.2.2.1)), (a7, .inr (2, [.ref a8, .int v0.1.2.1.2.1, .int v0.1.2.1.2.2.1, .int v0.1.2.1.2.2.2.1, .int v0.1.2.1.2.2.2.2])), (a8, .inl (ca 1, 17, .inr (.inl v0.1.2.1.1))), (a9, .inr (8, [.int v0.1.2.2.1.1, .int v0.1.2.2.1.2.1, .int v0.1.2.2.1.2.2])), (a10, .inr (1, [.int v0.1.2.2.2.1.1, .int v0.1.2.2.2.1.2.1, .int v0.1.2.2.2.1.2.2.1, .int v0.1.2.2.2.1.2.2.2.1, .int v0.1.2.2.2.1.2.2.2.2.1, .int v0.1.2.2.2.1.2.2.2.2.2])), (a11, .inr (3, [.ref a12, .int v0.1.2.2.2.2.1.2.1, .int v0.1.2.2.2.2.1.2.2.1, .int v0.1.2.2.2.2.1.2.2.2.1, .int v0.1.2.2.2.2.1.2.2.2.2.1, .int v0.1.2.2.2.2.1.2.2.2.2.2.1, .int v0.1.2.2.2.2.1.2.2.2.2.2.2])), (a12, .inr (4, [.ref a13, .int v0.1.2.2.2.2.1.1.2.1, .int v0.1.2.2.2.2.1.1.2.2])), (a13, .inl (ca 0, 512, .inl v0.1.2.2.2.2.1.1.1)), (a14, .inr (4, [.ref a15, .int v0.1.2.2.2.2.2.1.2.1, .int v0.1.2.2.2.2.2.1.2.2])), (a15, .inl (ca 0, 512, .inl v0.1.2.2.2.2.2.1.1)), (a16, .inr (6, [.ref a17, .ref a18, .int v0.1.2.2.2.2.2.2.1.2.2])), (a17, .inl (ca 0, 15, .inl v0.1.2.2.2.2.2.2.1.1)), (a18, .inl (ca 0, 15, .inl v0.1.2.2.2.2.2.2.1.2.1)), (a19, .inr (9, [.ref a20, .int v0.1.2.2.2.2.2.2.2.1.2.1, .int v0.1.2.2.2.2.2.2.2.1.2.2.1, .int v0.1.2.2.2.2.2.2.2.1.2.2.2])), (a20, .inl (ca 0, 300, .inl v0.1.2.2.2.2.2.2.2.1.1))]) (QI D ca r [(a0, .inr (11, [.ref a1, .ref a21, .ref a41, .ref a42, .ref a49, .ref a52, .ref a54, .ref a55])), (a1, .inr (10, [.ref a2, .ref a7, .ref a9, .ref a10, .ref a11, .ref a14, .ref a16, .ref a19, .int v0.1.2.2.2.2.2.2.2.2.1, .int v0.1.2.2.2.2.2.2.2.2.2.1, .int v0.1.2.2.2.2.2.2.2.2.2.2.1, .int v0.1.2.2.2.2.2.2.2.2.2.2.2.1, .int v0.1.2.2.2.2.2.2.2.2.2.2.2.2.1, .int v0.1.2.2.2.2.2.2.2.2.2.2.2.2.2])), (a2, .inr (7, [.ref a3, .ref a4, .ref a5, .ref a6, .int v0.1.1.2.2.2.2])), (a3, .inl (ca 0, 9, .inl v0.1.1.1)), (a4, .inl (ca 0, 4, .inl v0.1.1.2.1)), (a5, .inl (ca 0, 4, .inl v0.1.1.2.2.1)), (a6, .inl (ca 0, 4, .inl v0.1.1.2.2.2.1)), (a7, .inr (2, [.ref a8, .int v0.1.2.1.2.1, .int v0.1.2.1.2.2.1, .int v0.1.2.1.2.2.2.1, .int v0.1.2.1.2.2.2.2])), (a8, .inl (ca 1, 17, .inr (.inl v0.1.2.1.1))), (a9, .inr (8, [.int v0.1.2.2.1.1, .int v0.1.2.2.1.2.1, .int v0.1.2.2.1.2.2])), (a10, .inr (1, [.int v0.1.2.2.2.1.1, .int v0.1.2.2.2.1.2.1, .int v0.1.2.2.2.1.2.2.1, .int v0.1.2.2.2.1.2.2.2.1, .int v0.1.2.2.2.1.2.2.2.2.1, .int v0.1.2.2.2.1.2.2.2.2.2])), (a11, .inr (3, [.ref a12, .int v0.1.2.2.2.2.1.2.1, .int v0.1.2.2.2.2.1.2.2.1, .int v0.1.2.2.2.2.1.2.2.2.1, .int v0.1.2.2.2.2.1.2.2.2.2.1, .int v0.1.2.2.2.2.1.2.2.2.2.2.1, .int v0.1.2.2.2.2.1.2.2.2.2.2.2])), (a12, .inr (4, [.ref a13, .int v0.1.2.2.2.2.1.1.2.1, .int v0.1.2.2.2.2.1.1.2.2])), (a13, .inl (ca 0, 512, .inl v0.1.2.2.2.2.1.1.1)), (a14, .inr (4, [.ref a15, .int v0.1.2.2.2.2.2.1.2.1, .int v0.1.2.2.2.2.2.1.2.2])), (a15, .inl (ca 0, 512, .inl v0.1.2.2.2.2.2.1.1)), (a16, .inr (6, [.ref a17, .ref a18, .int v0.1.2.2.2.2.2.2.1.2.2])), (a17, .inl (ca 0, 15, .inl v0.1.2.2.2.2.2.2.1.1)), (a18, .inl (ca 0, 15, .inl v0.1.2.2.2.2.2.2.1.2.1)), (a19, .inr (9, [.ref a20, .int v0.1.2.2.2.2.2.2.2.1.2.1, .int v0.1.2.2.2.2.2.2.2.1.2.2.1, .int v0.1.2.2.2.2.2.2.2.1.2.2.2])), (a20, .inl (ca 0, 300, .inl v0.1.2.2.2.2.2.2.2.1.1))] (va_A [(a0, .inr (11, [.ref a1, .ref a21, .ref a41, .ref a42, .ref a49, .ref a52, .ref a54, .ref a55])), (a1, .inr (10, [.ref a2, .ref a7, .ref a9, .ref a10, .ref a11, .ref a14, .ref a16, .ref a19, .int v0.1.2.2.2.2.2.2.2.2.1, .int v0.1.2.2.2.2.2.2.2.2.2.1, .int v0.1.2.2.2.2.2.2.2.2.2.2.1, .int v0.1.2.2.2.2.2.2.2.2.2.2.2.1, .int v0.1.2.2.2.2.2.2.2.2.2.2.2.2.1, .int v0.1.2.2.2.2.2.2.2.2.2.2.2.2.2])), (a2, .inr (7, [.ref a3, .ref a4, .ref a5, .ref a6, .int v0.1.1.2.2.2.2])), (a3, .inl (ca 0, 9, .inl v0.1.1.1)), (a4, .inl (ca 0, 4, .inl v0.1.1.2.1)), (a5, .inl (ca 0, 4, .inl v0.1.1.2.2.1)), (a6, .inl (ca 0, 4, .inl v0.1.1.2.2.2.1)), (a7, .inr (2, [.ref a8, .int v0.1.2.1.2.1, .int v0.1.2.1.2.2.1, .int v0.1.2.1.2.2.2.1, .int v0.1.2.1.2.2.2.2])), (a8, .inl (ca 1, 17, .inr (.inl v0.1.2.1.1))), (a9, .inr (8, [.int v0.1.2.2.1.1, .int v0.1.2.2.1.2.1, .int v0.1.2.2.1.2.2])), (a10, .inr (1, [.int v0.1.2.2.2.1.1, .int v0.1.2.2.2.1.2.1, .int v0.1.2.2.2.1.2.2.1, .int v0.1.2.2.2.1.2.2.2.1, .int v0.1.2.2.2.1.2.2.2.2.1, .int v0.1.2.2.2.1.2.2.2.2.2])), (a11, .inr (3, [.ref a12, .int v0.1.2.2.2.2.1.2.1, .int v0.1.2.2.2.2.1.2.2.1, .int v0.1.2.2.2.2.1.2.2.2.1, .int v0.1.2.2.2.2.1.2.2.2.2.1, .int v0.1.2.2.2.2.1.2.2.2.2.2.1, .int v0.1.2.2.2.2.1.2.2.2.2.2.2])), (a12, .inr (4, [.ref a13, .int v0.1.2.2.2.2.1.1.2.1, .int v0.1.2.2.2.2.1.1.2.2])), (a13, .inl (ca 0, 512, .inl v0.1.2.2.2.2.1.1.1)), (a14, .inr (4, [.ref a15, .int v0.1.2.2.2.2.2.1.2.1, .int v0.1.2.2.2.2.2.1.2.2])), (a15, .inl (ca 0, 512, .inl v0.1.2.2.2.2.2.1.1)), (a16, .inr (6, [.ref a17, .ref a18, .int v0.1.2.2.2.2.2.2.1.2.2])), (a17, .inl (ca 0, 15, .inl v0.1.2.2.2.2.2.2.1.1)), (a18, .inl (ca 0, 15, .inl v0.1.2.2.2.2.2.2.1.2.1)), (a19, .inr (9, [.ref a20, .int v0.1.2.2.2.2.2.2.2.1.2.1, .int v0.1.2.2.2.2.2.2.2.1.2.2.1, .int v0.1.2.2.2.2.2.2.2.1.2.2.2])), (a20, .inl (ca 0, 300, .inl v0.1.2.2.2.2.2.2.2.1.1))] sz)) 0 0 (va_A [(a0, .inr (11, [.ref a1, .ref a21, .ref a41, .ref a42, .ref a49, .ref a52, .ref a54, .ref a55])), (a1, .inr (10, [.ref a2, .ref a7, .ref a9, .ref a10, .ref a11, .ref a14, .ref a16, .ref a19, .int v0.1.2.2.2.2.2.2.2.2.1, .int v0.1.2.2.2.2.2.2.2.2.2.1, .int v0.1.2.2.2.2.2.2.2.2.2.2.1, .int v0.1.2.2.2.2.2.2.2.2.2.2.2.1, .int v0.1.2.2.2.2.2.2.2.2.2.2.2.2.1, .int v0.1.2.2.2.2.2.2.2.2.2.2.2.2.2])), (a2, .inr (7, [.ref a3, .ref a4, .ref a5, .ref a6, .int v0.1.1.2.2.2.2])), (a3, .inl (ca 0, 9, .inl v0.1.1.1)), (a4, .inl (ca 0, 4, .inl v0.1.1.2.1)), (a5, .inl (ca 0, 4, .inl v0.1.1.2.2.1)), (a6, .inl (ca 0, 4, .inl v0.1.1.2.2.2.1)), (a7, .inr (2, [.ref a8, .int v0.1.2.1.2.1, .int v0.1.2.1.2.2.1, .int v0.1.2.1.2.2.2.1, .int v0.1.2.1.2.2.2.2])), (a8, .inl (ca 1, 17, .inr (.inl v0.1.2.1.1))), (a9, .inr (8, [.int v0.1.2.2.1.1, .int v0.1.2.2.1.2.1, .int v0.1.2.2.1.2.2])), (a10, .inr (1, [.int v0.1.2.2.2.1.1, .int v0.1.2.2.2.1.2.1, .int v0.1.2.2.2.1.2.2.1, .int v0.1.2.2.2.1.2.2.2.1, .int v0.1.2.2.2.1.2.2.2.2.1, .int v0.1.2.2.2.1.2.2.2.2.2])), (a11, .inr (3, [.ref a12, .int v0.1.2.2.2.2.1.2.1, .int v0.1.2.2.2.2.1.2.2.1, .int v0.1.2.2.2.2.1.2.2.2.1, .int v0.1.2.2.2.2.1.2.2.2.2.1, .int v0.1.2.2.2.2.1.2.2.2.2.2.1, .int v0.1.2.2.2.2.1.2.2.2.2.2.2])), (a12, .inr (4, [.ref a13, .int v0.1.2.2.2.2.1.1.2.1, .int v0.1.2.2.2.2.1.1.2.2])), (a13, .inl (ca 0, 512, .inl v0.1.2.2.2.2.1.1.1)), (a14, .inr (4, [.ref a15, .int v0.1.2.2.2.2.2.1.2.1, .int v0.1.2.2.2.2.2.1.2.2])), (a15, .inl (ca 0, 512, .inl v0.1.2.2.2.2.2.1.1)), (a16, .inr (6, [.ref a17, .ref a18, .int v0.1.2.2.2.2.2.2.1.2.2])), (a17, .inl (ca 0, 15, .inl v0.1.2.2.2.2.2.2.1.1)), (a18, .inl (ca 0, 15, .inl v0.1.2.2.2.2.2.2.1.2.1)), (a19, .inr (9, [.ref a20, .int v0.1.2.2.2.2.2.2.2.1.2.1, .int v0.1.2.2.2.2.2.2.2.1.2.2.1, .int v0.1.2.2.2.2.2.2.2.1.2.2.2])), (a20, .inl (ca 0, 300, .inl v0.1.2.2.2.2.2.2.2.1.1))] sz) := by
  refine en (y := yX11_row) (wsm := wq_X11_row) (av := [.ref a0, .int p1, .int p2, .int p3]) (cc := cX11_row) (maxL := 4) (ret := (some .int)) (Qf := fun A => (QI D ca r [(a0, .inr (11, [.ref a1, .ref a21, .ref a41, .ref a42, .ref a49, .ref a52, .ref a54, .ref a55])), (a1, .inr (10, [.ref a2, .ref a7, .ref a9, .ref a10, .ref a11, .ref a14, .ref a16, .ref a19, .int v0.1.2.2.2.2.2.2.2.2.1, .int v0.1.2.2.2.2.2.2.2.2.2.1, .int v0.1.2.2.2.2.2.2.2.2.2.2.1, .int v0.1.2.2.2.2.2.2.2.2.2.2.2.1, .int v0.1.2.2.2.2.2.2.2.2.2.2.2.2.1, .int v0.1.2.2.2.2.2.2.2.2.2.2.2.2.2])), (a2, .inr (7, [.ref a3, .ref a4, .ref a5, .ref a6, .int v0.1.1.2.2.2.2])), (a3, .inl (ca 0, 9, .inl v0.1.1.1)), (a4, .inl (ca 0, 4, .inl v0.1.1.2.1)), (a5, .inl (ca 0, 4, .inl v0.1.1.2.2.1)), (a6, .inl (ca 0, 4, .inl v0.1.1.2.2.2.1)), (a7, .inr (2, [.ref a8, .int v0.1.2.1.2.1, .int v0.1.2.1.2.2.1, .int v0.1.2.1.2.2.2.1, .int v0.1.2.1.2.2.2.2])), (a8, .inl (ca 1, 17, .inr (.inl v0.1.2.1.1))), (a9, .inr (8, [.int v0.1.2.2.1.1, .int v0.1.2.2.1.2.1, .int v0.1.2.2.1.2.2])), (a10, .inr (1, [.int v0.1.2.2.2.1.1, .int v0.1.2.2.2.1.2.1, .int v0.1.2.2.2.1.2.2.1, .int v0.1.2.2.2.1.2.2.2.1, .int v0.1.2.2.2.1.2.2.2.2.1, .int v0.1.2.2.2.1.2.2.2.2.2])), (a11, .inr (3, [.ref a12, .int v0.1.2.2.2.2.1.2.1, .int v0.1.2.2.2.2.1.2.2.1, .int v0.1.2.2.2.2.1.2.2.2.1, .int v0.1.2.2.2.2.1.2.2.2.2.1, .int v0.1.2.2.2.2.1.2.2.2.2.2.1, .int v0.1.2.2.2.2.1.2.2.2.2.2.2])), (a12, .inr (4, [.ref a13, .int v0.1.2.2.2.2.1.1.2.1, .int v0.1.2.2.2.2.1.1.2.2])), (a13, .inl (ca 0, 512, .inl v0.1.2.2.2.2.1.1.1)), (a14, .inr (4, [.ref a15, .int v0.1.2.2.2.2.2.1.2.1, .int v0.1.2.2.2.2.2.1.2.2])), (a15, .inl (ca 0, 512, .inl v0.1.2.2.2.2.2.1.1)), (a16, .inr (6, [.ref a17, .ref a18, .int v0.1.2.2.2.2.2.2.1.2.2])), (a17, .inl (ca 0, 15, .inl v0.1.2.2.2.2.2.2.1.1)), (a18, .inl (ca 0, 15, .inl v0.1.2.2.2.2.2.2.1.2.1)), (a19, .inr (9, [.ref a20, .int v0.1.2.2.2.2.2.2.2.1.2.1, .int v0.1.2.2.2.2.2.2.2.1.2.2.1, .int v0.1.2.2.2.2.2.2.2.1.2.2.2])), (a20, .inl (ca 0, 300, .inl v0.1.2.2.2.2.2.2.2.1.1))] A)) (by decide) rfl (Nat.le_of_ble_eq_true rfl) ?_
  intro p e s m args below meth c A Q ls hx hb hr hml hown hts hlocks hnm hA hN hZ hK hQ hP hD hS hl
  have w0 := hts _ (List.mem_cons_of_mem _ gw_2_187)
  have nw38 := NW.use (args := args) (w := .fieldLinkNest RX11 181 "NoiseWatch$Watch" "rows" "LNoiseWatch$Rows;" "NoiseWatch") hN 38 rfl
  have i10 : ∀ w ∈ u_ws RX10 TX10 14, w ∈ wq_X11_row := fun w h => List.mem_cons_of_mem _ (inX10 w h)
  have i11 : ∀ w ∈ u_ws RX11 TX11 8, w ∈ wq_X11_row := fun w h => List.mem_cons_of_mem _ (inX11 w h)
  unfold f_X11_row at hf
  refine lv_iload_n hx hb dX11_row_0 rfl (lv_at hl 3 rfl) ?_
  refine xi_eq (tgt := 18) hx hb dX11_row_1 (by decide) hf (fun hf => ?_) (fun hf => ?_)
  · refine lv_aload_n hx hb dX11_row_18 rfl (lv_at hl 0 rfl) ?_
    refine va_get (C := RX11) (T := TX11) (N := 8) hx hb hts i11 hown hK hP 0 rfl rfl 0 (Nat.le_of_ble_eq_true rfl) w0 (fun _ h9 => h9) rfl dX11_row_19 ?_
    refine va_getN (C := RX10) (T := TX10) (N := 14) hx hb hts i10 hown hK hP 1 rfl rfl 6 (Nat.le_of_ble_eq_true rfl) nw38 (fun _ h9 => h9) rfl dX11_row_22 ?_
    refine lv_iload_n hx hb dX11_row_25 rfl (lv_at hl 1 rfl) ?_
    refine lv_iload_n hx hb dX11_row_26 rfl (lv_at hl 2 rfl) ?_
    obtain ⟨r_1, hc1, hf⟩ := bnd1_el hf
    refine xV_I (As := [.int p1, .int p2]) (wx := [(a0, .inr (11, [.ref a1, .ref a21, .ref a41, .ref a42, .ref a49, .ref a52, .ref a54, .ref a55])), (a1, .inr (10, [.ref a2, .ref a7, .ref a9, .ref a10, .ref a11, .ref a14, .ref a16, .ref a19, .int v0.1.2.2.2.2.2.2.2.2.1, .int v0.1.2.2.2.2.2.2.2.2.2.1, .int v0.1.2.2.2.2.2.2.2.2.2.2.1, .int v0.1.2.2.2.2.2.2.2.2.2.2.2.1, .int v0.1.2.2.2.2.2.2.2.2.2.2.2.2.1, .int v0.1.2.2.2.2.2.2.2.2.2.2.2.2.2])), (a2, .inr (7, [.ref a3, .ref a4, .ref a5, .ref a6, .int v0.1.1.2.2.2.2])), (a3, .inl (ca 0, 9, .inl v0.1.1.1)), (a4, .inl (ca 0, 4, .inl v0.1.1.2.1)), (a5, .inl (ca 0, 4, .inl v0.1.1.2.2.1)), (a6, .inl (ca 0, 4, .inl v0.1.1.2.2.2.1)), (a7, .inr (2, [.ref a8, .int v0.1.2.1.2.1, .int v0.1.2.1.2.2.1, .int v0.1.2.1.2.2.2.1, .int v0.1.2.1.2.2.2.2])), (a8, .inl (ca 1, 17, .inr (.inl v0.1.2.1.1))), (a9, .inr (8, [.int v0.1.2.2.1.1, .int v0.1.2.2.1.2.1, .int v0.1.2.2.1.2.2])), (a10, .inr (1, [.int v0.1.2.2.2.1.1, .int v0.1.2.2.2.1.2.1, .int v0.1.2.2.2.1.2.2.1, .int v0.1.2.2.2.1.2.2.2.1, .int v0.1.2.2.2.1.2.2.2.2.1, .int v0.1.2.2.2.1.2.2.2.2.2])), (a11, .inr (3, [.ref a12, .int v0.1.2.2.2.2.1.2.1, .int v0.1.2.2.2.2.1.2.2.1, .int v0.1.2.2.2.2.1.2.2.2.1, .int v0.1.2.2.2.2.1.2.2.2.2.1, .int v0.1.2.2.2.2.1.2.2.2.2.2.1, .int v0.1.2.2.2.2.1.2.2.2.2.2.2])), (a12, .inr (4, [.ref a13, .int v0.1.2.2.2.2.1.1.2.1, .int v0.1.2.2.2.2.1.1.2.2])), (a13, .inl (ca 0, 512, .inl v0.1.2.2.2.2.1.1.1)), (a14, .inr (4, [.ref a15, .int v0.1.2.2.2.2.2.1.2.1, .int v0.1.2.2.2.2.2.1.2.2])), (a15, .inl (ca 0, 512, .inl v0.1.2.2.2.2.2.1.1)), (a16, .inr (6, [.ref a17, .ref a18, .int v0.1.2.2.2.2.2.2.1.2.2])), (a17, .inl (ca 0, 15, .inl v0.1.2.2.2.2.2.2.1.1)), (a18, .inl (ca 0, 15, .inl v0.1.2.2.2.2.2.2.1.2.1)), (a19, .inr (9, [.ref a20, .int v0.1.2.2.2.2.2.2.2.1.2.1, .int v0.1.2.2.2.2.2.2.2.1.2.2.1, .int v0.1.2.2.2.2.2.2.2.1.2.2.2])), (a20, .inl (ca 0, 300, .inl v0.1.2.2.2.2.2.2.2.1.1))]) ⟨hx, hb, hml, hown, hts⟩ (c_X6_sampleOf l D ca zz a16 a17 a18 _ v0.1.2.2.2.2.2.2.1 p1 p2 r_1 hc1) (cwV 2 hts (gV gw_4_49 gw_4_50 gw_4_51 gw_1_9 gw_4_52) rfl rfl rfl (by decide +kernel) ⟨(Nat.le_of_ble_eq_true rfl), (Nat.le_of_ble_eq_true rfl)⟩) hK hN hZ hA hP hD hS [16, 17, 18] [none, none, none, none, none, none, none, none, none, none, none, none, none, none, none, none, some 0, some 1, some 2, none, none] (by decide +kernel) rfl rfl rfl rfl 16 rfl rfl hl.1 rfl (Nat.le_of_ble_eq_true rfl) dX11_row_27 ⟨Nat.zero_le _, Nat.zero_le _⟩ rfl (fun H locs hP hD hS => ?_)
    have he := Option.some.inj hf
    have e_r := he
    refine rt_I hx hb hr hlocks hK hP hD hS hQ e_r ?_ dX11_row_30
    rfl
  · refine lv_aload_n hx hb dX11_row_4 rfl (lv_at hl 0 rfl) ?_
    refine va_get (C := RX11) (T := TX11) (N := 8) hx hb hts i11 hown hK hP 0 rfl rfl 0 (Nat.le_of_ble_eq_true rfl) w0 (fun _ h9 => h9) rfl dX11_row_5 ?_
    refine va_getN (C := RX10) (T := TX10) (N := 14) hx hb hts i10 hown hK hP 1 rfl rfl 6 (Nat.le_of_ble_eq_true rfl) nw38 (fun _ h9 => h9) rfl dX11_row_8 ?_
    refine lv_iload_n hx hb dX11_row_11 rfl (lv_at hl 1 rfl) ?_
    obtain ⟨r_2, hc2, hf⟩ := bnd1_el hf
    refine xV_I (As := [.int p1]) (wx := [(a0, .inr (11, [.ref a1, .ref a21, .ref a41, .ref a42, .ref a49, .ref a52, .ref a54, .ref a55])), (a1, .inr (10, [.ref a2, .ref a7, .ref a9, .ref a10, .ref a11, .ref a14, .ref a16, .ref a19, .int v0.1.2.2.2.2.2.2.2.2.1, .int v0.1.2.2.2.2.2.2.2.2.2.1, .int v0.1.2.2.2.2.2.2.2.2.2.2.1, .int v0.1.2.2.2.2.2.2.2.2.2.2.2.1, .int v0.1.2.2.2.2.2.2.2.2.2.2.2.2.1, .int v0.1.2.2.2.2.2.2.2.2.2.2.2.2.2])), (a2, .inr (7, [.ref a3, .ref a4, .ref a5, .ref a6, .int v0.1.1.2.2.2.2])), (a3, .inl (ca 0, 9, .inl v0.1.1.1)), (a4, .inl (ca 0, 4, .inl v0.1.1.2.1)), (a5, .inl (ca 0, 4, .inl v0.1.1.2.2.1)), (a6, .inl (ca 0, 4, .inl v0.1.1.2.2.2.1)), (a7, .inr (2, [.ref a8, .int v0.1.2.1.2.1, .int v0.1.2.1.2.2.1, .int v0.1.2.1.2.2.2.1, .int v0.1.2.1.2.2.2.2])), (a8, .inl (ca 1, 17, .inr (.inl v0.1.2.1.1))), (a9, .inr (8, [.int v0.1.2.2.1.1, .int v0.1.2.2.1.2.1, .int v0.1.2.2.1.2.2])), (a10, .inr (1, [.int v0.1.2.2.2.1.1, .int v0.1.2.2.2.1.2.1, .int v0.1.2.2.2.1.2.2.1, .int v0.1.2.2.2.1.2.2.2.1, .int v0.1.2.2.2.1.2.2.2.2.1, .int v0.1.2.2.2.1.2.2.2.2.2])), (a11, .inr (3, [.ref a12, .int v0.1.2.2.2.2.1.2.1, .int v0.1.2.2.2.2.1.2.2.1, .int v0.1.2.2.2.2.1.2.2.2.1, .int v0.1.2.2.2.2.1.2.2.2.2.1, .int v0.1.2.2.2.2.1.2.2.2.2.2.1, .int v0.1.2.2.2.2.1.2.2.2.2.2.2])), (a12, .inr (4, [.ref a13, .int v0.1.2.2.2.2.1.1.2.1, .int v0.1.2.2.2.2.1.1.2.2])), (a13, .inl (ca 0, 512, .inl v0.1.2.2.2.2.1.1.1)), (a14, .inr (4, [.ref a15, .int v0.1.2.2.2.2.2.1.2.1, .int v0.1.2.2.2.2.2.1.2.2])), (a15, .inl (ca 0, 512, .inl v0.1.2.2.2.2.2.1.1)), (a16, .inr (6, [.ref a17, .ref a18, .int v0.1.2.2.2.2.2.2.1.2.2])), (a17, .inl (ca 0, 15, .inl v0.1.2.2.2.2.2.2.1.1)), (a18, .inl (ca 0, 15, .inl v0.1.2.2.2.2.2.2.1.2.1)), (a19, .inr (9, [.ref a20, .int v0.1.2.2.2.2.2.2.2.1.2.1, .int v0.1.2.2.2.2.2.2.2.1.2.2.1, .int v0.1.2.2.2.2.2.2.2.1.2.2.2])), (a20, .inl (ca 0, 300, .inl v0.1.2.2.2.2.2.2.2.1.1))]) ⟨hx, hb, hml, hown, hts⟩ (c_X6_lengthOf l D ca zz a16 a17 a18 _ v0.1.2.2.2.2.2.2.1 p1 r_2 hc2) (cwV 1 hts (gV gw_4_41 gw_4_42 gw_4_43 gw_1_9 gw_4_44) rfl rfl rfl (by decide +kernel) ⟨(Nat.le_of_ble_eq_true rfl), (Nat.le_of_ble_eq_true rfl)⟩) hK hN hZ hA hP hD hS [16, 18] [none, none, none, none, none, none, none, none, none, none, none, none, none, none, none, none, some 0, none, some 1, none, none] (by decide +kernel) rfl rfl rfl rfl 16 rfl rfl hl.1 rfl (Nat.le_of_ble_eq_true rfl) dX11_row_12 ⟨Nat.zero_le _, Nat.zero_le _⟩ rfl (fun H locs hP hD hS => ?_)
    refine lv_goto (tgt := 30) hx hb dX11_row_15 (by decide) ?_
    have he := Option.some.inj hf
    have e_r := he
    refine rt_I hx hb hr hlocks hK hP hD hS hQ e_r ?_ dX11_row_30
    rfl
abbrev wq_X0_load : List Cond := Cond.code yX0_load cX0_load 5 none :: GL
set_option maxHeartbeats 4000000 in
set_option maxRecDepth 100000 in
theorem c_X0_load (l : Launch) (D : va_G) (ca : Nat → ClassId) (zz : Nat → Nat) (a0 a1 a2 b0 b1 : Nat) (sz : Nat) (v0 : V0) (v1 : V4) (p2 : Int32) (v0' : V0) (hf : f_X0_load v0 v1 p2 = some v0') : Met l yX0_load wq_X0_load ({ frames := 1, cells := 0, slots := 0, locals := 21 } : Room) (PR D ca zz [.ref a0, .ref b0, .int p2] sz [(a0, .inr (0, [.ref a1, .ref a2, .int v0.2.2.1, .int v0.2.2.2.1, .int v0.2.2.2.2])), (a1, .inl (ca 0, 400, .inl v0.1)), (a2, .inl (ca 0, 256, .inl v0.2.1)), (b0, .inr (4, [.ref b1, .int v1.2.1, .int v1.2.2])), (b1, .inl (ca 0, 512, .inl v1.1))]) (QV D ca [(a0, .inr (0, [.ref a1, .ref a2, .int v0'.2.2.1, .int v0'.2.2.2.1, .int v0'.2.2.2.2])), (a1, .inl (ca 0, 400, .inl v0'.1)), (a2, .inl (ca 0, 256, .inl v0'.2.1)), (b0, .inr (4, [.ref b1, .int v1.2.1, .int v1.2.2])), (b1, .inl (ca 0, 512, .inl v1.1))] (va_A [(a0, .inr (0, [.ref a1, .ref a2, .int v0.2.2.1, .int v0.2.2.2.1, .int v0.2.2.2.2])), (a1, .inl (ca 0, 400, .inl v0.1)), (a2, .inl (ca 0, 256, .inl v0.2.1)), (b0, .inr (4, [.ref b1, .int v1.2.1, .int v1.2.2])), (b1, .inl (ca 0, 512, .inl v1.1))] sz)) 0 0 (va_A [(a0, .inr (0, [.ref a1, .ref a2, .int v0.2.2.1, .int v0.2.2.2.1, .int v0.2.2.2.2])), (a1, .inl (ca 0, 400, .inl v0.1)), (a2, .inl (ca 0, 256, .inl v0.2.1)), (b0, .inr (4, [.ref b1, .int v1.2.1, .int v1.2.2])), (b1, .inl (ca 0, 512, .inl v1.1))] sz) := by
  refine en (y := yX0_load) (wsm := wq_X0_load) (av := [.ref a0, .ref b0, .int p2]) (cc := cX0_load) (maxL := 5) (ret := none) (Qf := fun A => (QV D ca [(a0, .inr (0, [.ref a1, .ref a2, .int v0'.2.2.1, .int v0'.2.2.2.1, .int v0'.2.2.2.2])), (a1, .inl (ca 0, 400, .inl v0'.1)), (a2, .inl (ca 0, 256, .inl v0'.2.1)), (b0, .inr (4, [.ref b1, .int v1.2.1, .int v1.2.2])), (b1, .inl (ca 0, 512, .inl v1.1))] A)) (by decide) rfl (Nat.le_of_ble_eq_true rfl) ?_
  intro p e s m args below meth c A Q ls hx hb hr hml hown hts hlocks hnm hA hN hZ hK hQ hP hD hS hl
  have w0 := hts _ (List.mem_cons_of_mem _ gw_4_65)
  have w1 := hts _ (List.mem_cons_of_mem _ gw_2_30)
  have w2 := hts _ (List.mem_cons_of_mem _ gw_1_11)
  have w3 := hts _ (List.mem_cons_of_mem _ gw_2_31)
  have w4 := hts _ (List.mem_cons_of_mem _ gw_4_66)
  have w5 := hts _ (List.mem_cons_of_mem _ gw_2_33)
  have w6 := hts _ (List.mem_cons_of_mem _ gw_2_34)
  have w7 := hts _ (List.mem_cons_of_mem _ gw_2_167)
  have w8 := hts _ (List.mem_cons_of_mem _ gw_2_165)
  have nw18 := NW.use (args := args) (w := .fieldLinkNest RX0 37 "NoiseWatch$Queue" "size" "I" "NoiseWatch") hN 18 rfl
  have i0 : ∀ w ∈ u_ws RX0 TX0 5, w ∈ wq_X0_load := fun w h => List.mem_cons_of_mem _ (inX0 w h)
  have i4 : ∀ w ∈ u_ws RX4 TX4 3, w ∈ wq_X0_load := fun w h => List.mem_cons_of_mem _ (inX4 w h)
  have bl28 : ∀ (k28 : V0 → Int32 → Int32 → Option (V0)) (q28 : ∀ (v0 : V0) (x3 : Int32) (x4 : Int32), k28 v0 x3 x4 = some v0' → ∀ (H : Heap) (locs : List Loc) (ls : Array Slot), va_P D vwCl [(a0, .inr (0, [.ref a1, .ref a2, .int v0.2.2.1, .int v0.2.2.2.1, .int v0.2.2.2.2])), (a1, .inl (ca 0, 400, .inl v0.1)), (a2, .inl (ca 0, 256, .inl v0.2.1)), (b0, .inr (4, [.ref b1, .int v1.2.1, .int v1.2.2])), (b1, .inl (ca 0, 512, .inl v1.1))] H → va_D A [(a0, .inr (0, [.ref a1, .ref a2, .int v0.2.2.1, .int v0.2.2.2.1, .int v0.2.2.2.2])), (a1, .inl (ca 0, 400, .inl v0.1)), (a2, .inl (ca 0, 256, .inl v0.2.1)), (b0, .inr (4, [.ref b1, .int v1.2.1, .int v1.2.2])), (b1, .inl (ca 0, 512, .inl v1.1))] → va_S A s.heap H locs → lv_has ls 5 [(0, .ref a0), (1, .ref b0), (3, .int x3), (4, .int x4)] → W p l e ({ frames := 1, cells := 0, slots := 0, locals := 21 } : Room) s m args below meth c H locs 0 0 Q (F0 m 28 ls [])) (v0 : V0) (x3 : Int32) (x4 : Int32), fl_X0_load_28 v1 k28 v0 x3 x4 = some v0' → ∀ (H : Heap) (locs : List Loc) (ls : Array Slot), va_P D vwCl [(a0, .inr (0, [.ref a1, .ref a2, .int v0.2.2.1, .int v0.2.2.2.1, .int v0.2.2.2.2])), (a1, .inl (ca 0, 400, .inl v0.1)), (a2, .inl (ca 0, 256, .inl v0.2.1)), (b0, .inr (4, [.ref b1, .int v1.2.1, .int v1.2.2])), (b1, .inl (ca 0, 512, .inl v1.1))] H → va_D A [(a0, .inr (0, [.ref a1, .ref a2, .int v0.2.2.1, .int v0.2.2.2.1, .int v0.2.2.2.2])), (a1, .inl (ca 0, 400, .inl v0.1)), (a2, .inl (ca 0, 256, .inl v0.2.1)), (b0, .inr (4, [.ref b1, .int v1.2.1, .int v1.2.2])), (b1, .inl (ca 0, 512, .inl v1.1))] → va_S A s.heap H locs → lv_has ls 5 [(0, .ref a0), (1, .ref b0), (3, .int x3), (4, .int x4)] → W p l e ({ frames := 1, cells := 0, slots := 0, locals := 21 } : Room) s m args below meth c H locs 0 0 Q (F0 m 28 ls []) := by
    intro k28 q28 v0 x3 x4 hf H locs ls hP hD hS hl
    unfold fl_X0_load_28 at hf
    refine lv_iload hx hb dX0_load_28 (lv_at hl 3 rfl) ?_
    refine lv_aload_n hx hb dX0_load_30 rfl (lv_at hl 0 rfl) ?_
    refine va_get (C := RX0) (T := TX0) (N := 5) hx hb hts i0 hown hK hP 0 rfl rfl 2 (Nat.le_of_ble_eq_true rfl) w7 (fun _ h9 => h9) rfl dX0_load_31 ?_
    refine xc_ge (tgt := 66) hx hb dX0_load_34 (by decide) hf (fun hf => ?_) (fun hf => ?_)
    · have he := Option.some.inj hf
      have e_v0 := he
      refine rt_V hx hb hr hlocks hK hP hD hS hQ ?_ dX0_load_66
      simp only [← e_v0]
    · refine lv_iload hx hb dX0_load_37 (lv_at hl 3 rfl) ?_
      refine lv_sipush (v := 400) hx hb dX0_load_39 rfl ?_
      refine xc_ge (tgt := 66) hx hb dX0_load_42 (by decide) hf (fun hf => ?_) (fun hf => ?_)
      · have he := Option.some.inj hf
        have e_v0 := he
        refine rt_V hx hb hr hlocks hK hP hD hS hQ ?_ dX0_load_66
        simp only [← e_v0]
      · refine lv_aload_n hx hb dX0_load_45 rfl (lv_at hl 0 rfl) ?_
        refine va_get (C := RX0) (T := TX0) (N := 5) hx hb hts i0 hown hK hP 0 rfl rfl 0 (Nat.le_of_ble_eq_true rfl) w8 (fun _ h9 => h9) rfl dX0_load_46 ?_
        refine lv_iload hx hb dX0_load_49 (lv_at hl 3 rfl) ?_
        refine lv_aload_n hx hb dX0_load_51 rfl (lv_at hl 1 rfl) ?_
        refine lv_iload_n hx hb dX0_load_52 rfl (lv_at hl 2 rfl) ?_
        refine lv_iload hx hb dX0_load_53 (lv_at hl 3 rfl) ?_
        refine lv_iadd hx hb dX0_load_55 ?_
        obtain ⟨r_4, hc4, hf⟩ := bnd1_el hf
        refine xV_I (As := [.int (x3 + x4)]) (wx := [(a0, .inr (0, [.ref a1, .ref a2, .int v0.2.2.1, .int v0.2.2.2.1, .int v0.2.2.2.2])), (a1, .inl (ca 0, 400, .inl v0.1)), (a2, .inl (ca 0, 256, .inl v0.2.1)), (b0, .inr (4, [.ref b1, .int v1.2.1, .int v1.2.2])), (b1, .inl (ca 0, 512, .inl v1.1))]) ⟨hx, hb, hml, hown, hts⟩ (c_X4_bitAt l D ca zz b0 b1 _ v1 (x3 + x4) r_4 hc4) (cwV 1 hts (gV gw_4_67 gw_4_30 gw_4_31 gw_1_8 gw_4_32) rfl rfl rfl (by decide +kernel) ⟨(Nat.le_of_ble_eq_true rfl), (Nat.le_of_ble_eq_true rfl)⟩) hK hN hZ hA hP hD hS [3, 4] [none, none, none, some 0, some 1] (by decide +kernel) rfl rfl rfl rfl 3 rfl rfl hl.1 rfl (Nat.le_of_ble_eq_true rfl) dX0_load_56 ⟨Nat.zero_le _, Nat.zero_le _⟩ rfl (fun H locs hP hD hS => ?_)
        refine xiast (wx := [(a0, .inr (0, [.ref a1, .ref a2, .int v0.2.2.1, .int v0.2.2.2.1, .int v0.2.2.2.2])), (a1, .inl (ca 0, 400, .inl ((upd v0.1 (x4).toNatClampNeg r_4)))), (a2, .inl (ca 0, 256, .inl v0.2.1)), (b0, .inr (4, [.ref b1, .int v1.2.1, .int v1.2.2])), (b1, .inl (ca 0, 512, .inl v1.1))]) hx hb hK hP hD hS 1 rfl hf dX0_load_59 rfl (fun H locs hf hP hD hS => ?_)
        obtain ⟨y_5, ey_5, hf⟩ := bnd_el hf
        rw [← ey_5] at hP hD
        obtain ⟨x_6, ex_6, hf⟩ := bnd_el hf
        refine lv_iinc (v := x_6) (lv' := [(4, .int x_6), (0, .ref a0), (1, .ref b0), (3, .int x3)]) hx hb dX0_load_60 hl (k := 3) rfl (by rw [ex_6]; rfl) (Nat.le_of_ble_eq_true rfl) rfl (fun ls hl => ?_)
        refine lv_goto (tgt := 28) hx hb dX0_load_63 (by decide) ?_
        have jb := q28 ((y_5, v0.2)) x3 x_6
        dsimp only at jb
        exact jb hf _ _ _ hP hD hS (lv_sub hl [1, 2, 3, 0] rfl)
  have b28 : ∀ (n : Nat) (v0 : V0) (x3 : Int32) (x4 : Int32), fb_X0_load_28 v1 n v0 x3 x4 = some v0' → ∀ (H : Heap) (locs : List Loc) (ls : Array Slot), va_P D vwCl [(a0, .inr (0, [.ref a1, .ref a2, .int v0.2.2.1, .int v0.2.2.2.1, .int v0.2.2.2.2])), (a1, .inl (ca 0, 400, .inl v0.1)), (a2, .inl (ca 0, 256, .inl v0.2.1)), (b0, .inr (4, [.ref b1, .int v1.2.1, .int v1.2.2])), (b1, .inl (ca 0, 512, .inl v1.1))] H → va_D A [(a0, .inr (0, [.ref a1, .ref a2, .int v0.2.2.1, .int v0.2.2.2.1, .int v0.2.2.2.2])), (a1, .inl (ca 0, 400, .inl v0.1)), (a2, .inl (ca 0, 256, .inl v0.2.1)), (b0, .inr (4, [.ref b1, .int v1.2.1, .int v1.2.2])), (b1, .inl (ca 0, 512, .inl v1.1))] → va_S A s.heap H locs → lv_has ls 5 [(0, .ref a0), (1, .ref b0), (3, .int x3), (4, .int x4)] → W p l e ({ frames := 1, cells := 0, slots := 0, locals := 21 } : Room) s m args below meth c H locs 0 0 Q (F0 m 28 ls []) := by
    intro n
    induction n with
    | zero => intro v0 x3 x4 hf; exact no_el hf
    | succ n ih => exact bl28 (fb_X0_load_28 v1 n) ih
  unfold f_X0_load at hf
  refine lv_aload_n hx hb dX0_load_0 rfl (lv_at hl 0 rfl) ?_
  refine lv_iconst (v := 0) hx hb dX0_load_1 rfl ?_
  refine lv_iload_n hx hb dX0_load_2 rfl (lv_at hl 2 rfl) ?_
  refine lv_sipush (v := 400) hx hb dX0_load_3 rfl ?_
  refine va_mmin hx hb (hml.trans hl.1.symm) hown w0 w1 w2 w3 (Nat.le_of_ble_eq_true rfl) (Nat.le_of_ble_eq_true rfl) (Nat.zero_le _) (Nat.zero_le _) dX0_load_6 ?_
  refine xnm hf (fun x_1 hf => ?_)
  refine va_mmax hx hb (hml.trans hl.1.symm) hown w4 w5 w2 w6 (Nat.le_of_ble_eq_true rfl) (Nat.le_of_ble_eq_true rfl) (Nat.zero_le _) (Nat.zero_le _) dX0_load_9 ?_
  refine xnm hf (fun x_2 hf => ?_)
  refine xput (C := RX0) (T := TX0) (N := 5) (wx := [(a0, .inr (0, [.ref a1, .ref a2, .int x_2, .int v0.2.2.2.1, .int v0.2.2.2.2])), (a1, .inl (ca 0, 400, .inl v0.1)), (a2, .inl (ca 0, 256, .inl v0.2.1)), (b0, .inr (4, [.ref b1, .int v1.2.1, .int v1.2.2])), (b1, .inl (ca 0, 512, .inl v1.1))]) hx hb hts i0 tyX0 tyX0_ok nmX0 hown hK hP hD hS 0 rfl rfl 2 (Nat.le_of_ble_eq_true rfl) w7 (fun _ h9 => h9) rfl rfl rfl rfl (Nat.le_of_ble_eq_true rfl) dX0_load_12 rfl (fun H locs hP hD hS => ?_)
  refine lv_aload_n hx hb dX0_load_15 rfl (lv_at hl 1 rfl) ?_
  refine va_getN (C := RX4) (T := TX4) (N := 3) hx hb hts i4 hown hK hP 3 rfl rfl 2 (Nat.le_of_ble_eq_true rfl) nw18 (fun _ h9 => h9) rfl dX0_load_16 ?_
  refine lv_aload_n hx hb dX0_load_19 rfl (lv_at hl 0 rfl) ?_
  refine va_get (C := RX0) (T := TX0) (N := 5) hx hb hts i0 hown hK hP 0 rfl rfl 2 (Nat.le_of_ble_eq_true rfl) w7 (fun _ h9 => h9) rfl dX0_load_20 ?_
  refine lv_isub hx hb dX0_load_23 ?_
  refine xnm hf (fun x_3 hf => ?_)
  refine lv_istore_n (lv' := [(3, .int x_3), (0, .ref a0), (1, .ref b0), (2, .int p2)]) hx hb dX0_load_24 rfl hl (Nat.le_of_ble_eq_true rfl) rfl (fun ls hl => ?_)
  refine lv_iconst (v := 0) hx hb dX0_load_25 rfl ?_
  refine lv_istore (lv' := [(4, .int (0 : Int32)), (3, .int x_3), (0, .ref a0), (1, .ref b0), (2, .int p2)]) hx hb dX0_load_26 hl (Nat.le_of_ble_eq_true rfl) rfl (fun ls hl => ?_)
  have jb := b28 FU ((v0.1, v0.2.1, x_2, v0.2.2.2)) x_3 (0 : Int32)
  dsimp only at jb
  exact jb hf _ _ _ hP hD hS (lv_sub hl [2, 3, 1, 0] rfl)
abbrev wq_X11_loadLatest : List Cond := Cond.code yX11_loadLatest cX11_loadLatest 3 (some .boolean) :: GL
set_option maxHeartbeats 4000000 in
set_option maxRecDepth 100000 in
theorem c_X11_loadLatest (l : Launch) (D : va_G) (ca : Nat → ClassId) (zz : Nat → Nat) (a0 a1 a2 a3 a4 a5 a6 a7 a8 a9 a10 a11 a12 a13 a14 a15 a16 a17 a18 a19 a20 a21 a41 a42 a49 a50 a51 a52 a54 a55 : Nat) (sz : Nat) (v0 : V11) (p1 : Int32) (p2 : Int32) (r : Int32) (v0' : V11) (hf : f_X11_loadLatest v0 p1 p2 = some (r, v0')) : Met l yX11_loadLatest wq_X11_loadLatest ({ frames := 2, cells := 0, slots := 0, locals := 45 } : Room) (PR D ca zz [.ref a0, .int p1, .int p2] sz [(a0, .inr (11, [.ref a1, .ref a21, .ref a41, .ref a42, .ref a49, .ref a52, .ref a54, .ref a55])), (a1, .inr (10, [.ref a2, .ref a7, .ref a9, .ref a10, .ref a11, .ref a14, .ref a16, .ref a19, .int v0.1.2.2.2.2.2.2.2.2.1, .int v0.1.2.2.2.2.2.2.2.2.2.1, .int v0.1.2.2.2.2.2.2.2.2.2.2.1, .int v0.1.2.2.2.2.2.2.2.2.2.2.2.1, .int v0.1.2.2.2.2.2.2.2.2.2.2.2.2.1, .int v0.1.2.2.2.2.2.2.2.2.2.2.2.2.2])), (a2, .inr (7, [.ref a3, .ref a4, .ref a5, .ref a6, .int v0.1.1.2.2.2.2])), (a3, .inl (ca 0, 9, .inl v0.1.1.1)), (a4, .inl (ca 0, 4, .inl v0.1.1.2.1)), (a5, .inl (ca 0, 4, .inl v0.1.1.2.2.1)), (a6, .inl (ca 0, 4, .inl v0.1.1.2.2.2.1)), (a7, .inr (2, [.ref a8, .int v0.1.2.1.2.1, .int v0.1.2.1.2.2.1, .int v0.1.2.1.2.2.2.1, .int v0.1.2.1.2.2.2.2])), (a8, .inl (ca 1, 17, .inr (.inl v0.1.2.1.1))), (a9, .inr (8, [.int v0.1.2.2.1.1, .int v0.1.2.2.1.2.1, .int v0.1.2.2.1.2.2])), (a10, .inr (1, [.int v0.1.2.2.2.1.1, .int v0.1.2.2.2.1.2.1, .int v0.1.2.2.2.1.2.2.1, .int v0.1.2.2.2.1.2.2.2.1, .int v0.1.2.2.2.1.2.2.2.2.1, .int v0.1.2.2.2.1.2.2.2.2.2])), (a11, .inr (3, [.ref a12, .int v0.1.2.2.2.2.1.2.1, .int v0.1.2.2.2.2.1.2.2.1, .int v0.1.2.2.2.2.1.2.2.2.1, .int v0.1.2.2.2.2.1.2.2.2.2.1, .int v0.1.2.2.2.2.1.2.2.2.2.2.1, .int v0.1.2.2.2.2.1.2.2.2.2.2.2])), (a12, .inr (4, [.ref a13, .int v0.1.2.2.2.2.1.1.2.1, .int v0.1.2.2.2.2.1.1.2.2])), (a13, .inl (ca 0, 512, .inl v0.1.2.2.2.2.1.1.1)), (a14, .inr (4, [.ref a15, .int v0.1.2.2.2.2.2.1.2.1, .int v0.1.2.2.2.2.2.1.2.2])), (a15, .inl (ca 0, 512, .inl v0.1.2.2.2.2.2.1.1)), (a16, .inr (6, [.ref a17, .ref a18, .int v0.1.2.2.2.2.2.2.1.2.2])), (a17, .inl (ca 0, 15, .inl v0.1.2.2.2.2.2.2.1.1)), (a18, .inl (ca 0, 15, .inl v0.1.2.2.2.2.2.2.1.2.1)), (a19, .inr (9, [.ref a20, .int v0.1.2.2.2.2.2.2.2.1.2.1, .int v0.1.2.2.2.2.2.2.2.1.2.2.1, .int v0.1.2.2.2.2.2.2.2.1.2.2.2])), (a20, .inl (ca 0, 300, .inl v0.1.2.2.2.2.2.2.2.1.1)), (a49, .inr (0, [.ref a50, .ref a51, .int v0.2.2.2.2.1.2.2.1, .int v0.2.2.2.2.1.2.2.2.1, .int v0.2.2.2.2.1.2.2.2.2])), (a50, .inl (ca 0, 400, .inl v0.2.2.2.2.1.1)), (a51, .inl (ca 0, 256, .inl v0.2.2.2.2.1.2.1))]) (QI D ca r [(a0, .inr (11, [.ref a1, .ref a21, .ref a41, .ref a42, .ref a49, .ref a52, .ref a54, .ref a55])), (a1, .inr (10, [.ref a2, .ref a7, .ref a9, .ref a10, .ref a11, .ref a14, .ref a16, .ref a19, .int v0'.1.2.2.2.2.2.2.2.2.1, .int v0'.1.2.2.2.2.2.2.2.2.2.1, .int v0'.1.2.2.2.2.2.2.2.2.2.2.1, .int v0'.1.2.2.2.2.2.2.2.2.2.2.2.1, .int v0'.1.2.2.2.2.2.2.2.2.2.2.2.2.1, .int v0'.1.2.2.2.2.2.2.2.2.2.2.2.2.2])), (a2, .inr (7, [.ref a3, .ref a4, .ref a5, .ref a6, .int v0'.1.1.2.2.2.2])), (a3, .inl (ca 0, 9, .inl v0'.1.1.1)), (a4, .inl (ca 0, 4, .inl v0'.1.1.2.1)), (a5, .inl (ca 0, 4, .inl v0'.1.1.2.2.1)), (a6, .inl (ca 0, 4, .inl v0'.1.1.2.2.2.1)), (a7, .inr (2, [.ref a8, .int v0'.1.2.1.2.1, .int v0'.1.2.1.2.2.1, .int v0'.1.2.1.2.2.2.1, .int v0'.1.2.1.2.2.2.2])), (a8, .inl (ca 1, 17, .inr (.inl v0'.1.2.1.1))), (a9, .inr (8, [.int v0'.1.2.2.1.1, .int v0'.1.2.2.1.2.1, .int v0'.1.2.2.1.2.2])), (a10, .inr (1, [.int v0'.1.2.2.2.1.1, .int v0'.1.2.2.2.1.2.1, .int v0'.1.2.2.2.1.2.2.1, .int v0'.1.2.2.2.1.2.2.2.1, .int v0'.1.2.2.2.1.2.2.2.2.1, .int v0'.1.2.2.2.1.2.2.2.2.2])), (a11, .inr (3, [.ref a12, .int v0'.1.2.2.2.2.1.2.1, .int v0'.1.2.2.2.2.1.2.2.1, .int v0'.1.2.2.2.2.1.2.2.2.1, .int v0'.1.2.2.2.2.1.2.2.2.2.1, .int v0'.1.2.2.2.2.1.2.2.2.2.2.1, .int v0'.1.2.2.2.2.1.2.2.2.2.2.2])), (a12, .inr (4, [.ref a13, .int v0'.1.2.2.2.2.1.1.2.1, .int v0'.1.2.2.2.2.1.1.2.2])), (a13, .inl (ca 0, 512, .inl v0'.1.2.2.2.2.1.1.1)), (a14, .inr (4, [.ref a15, .int v0'.1.2.2.2.2.2.1.2.1, .int v0'.1.2.2.2.2.2.1.2.2])), (a15, .inl (ca 0, 512, .inl v0'.1.2.2.2.2.2.1.1)), (a16, .inr (6, [.ref a17, .ref a18, .int v0'.1.2.2.2.2.2.2.1.2.2])), (a17, .inl (ca 0, 15, .inl v0'.1.2.2.2.2.2.2.1.1)), (a18, .inl (ca 0, 15, .inl v0'.1.2.2.2.2.2.2.1.2.1)), (a19, .inr (9, [.ref a20, .int v0'.1.2.2.2.2.2.2.2.1.2.1, .int v0'.1.2.2.2.2.2.2.2.1.2.2.1, .int v0'.1.2.2.2.2.2.2.2.1.2.2.2])), (a20, .inl (ca 0, 300, .inl v0'.1.2.2.2.2.2.2.2.1.1)), (a49, .inr (0, [.ref a50, .ref a51, .int v0'.2.2.2.2.1.2.2.1, .int v0'.2.2.2.2.1.2.2.2.1, .int v0'.2.2.2.2.1.2.2.2.2])), (a50, .inl (ca 0, 400, .inl v0'.2.2.2.2.1.1)), (a51, .inl (ca 0, 256, .inl v0'.2.2.2.2.1.2.1))] (va_A [(a0, .inr (11, [.ref a1, .ref a21, .ref a41, .ref a42, .ref a49, .ref a52, .ref a54, .ref a55])), (a1, .inr (10, [.ref a2, .ref a7, .ref a9, .ref a10, .ref a11, .ref a14, .ref a16, .ref a19, .int v0.1.2.2.2.2.2.2.2.2.1, .int v0.1.2.2.2.2.2.2.2.2.2.1, .int v0.1.2.2.2.2.2.2.2.2.2.2.1, .int v0.1.2.2.2.2.2.2.2.2.2.2.2.1, .int v0.1.2.2.2.2.2.2.2.2.2.2.2.2.1, .int v0.1.2.2.2.2.2.2.2.2.2.2.2.2.2])), (a2, .inr (7, [.ref a3, .ref a4, .ref a5, .ref a6, .int v0.1.1.2.2.2.2])), (a3, .inl (ca 0, 9, .inl v0.1.1.1)), (a4, .inl (ca 0, 4, .inl v0.1.1.2.1)), (a5, .inl (ca 0, 4, .inl v0.1.1.2.2.1)), (a6, .inl (ca 0, 4, .inl v0.1.1.2.2.2.1)), (a7, .inr (2, [.ref a8, .int v0.1.2.1.2.1, .int v0.1.2.1.2.2.1, .int v0.1.2.1.2.2.2.1, .int v0.1.2.1.2.2.2.2])), (a8, .inl (ca 1, 17, .inr (.inl v0.1.2.1.1))), (a9, .inr (8, [.int v0.1.2.2.1.1, .int v0.1.2.2.1.2.1, .int v0.1.2.2.1.2.2])), (a10, .inr (1, [.int v0.1.2.2.2.1.1, .int v0.1.2.2.2.1.2.1, .int v0.1.2.2.2.1.2.2.1, .int v0.1.2.2.2.1.2.2.2.1, .int v0.1.2.2.2.1.2.2.2.2.1, .int v0.1.2.2.2.1.2.2.2.2.2])), (a11, .inr (3, [.ref a12, .int v0.1.2.2.2.2.1.2.1, .int v0.1.2.2.2.2.1.2.2.1, .int v0.1.2.2.2.2.1.2.2.2.1, .int v0.1.2.2.2.2.1.2.2.2.2.1, .int v0.1.2.2.2.2.1.2.2.2.2.2.1, .int v0.1.2.2.2.2.1.2.2.2.2.2.2])), (a12, .inr (4, [.ref a13, .int v0.1.2.2.2.2.1.1.2.1, .int v0.1.2.2.2.2.1.1.2.2])), (a13, .inl (ca 0, 512, .inl v0.1.2.2.2.2.1.1.1)), (a14, .inr (4, [.ref a15, .int v0.1.2.2.2.2.2.1.2.1, .int v0.1.2.2.2.2.2.1.2.2])), (a15, .inl (ca 0, 512, .inl v0.1.2.2.2.2.2.1.1)), (a16, .inr (6, [.ref a17, .ref a18, .int v0.1.2.2.2.2.2.2.1.2.2])), (a17, .inl (ca 0, 15, .inl v0.1.2.2.2.2.2.2.1.1)), (a18, .inl (ca 0, 15, .inl v0.1.2.2.2.2.2.2.1.2.1)), (a19, .inr (9, [.ref a20, .int v0.1.2.2.2.2.2.2.2.1.2.1, .int v0.1.2.2.2.2.2.2.2.1.2.2.1, .int v0.1.2.2.2.2.2.2.2.1.2.2.2])), (a20, .inl (ca 0, 300, .inl v0.1.2.2.2.2.2.2.2.1.1)), (a49, .inr (0, [.ref a50, .ref a51, .int v0.2.2.2.2.1.2.2.1, .int v0.2.2.2.2.1.2.2.2.1, .int v0.2.2.2.2.1.2.2.2.2])), (a50, .inl (ca 0, 400, .inl v0.2.2.2.2.1.1)), (a51, .inl (ca 0, 256, .inl v0.2.2.2.2.1.2.1))] sz)) 0 0 (va_A [(a0, .inr (11, [.ref a1, .ref a21, .ref a41, .ref a42, .ref a49, .ref a52, .ref a54, .ref a55])), (a1, .inr (10, [.ref a2, .ref a7, .ref a9, .ref a10, .ref a11, .ref a14, .ref a16, .ref a19, .int v0.1.2.2.2.2.2.2.2.2.1, .int v0.1.2.2.2.2.2.2.2.2.2.1, .int v0.1.2.2.2.2.2.2.2.2.2.2.1, .int v0.1.2.2.2.2.2.2.2.2.2.2.2.1, .int v0.1.2.2.2.2.2.2.2.2.2.2.2.2.1, .int v0.1.2.2.2.2.2.2.2.2.2.2.2.2.2])), (a2, .inr (7, [.ref a3, .ref a4, .ref a5, .ref a6, .int v0.1.1.2.2.2.2])), (a3, .inl (ca 0, 9, .inl v0.1.1.1)), (a4, .inl (ca 0, 4, .inl v0.1.1.2.1)), (a5, .inl (ca 0, 4, .inl v0.1.1.2.2.1)), (a6, .inl (ca 0, 4, .inl v0.1.1.2.2.2.1)), (a7, .inr (2, [.ref a8, .int v0.1.2.1.2.1, .int v0.1.2.1.2.2.1, .int v0.1.2.1.2.2.2.1, .int v0.1.2.1.2.2.2.2])), (a8, .inl (ca 1, 17, .inr (.inl v0.1.2.1.1))), (a9, .inr (8, [.int v0.1.2.2.1.1, .int v0.1.2.2.1.2.1, .int v0.1.2.2.1.2.2])), (a10, .inr (1, [.int v0.1.2.2.2.1.1, .int v0.1.2.2.2.1.2.1, .int v0.1.2.2.2.1.2.2.1, .int v0.1.2.2.2.1.2.2.2.1, .int v0.1.2.2.2.1.2.2.2.2.1, .int v0.1.2.2.2.1.2.2.2.2.2])), (a11, .inr (3, [.ref a12, .int v0.1.2.2.2.2.1.2.1, .int v0.1.2.2.2.2.1.2.2.1, .int v0.1.2.2.2.2.1.2.2.2.1, .int v0.1.2.2.2.2.1.2.2.2.2.1, .int v0.1.2.2.2.2.1.2.2.2.2.2.1, .int v0.1.2.2.2.2.1.2.2.2.2.2.2])), (a12, .inr (4, [.ref a13, .int v0.1.2.2.2.2.1.1.2.1, .int v0.1.2.2.2.2.1.1.2.2])), (a13, .inl (ca 0, 512, .inl v0.1.2.2.2.2.1.1.1)), (a14, .inr (4, [.ref a15, .int v0.1.2.2.2.2.2.1.2.1, .int v0.1.2.2.2.2.2.1.2.2])), (a15, .inl (ca 0, 512, .inl v0.1.2.2.2.2.2.1.1)), (a16, .inr (6, [.ref a17, .ref a18, .int v0.1.2.2.2.2.2.2.1.2.2])), (a17, .inl (ca 0, 15, .inl v0.1.2.2.2.2.2.2.1.1)), (a18, .inl (ca 0, 15, .inl v0.1.2.2.2.2.2.2.1.2.1)), (a19, .inr (9, [.ref a20, .int v0.1.2.2.2.2.2.2.2.1.2.1, .int v0.1.2.2.2.2.2.2.2.1.2.2.1, .int v0.1.2.2.2.2.2.2.2.1.2.2.2])), (a20, .inl (ca 0, 300, .inl v0.1.2.2.2.2.2.2.2.1.1)), (a49, .inr (0, [.ref a50, .ref a51, .int v0.2.2.2.2.1.2.2.1, .int v0.2.2.2.2.1.2.2.2.1, .int v0.2.2.2.2.1.2.2.2.2])), (a50, .inl (ca 0, 400, .inl v0.2.2.2.2.1.1)), (a51, .inl (ca 0, 256, .inl v0.2.2.2.2.1.2.1))] sz) := by
  refine en (y := yX11_loadLatest) (wsm := wq_X11_loadLatest) (av := [.ref a0, .int p1, .int p2]) (cc := cX11_loadLatest) (maxL := 3) (ret := (some .boolean)) (Qf := fun A => (QI D ca r [(a0, .inr (11, [.ref a1, .ref a21, .ref a41, .ref a42, .ref a49, .ref a52, .ref a54, .ref a55])), (a1, .inr (10, [.ref a2, .ref a7, .ref a9, .ref a10, .ref a11, .ref a14, .ref a16, .ref a19, .int v0'.1.2.2.2.2.2.2.2.2.1, .int v0'.1.2.2.2.2.2.2.2.2.2.1, .int v0'.1.2.2.2.2.2.2.2.2.2.2.1, .int v0'.1.2.2.2.2.2.2.2.2.2.2.2.1, .int v0'.1.2.2.2.2.2.2.2.2.2.2.2.2.1, .int v0'.1.2.2.2.2.2.2.2.2.2.2.2.2.2])), (a2, .inr (7, [.ref a3, .ref a4, .ref a5, .ref a6, .int v0'.1.1.2.2.2.2])), (a3, .inl (ca 0, 9, .inl v0'.1.1.1)), (a4, .inl (ca 0, 4, .inl v0'.1.1.2.1)), (a5, .inl (ca 0, 4, .inl v0'.1.1.2.2.1)), (a6, .inl (ca 0, 4, .inl v0'.1.1.2.2.2.1)), (a7, .inr (2, [.ref a8, .int v0'.1.2.1.2.1, .int v0'.1.2.1.2.2.1, .int v0'.1.2.1.2.2.2.1, .int v0'.1.2.1.2.2.2.2])), (a8, .inl (ca 1, 17, .inr (.inl v0'.1.2.1.1))), (a9, .inr (8, [.int v0'.1.2.2.1.1, .int v0'.1.2.2.1.2.1, .int v0'.1.2.2.1.2.2])), (a10, .inr (1, [.int v0'.1.2.2.2.1.1, .int v0'.1.2.2.2.1.2.1, .int v0'.1.2.2.2.1.2.2.1, .int v0'.1.2.2.2.1.2.2.2.1, .int v0'.1.2.2.2.1.2.2.2.2.1, .int v0'.1.2.2.2.1.2.2.2.2.2])), (a11, .inr (3, [.ref a12, .int v0'.1.2.2.2.2.1.2.1, .int v0'.1.2.2.2.2.1.2.2.1, .int v0'.1.2.2.2.2.1.2.2.2.1, .int v0'.1.2.2.2.2.1.2.2.2.2.1, .int v0'.1.2.2.2.2.1.2.2.2.2.2.1, .int v0'.1.2.2.2.2.1.2.2.2.2.2.2])), (a12, .inr (4, [.ref a13, .int v0'.1.2.2.2.2.1.1.2.1, .int v0'.1.2.2.2.2.1.1.2.2])), (a13, .inl (ca 0, 512, .inl v0'.1.2.2.2.2.1.1.1)), (a14, .inr (4, [.ref a15, .int v0'.1.2.2.2.2.2.1.2.1, .int v0'.1.2.2.2.2.2.1.2.2])), (a15, .inl (ca 0, 512, .inl v0'.1.2.2.2.2.2.1.1)), (a16, .inr (6, [.ref a17, .ref a18, .int v0'.1.2.2.2.2.2.2.1.2.2])), (a17, .inl (ca 0, 15, .inl v0'.1.2.2.2.2.2.2.1.1)), (a18, .inl (ca 0, 15, .inl v0'.1.2.2.2.2.2.2.1.2.1)), (a19, .inr (9, [.ref a20, .int v0'.1.2.2.2.2.2.2.2.1.2.1, .int v0'.1.2.2.2.2.2.2.2.1.2.2.1, .int v0'.1.2.2.2.2.2.2.2.1.2.2.2])), (a20, .inl (ca 0, 300, .inl v0'.1.2.2.2.2.2.2.2.1.1)), (a49, .inr (0, [.ref a50, .ref a51, .int v0'.2.2.2.2.1.2.2.1, .int v0'.2.2.2.2.1.2.2.2.1, .int v0'.2.2.2.2.1.2.2.2.2])), (a50, .inl (ca 0, 400, .inl v0'.2.2.2.2.1.1)), (a51, .inl (ca 0, 256, .inl v0'.2.2.2.2.1.2.1))] A)) (by decide) rfl (Nat.le_of_ble_eq_true rfl) ?_
  intro p e s m args below meth c A Q ls hx hb hr hml hown hts hlocks hnm hA hN hZ hK hQ hP hD hS hl
  have w0 := hts _ (List.mem_cons_of_mem _ gw_2_187)
  have w1 := hts _ (List.mem_cons_of_mem _ gw_2_191)
  have nw37 := NW.use (args := args) (w := .fieldLinkNest RX11 169 "NoiseWatch$Watch" "heard" "LNoiseWatch$Queue;" "NoiseWatch") hN 37 rfl
  have nw21 := NW.use (args := args) (w := .fieldLinkNest RX11 248 "NoiseWatch$Queue" "size" "I" "NoiseWatch") hN 21 rfl
  have i10 : ∀ w ∈ u_ws RX10 TX10 14, w ∈ wq_X11_loadLatest := fun w h => List.mem_cons_of_mem _ (inX10 w h)
  have i11 : ∀ w ∈ u_ws RX11 TX11 8, w ∈ wq_X11_loadLatest := fun w h => List.mem_cons_of_mem _ (inX11 w h)
  have i4 : ∀ w ∈ u_ws RX4 TX4 3, w ∈ wq_X11_loadLatest := fun w h => List.mem_cons_of_mem _ (inX4 w h)
  unfold f_X11_loadLatest at hf
  refine lv_iload_n hx hb dX11_loadLatest_0 rfl (lv_at hl 1 rfl) ?_
  refine lv_iload_n hx hb dX11_loadLatest_1 rfl (lv_at hl 2 rfl) ?_
  refine xc_lt (tgt := 19) hx hb dX11_loadLatest_2 (by decide) hf (fun hf => ?_) (fun hf => ?_)
  · refine lv_iconst (v := 0) hx hb dX11_loadLatest_19 rfl ?_
    have he := Option.some.inj hf
    obtain ⟨e_r, he⟩ := Prod.mk.inj he
    have e_v0 := he
    refine rt_Z hx hb hr hlocks hK hP hD hS hQ (Or.inl rfl) e_r ?_ dX11_loadLatest_20
    simp only [← e_v0]
  · refine lv_iload_n hx hb dX11_loadLatest_5 rfl (lv_at hl 1 rfl) ?_
    refine lv_aload_n hx hb dX11_loadLatest_6 rfl (lv_at hl 0 rfl) ?_
    refine va_get (C := RX11) (T := TX11) (N := 8) hx hb hts i11 hown hK hP 0 rfl rfl 0 (Nat.le_of_ble_eq_true rfl) w0 (fun _ h9 => h9) rfl dX11_loadLatest_7 ?_
    refine va_getN (C := RX10) (T := TX10) (N := 14) hx hb hts i10 hown hK hP 1 rfl rfl 5 (Nat.le_of_ble_eq_true rfl) nw37 (fun _ h9 => h9) rfl dX11_loadLatest_10 ?_
    refine va_getN (C := RX4) (T := TX4) (N := 3) hx hb hts i4 hown hK hP 14 rfl rfl 2 (Nat.le_of_ble_eq_true rfl) nw21 (fun _ h9 => h9) rfl dX11_loadLatest_13 ?_
    refine xc_le (tgt := 21) hx hb dX11_loadLatest_16 (by decide) hf (fun hf => ?_) (fun hf => ?_)
    · refine lv_aload_n hx hb dX11_loadLatest_21 rfl (lv_at hl 0 rfl) ?_
      refine va_get (C := RX11) (T := TX11) (N := 8) hx hb hts i11 hown hK hP 0 rfl rfl 4 (Nat.le_of_ble_eq_true rfl) w1 (fun _ h9 => h9) rfl dX11_loadLatest_22 ?_
      refine lv_aload_n hx hb dX11_loadLatest_25 rfl (lv_at hl 0 rfl) ?_
      refine va_get (C := RX11) (T := TX11) (N := 8) hx hb hts i11 hown hK hP 0 rfl rfl 0 (Nat.le_of_ble_eq_true rfl) w0 (fun _ h9 => h9) rfl dX11_loadLatest_26 ?_
      refine va_getN (C := RX10) (T := TX10) (N := 14) hx hb hts i10 hown hK hP 1 rfl rfl 5 (Nat.le_of_ble_eq_true rfl) nw37 (fun _ h9 => h9) rfl dX11_loadLatest_29 ?_
      refine lv_iload_n hx hb dX11_loadLatest_32 rfl (lv_at hl 1 rfl) ?_
      obtain ⟨u_1, hc1, hf⟩ := bnd1_el hf
      refine xV_V (As := [.ref a14, .int p1]) (wx := [(a0, .inr (11, [.ref a1, .ref a21, .ref a41, .ref a42, .ref a49, .ref a52, .ref a54, .ref a55])), (a1, .inr (10, [.ref a2, .ref a7, .ref a9, .ref a10, .ref a11, .ref a14, .ref a16, .ref a19, .int v0.1.2.2.2.2.2.2.2.2.1, .int v0.1.2.2.2.2.2.2.2.2.2.1, .int v0.1.2.2.2.2.2.2.2.2.2.2.1, .int v0.1.2.2.2.2.2.2.2.2.2.2.2.1, .int v0.1.2.2.2.2.2.2.2.2.2.2.2.2.1, .int v0.1.2.2.2.2.2.2.2.2.2.2.2.2.2])), (a2, .inr (7, [.ref a3, .ref a4, .ref a5, .ref a6, .int v0.1.1.2.2.2.2])), (a3, .inl (ca 0, 9, .inl v0.1.1.1)), (a4, .inl (ca 0, 4, .inl v0.1.1.2.1)), (a5, .inl (ca 0, 4, .inl v0.1.1.2.2.1)), (a6, .inl (ca 0, 4, .inl v0.1.1.2.2.2.1)), (a7, .inr (2, [.ref a8, .int v0.1.2.1.2.1, .int v0.1.2.1.2.2.1, .int v0.1.2.1.2.2.2.1, .int v0.1.2.1.2.2.2.2])), (a8, .inl (ca 1, 17, .inr (.inl v0.1.2.1.1))), (a9, .inr (8, [.int v0.1.2.2.1.1, .int v0.1.2.2.1.2.1, .int v0.1.2.2.1.2.2])), (a10, .inr (1, [.int v0.1.2.2.2.1.1, .int v0.1.2.2.2.1.2.1, .int v0.1.2.2.2.1.2.2.1, .int v0.1.2.2.2.1.2.2.2.1, .int v0.1.2.2.2.1.2.2.2.2.1, .int v0.1.2.2.2.1.2.2.2.2.2])), (a11, .inr (3, [.ref a12, .int v0.1.2.2.2.2.1.2.1, .int v0.1.2.2.2.2.1.2.2.1, .int v0.1.2.2.2.2.1.2.2.2.1, .int v0.1.2.2.2.2.1.2.2.2.2.1, .int v0.1.2.2.2.2.1.2.2.2.2.2.1, .int v0.1.2.2.2.2.1.2.2.2.2.2.2])), (a12, .inr (4, [.ref a13, .int v0.1.2.2.2.2.1.1.2.1, .int v0.1.2.2.2.2.1.1.2.2])), (a13, .inl (ca 0, 512, .inl v0.1.2.2.2.2.1.1.1)), (a14, .inr (4, [.ref a15, .int v0.1.2.2.2.2.2.1.2.1, .int v0.1.2.2.2.2.2.1.2.2])), (a15, .inl (ca 0, 512, .inl v0.1.2.2.2.2.2.1.1)), (a16, .inr (6, [.ref a17, .ref a18, .int v0.1.2.2.2.2.2.2.1.2.2])), (a17, .inl (ca 0, 15, .inl v0.1.2.2.2.2.2.2.1.1)), (a18, .inl (ca 0, 15, .inl v0.1.2.2.2.2.2.2.1.2.1)), (a19, .inr (9, [.ref a20, .int v0.1.2.2.2.2.2.2.2.1.2.1, .int v0.1.2.2.2.2.2.2.2.1.2.2.1, .int v0.1.2.2.2.2.2.2.2.1.2.2.2])), (a20, .inl (ca 0, 300, .inl v0.1.2.2.2.2.2.2.2.1.1)), (a49, .inr (0, [.ref a50, .ref a51, .int u_1.2.2.1, .int u_1.2.2.2.1, .int u_1.2.2.2.2])), (a50, .inl (ca 0, 400, .inl u_1.1)), (a51, .inl (ca 0, 256, .inl u_1.2.1))]) ⟨hx, hb, hml, hown, hts⟩ (c_X0_load l D ca zz a49 a50 a51 a14 a15 _ v0.2.2.2.2.1 v0.1.2.2.2.2.2.1 p1 u_1 hc1) (cwV 2 hts (gV gw_4_61 gw_4_62 gw_4_63 gw_1_14 gw_4_64) rfl rfl rfl (by decide +kernel) ⟨(Nat.le_of_ble_eq_true rfl), (Nat.le_of_ble_eq_true rfl)⟩) hK hN hZ hA hP hD hS [21, 22, 23, 14, 15] [none, none, none, none, none, none, none, none, none, none, none, none, none, none, some 3, some 4, none, none, none, none, none, some 0, some 1, some 2] (by decide +kernel) rfl rfl rfl rfl 21 rfl rfl hl.1 rfl (Nat.le_of_ble_eq_true rfl) dX11_loadLatest_33 ⟨Nat.zero_le _, Nat.zero_le _⟩ rfl (fun H locs hP hD hS => ?_)
      refine lv_iconst (v := 1) hx hb dX11_loadLatest_36 rfl ?_
      have he := Option.some.inj hf
      obtain ⟨e_r, he⟩ := Prod.mk.inj he
      have e_v0 := he
      refine rt_Z hx hb hr hlocks hK hP hD hS hQ (Or.inr rfl) e_r ?_ dX11_loadLatest_37
      simp only [← e_v0]
    · refine lv_iconst (v := 0) hx hb dX11_loadLatest_19 rfl ?_
      have he := Option.some.inj hf
      obtain ⟨e_r, he⟩ := Prod.mk.inj he
      have e_v0 := he
      refine rt_Z hx hb hr hlocks hK hP hD hS hQ (Or.inl rfl) e_r ?_ dX11_loadLatest_20
      simp only [← e_v0]
abbrev wq_X0_measureCommon : List Cond := Cond.code yX0_measureCommon cX0_measureCommon 3 none :: GL
set_option maxHeartbeats 4000000 in
set_option maxRecDepth 100000 in
theorem c_X0_measureCommon (l : Launch) (D : va_G) (ca : Nat → ClassId) (zz : Nat → Nat) (a0 a1 a2 : Nat) (sz : Nat) (v0 : V0) (v0' : V0) (hf : f_X0_measureCommon v0 = some v0') : Met l yX0_measureCommon wq_X0_measureCommon ({ frames := 1, cells := 0, slots := 0, locals := 21 } : Room) (PR D ca zz [.ref a0] sz [(a0, .inr (0, [.ref a1, .ref a2, .int v0.2.2.1, .int v0.2.2.2.1, .int v0.2.2.2.2])), (a1, .inl (ca 0, 400, .inl v0.1)), (a2, .inl (ca 0, 256, .inl v0.2.1))]) (QV D ca [(a0, .inr (0, [.ref a1, .ref a2, .int v0'.2.2.1, .int v0'.2.2.2.1, .int v0'.2.2.2.2])), (a1, .inl (ca 0, 400, .inl v0'.1)), (a2, .inl (ca 0, 256, .inl v0'.2.1))] (va_A [(a0, .inr (0, [.ref a1, .ref a2, .int v0.2.2.1, .int v0.2.2.2.1, .int v0.2.2.2.2])), (a1, .inl (ca 0, 400, .inl v0.1)), (a2, .inl (ca 0, 256, .inl v0.2.1))] sz)) 0 0 (va_A [(a0, .inr (0, [.ref a1, .ref a2, .int v0.2.2.1, .int v0.2.2.2.1, .int v0.2.2.2.2])), (a1, .inl (ca 0, 400, .inl v0.1)), (a2, .inl (ca 0, 256, .inl v0.2.1))] sz) := by
  refine en (y := yX0_measureCommon) (wsm := wq_X0_measureCommon) (av := [.ref a0]) (cc := cX0_measureCommon) (maxL := 3) (ret := none) (Qf := fun A => (QV D ca [(a0, .inr (0, [.ref a1, .ref a2, .int v0'.2.2.1, .int v0'.2.2.2.1, .int v0'.2.2.2.2])), (a1, .inl (ca 0, 400, .inl v0'.1)), (a2, .inl (ca 0, 256, .inl v0'.2.1))] A)) (by decide) rfl (Nat.le_of_ble_eq_true rfl) ?_
  intro p e s m args below meth c A Q ls hx hb hr hml hown hts hlocks hnm hA hN hZ hK hQ hP hD hS hl
  have w0 := hts _ (List.mem_cons_of_mem _ gw_2_167)
  have w1 := hts _ (List.mem_cons_of_mem _ gw_4_66)
  have w2 := hts _ (List.mem_cons_of_mem _ gw_2_33)
  have w3 := hts _ (List.mem_cons_of_mem _ gw_1_11)
  have w4 := hts _ (List.mem_cons_of_mem _ gw_2_34)
  have w5 := hts _ (List.mem_cons_of_mem _ gw_2_168)
  have w6 := hts _ (List.mem_cons_of_mem _ gw_2_170)
  have w7 := hts _ (List.mem_cons_of_mem _ gw_2_165)
  have i0 : ∀ w ∈ u_ws RX0 TX0 5, w ∈ wq_X0_measureCommon := fun w h => List.mem_cons_of_mem _ (inX0 w h)
  have b34 : ∀ (v0 : V0) (x1 : Int32), fc_X0_measureCommon_34 v0 x1 = some v0' → ∀ (H : Heap) (locs : List Loc) (ls : Array Slot), va_P D vwCl [(a0, .inr (0, [.ref a1, .ref a2, .int v0.2.2.1, .int v0.2.2.2.1, .int v0.2.2.2.2])), (a1, .inl (ca 0, 400, .inl v0.1)), (a2, .inl (ca 0, 256, .inl v0.2.1))] H → va_D A [(a0, .inr (0, [.ref a1, .ref a2, .int v0.2.2.1, .int v0.2.2.2.1, .int v0.2.2.2.2])), (a1, .inl (ca 0, 400, .inl v0.1)), (a2, .inl (ca 0, 256, .inl v0.2.1))] → va_S A s.heap H locs → lv_has ls 3 [(0, .ref a0), (1, .int x1)] → W p l e ({ frames := 1, cells := 0, slots := 0, locals := 21 } : Room) s m args below meth c H locs 0 0 Q (F0 m 34 ls []) := by
    intro v0 x1 hf H locs ls hP hD hS hl
    unfold fc_X0_measureCommon_34 at hf
    refine lv_aload_n hx hb dX0_measureCommon_34 rfl (lv_at hl 0 rfl) ?_
    refine lv_iload_n hx hb dX0_measureCommon_35 rfl (lv_at hl 1 rfl) ?_
    refine lv_aload_n hx hb dX0_measureCommon_36 rfl (lv_at hl 0 rfl) ?_
    refine va_get (C := RX0) (T := TX0) (N := 5) hx hb hts i0 hown hK hP 0 rfl rfl 2 (Nat.le_of_ble_eq_true rfl) w0 (fun _ h9 => h9) rfl dX0_measureCommon_37 ?_
    refine lv_iload_n hx hb dX0_measureCommon_40 rfl (lv_at hl 1 rfl) ?_
    refine lv_isub hx hb dX0_measureCommon_41 ?_
    refine va_mmax hx hb (hml.trans hl.1.symm) hown w1 w2 w3 w4 (Nat.le_of_ble_eq_true rfl) (Nat.le_of_ble_eq_true rfl) (Nat.zero_le _) (Nat.zero_le _) dX0_measureCommon_42 ?_
    refine xnm hf (fun x_1 hf => ?_)
    refine xput (C := RX0) (T := TX0) (N := 5) (wx := [(a0, .inr (0, [.ref a1, .ref a2, .int v0.2.2.1, .int x_1, .int v0.2.2.2.2])), (a1, .inl (ca 0, 400, .inl v0.1)), (a2, .inl (ca 0, 256, .inl v0.2.1))]) hx hb hts i0 tyX0 tyX0_ok nmX0 hown hK hP hD hS 0 rfl rfl 3 (Nat.le_of_ble_eq_true rfl) w5 (fun _ h9 => h9) rfl rfl rfl rfl (Nat.le_of_ble_eq_true rfl) dX0_measureCommon_45 rfl (fun H locs hP hD hS => ?_)
    refine lv_aload_n hx hb dX0_measureCommon_48 rfl (lv_at hl 0 rfl) ?_
    refine lv_aload_n hx hb dX0_measureCommon_49 rfl (lv_at hl 0 rfl) ?_
    refine va_get (C := RX0) (T := TX0) (N := 5) hx hb hts i0 hown hK hP 0 rfl rfl 2 (Nat.le_of_ble_eq_true rfl) w0 (fun _ h9 => h9) rfl dX0_measureCommon_50 ?_
    refine xput (C := RX0) (T := TX0) (N := 5) (wx := [(a0, .inr (0, [.ref a1, .ref a2, .int v0.2.2.1, .int x_1, .int v0.2.2.1])), (a1, .inl (ca 0, 400, .inl v0.1)), (a2, .inl (ca 0, 256, .inl v0.2.1))]) hx hb hts i0 tyX0 tyX0_ok nmX0 hown hK hP hD hS 0 rfl rfl 4 (Nat.le_of_ble_eq_true rfl) w6 (fun _ h9 => h9) rfl rfl rfl rfl (Nat.le_of_ble_eq_true rfl) dX0_measureCommon_53 rfl (fun H locs hP hD hS => ?_)
    have he := Option.some.inj hf
    have e_v0 := he
    refine rt_V hx hb hr hlocks hK hP hD hS hQ ?_ dX0_measureCommon_56
    simp only [← e_v0]
  have bl4 : ∀ (k4 : V0 → Int32 → Int32 → Option (V0)) (q4 : ∀ (v0 : V0) (x1 : Int32) (x2 : Int32), k4 v0 x1 x2 = some v0' → ∀ (H : Heap) (locs : List Loc) (ls : Array Slot), va_P D vwCl [(a0, .inr (0, [.ref a1, .ref a2, .int v0.2.2.1, .int v0.2.2.2.1, .int v0.2.2.2.2])), (a1, .inl (ca 0, 400, .inl v0.1)), (a2, .inl (ca 0, 256, .inl v0.2.1))] H → va_D A [(a0, .inr (0, [.ref a1, .ref a2, .int v0.2.2.1, .int v0.2.2.2.1, .int v0.2.2.2.2])), (a1, .inl (ca 0, 400, .inl v0.1)), (a2, .inl (ca 0, 256, .inl v0.2.1))] → va_S A s.heap H locs → lv_has ls 3 [(0, .ref a0), (1, .int x1), (2, .int x2)] → W p l e ({ frames := 1, cells := 0, slots := 0, locals := 21 } : Room) s m args below meth c H locs 0 0 Q (F0 m 4 ls [])) (v0 : V0) (x1 : Int32) (x2 : Int32), fl_X0_measureCommon_4 k4 v0 x1 x2 = some v0' → ∀ (H : Heap) (locs : List Loc) (ls : Array Slot), va_P D vwCl [(a0, .inr (0, [.ref a1, .ref a2, .int v0.2.2.1, .int v0.2.2.2.1, .int v0.2.2.2.2])), (a1, .inl (ca 0, 400, .inl v0.1)), (a2, .inl (ca 0, 256, .inl v0.2.1))] H → va_D A [(a0, .inr (0, [.ref a1, .ref a2, .int v0.2.2.1, .int v0.2.2.2.1, .int v0.2.2.2.2])), (a1, .inl (ca 0, 400, .inl v0.1)), (a2, .inl (ca 0, 256, .inl v0.2.1))] → va_S A s.heap H locs → lv_has ls 3 [(0, .ref a0), (1, .int x1), (2, .int x2)] → W p l e ({ frames := 1, cells := 0, slots := 0, locals := 21 } : Room) s m args below meth c H locs 0 0 Q (F0 m 4 ls []) := by
    intro k4 q4 v0 x1 x2 hf H locs ls hP hD hS hl
    unfold fl_X0_measureCommon_4 at hf
    refine lv_iload_n hx hb dX0_measureCommon_4 rfl (lv_at hl 2 rfl) ?_
    refine lv_aload_n hx hb dX0_measureCommon_5 rfl (lv_at hl 0 rfl) ?_
    refine va_get (C := RX0) (T := TX0) (N := 5) hx hb hts i0 hown hK hP 0 rfl rfl 2 (Nat.le_of_ble_eq_true rfl) w0 (fun _ h9 => h9) rfl dX0_measureCommon_6 ?_
    refine xc_ge (tgt := 34) hx hb dX0_measureCommon_9 (by decide) hf (fun hf => ?_) (fun hf => ?_)
    · exact b34 v0 x1 hf _ _ _ hP hD hS (lv_sub hl [0, 1] rfl)
    · refine lv_iload_n hx hb dX0_measureCommon_12 rfl (lv_at hl 2 rfl) ?_
      refine lv_sipush (v := 400) hx hb dX0_measureCommon_13 rfl ?_
      refine xc_ge (tgt := 34) hx hb dX0_measureCommon_16 (by decide) hf (fun hf => ?_) (fun hf => ?_)
      · exact b34 v0 x1 hf _ _ _ hP hD hS (lv_sub hl [0, 1] rfl)
      · refine lv_iload_n hx hb dX0_measureCommon_19 rfl (lv_at hl 1 rfl) ?_
        refine lv_aload_n hx hb dX0_measureCommon_20 rfl (lv_at hl 0 rfl) ?_
        refine va_get (C := RX0) (T := TX0) (N := 5) hx hb hts i0 hown hK hP 0 rfl rfl 0 (Nat.le_of_ble_eq_true rfl) w7 (fun _ h9 => h9) rfl dX0_measureCommon_21 ?_
        refine lv_iload_n hx hb dX0_measureCommon_24 rfl (lv_at hl 2 rfl) ?_
        refine xiald hx hb hK hP 1 rfl hf dX0_measureCommon_25 (fun hf => ?_)
        refine lv_iadd hx hb dX0_measureCommon_26 ?_
        refine xnm hf (fun x_2 hf => ?_)
        refine lv_istore_n (lv' := [(1, .int x_2), (0, .ref a0), (2, .int x2)]) hx hb dX0_measureCommon_27 rfl hl (Nat.le_of_ble_eq_true rfl) rfl (fun ls hl => ?_)
        obtain ⟨x_3, ex_3, hf⟩ := bnd_el hf
        refine lv_iinc (v := x_3) (lv' := [(2, .int x_3), (1, .int x_2), (0, .ref a0)]) hx hb dX0_measureCommon_28 hl (k := 2) rfl (by rw [ex_3]; rfl) (Nat.le_of_ble_eq_true rfl) rfl (fun ls hl => ?_)
        refine lv_goto (tgt := 4) hx hb dX0_measureCommon_31 (by decide) ?_
        exact q4 v0 x_2 x_3 hf _ _ _ hP hD hS (lv_sub hl [2, 1, 0] rfl)
  have b4 : ∀ (n : Nat) (v0 : V0) (x1 : Int32) (x2 : Int32), fb_X0_measureCommon_4 n v0 x1 x2 = some v0' → ∀ (H : Heap) (locs : List Loc) (ls : Array Slot), va_P D vwCl [(a0, .inr (0, [.ref a1, .ref a2, .int v0.2.2.1, .int v0.2.2.2.1, .int v0.2.2.2.2])), (a1, .inl (ca 0, 400, .inl v0.1)), (a2, .inl (ca 0, 256, .inl v0.2.1))] H → va_D A [(a0, .inr (0, [.ref a1, .ref a2, .int v0.2.2.1, .int v0.2.2.2.1, .int v0.2.2.2.2])), (a1, .inl (ca 0, 400, .inl v0.1)), (a2, .inl (ca 0, 256, .inl v0.2.1))] → va_S A s.heap H locs → lv_has ls 3 [(0, .ref a0), (1, .int x1), (2, .int x2)] → W p l e ({ frames := 1, cells := 0, slots := 0, locals := 21 } : Room) s m args below meth c H locs 0 0 Q (F0 m 4 ls []) := by
    intro n
    induction n with
    | zero => intro v0 x1 x2 hf; exact no_el hf
    | succ n ih => exact bl4 (fb_X0_measureCommon_4 n) ih
  unfold f_X0_measureCommon at hf
  refine lv_iconst (v := 0) hx hb dX0_measureCommon_0 rfl ?_
  refine lv_istore_n (lv' := [(1, .int (0 : Int32)), (0, .ref a0)]) hx hb dX0_measureCommon_1 rfl hl (Nat.le_of_ble_eq_true rfl) rfl (fun ls hl => ?_)
  refine lv_iconst (v := 0) hx hb dX0_measureCommon_2 rfl ?_
  refine lv_istore_n (lv' := [(2, .int (0 : Int32)), (1, .int (0 : Int32)), (0, .ref a0)]) hx hb dX0_measureCommon_3 rfl hl (Nat.le_of_ble_eq_true rfl) rfl (fun ls hl => ?_)
  exact b4 FU v0 (0 : Int32) (0 : Int32) hf _ _ _ hP hD hS (lv_sub hl [2, 1, 0] rfl)
abbrev wq_X0_measureCollision : List Cond := Cond.code yX0_measureCollision cX0_measureCollision 3 none :: GL
set_option maxHeartbeats 4000000 in
set_option maxRecDepth 100000 in
theorem c_X0_measureCollision (l : Launch) (D : va_G) (ca : Nat → ClassId) (zz : Nat → Nat) (a0 a1 a2 : Nat) (sz : Nat) (v0 : V0) (v0' : V0) (hf : f_X0_measureCollision v0 = some v0') : Met l yX0_measureCollision wq_X0_measureCollision ({ frames := 0, cells := 0, slots := 0, locals := 0 } : Room) (PR D ca zz [.ref a0] sz [(a0, .inr (0, [.ref a1, .ref a2, .int v0.2.2.1, .int v0.2.2.2.1, .int v0.2.2.2.2])), (a1, .inl (ca 0, 400, .inl v0.1)), (a2, .inl (ca 0, 256, .inl v0.2.1))]) (QV D ca [(a0, .inr (0, [.ref a1, .ref a2, .int v0'.2.2.1, .int v0'.2.2.2.1, .int v0'.2.2.2.2])), (a1, .inl (ca 0, 400, .inl v0'.1)), (a2, .inl (ca 0, 256, .inl v0'.2.1))] (va_A [(a0, .inr (0, [.ref a1, .ref a2, .int v0.2.2.1, .int v0.2.2.2.1, .int v0.2.2.2.2])), (a1, .inl (ca 0, 400, .inl v0.1)), (a2, .inl (ca 0, 256, .inl v0.2.1))] sz)) 0 0 (va_A [(a0, .inr (0, [.ref a1, .ref a2, .int v0.2.2.1, .int v0.2.2.2.1, .int v0.2.2.2.2])), (a1, .inl (ca 0, 400, .inl v0.1)), (a2, .inl (ca 0, 256, .inl v0.2.1))] sz) := by
  refine en (y := yX0_measureCollision) (wsm := wq_X0_measureCollision) (av := [.ref a0]) (cc := cX0_measureCollision) (maxL := 3) (ret := none) (Qf := fun A => (QV D ca [(a0, .inr (0, [.ref a1, .ref a2, .int v0'.2.2.1, .int v0'.2.2.2.1, .int v0'.2.2.2.2])), (a1, .inl (ca 0, 400, .inl v0'.1)), (a2, .inl (ca 0, 256, .inl v0'.2.1))] A)) (by decide) rfl (Nat.le_of_ble_eq_true rfl) ?_
  intro p e s m args below meth c A Q ls hx hb hr hml hown hts hlocks hnm hA hN hZ hK hQ hP hD hS hl
  have w0 := hts _ (List.mem_cons_of_mem _ gw_2_168)
  have w1 := hts _ (List.mem_cons_of_mem _ gw_2_170)
  have w2 := hts _ (List.mem_cons_of_mem _ gw_2_167)
  have w3 := hts _ (List.mem_cons_of_mem _ gw_2_165)
  have i0 : ∀ w ∈ u_ws RX0 TX0 5, w ∈ wq_X0_measureCollision := fun w h => List.mem_cons_of_mem _ (inX0 w h)
  have b53 : ∀ (k12 : V0 → Int32 → Option (V0)) (q12 : ∀ (v0 : V0) (x1 : Int32), k12 v0 x1 = some v0' → ∀ (H : Heap) (locs : List Loc) (ls : Array Slot), va_P D vwCl [(a0, .inr (0, [.ref a1, .ref a2, .int v0.2.2.1, .int v0.2.2.2.1, .int v0.2.2.2.2])), (a1, .inl (ca 0, 400, .inl v0.1)), (a2, .inl (ca 0, 256, .inl v0.2.1))] H → va_D A [(a0, .inr (0, [.ref a1, .ref a2, .int v0.2.2.1, .int v0.2.2.2.1, .int v0.2.2.2.2])), (a1, .inl (ca 0, 400, .inl v0.1)), (a2, .inl (ca 0, 256, .inl v0.2.1))] → va_S A s.heap H locs → lv_has ls 3 [(0, .ref a0), (1, .int x1)] → W p l e ({ frames := 0, cells := 0, slots := 0, locals := 0 } : Room) s m args below meth c H locs 0 0 Q (F0 m 12 ls [])) (v0 : V0) (x1 : Int32) (t0 : Int32), fc_X0_measureCollision_53 k12 v0 x1 t0 = some v0' → ∀ (H : Heap) (locs : List Loc) (ls : Array Slot), va_P D vwCl [(a0, .inr (0, [.ref a1, .ref a2, .int v0.2.2.1, .int v0.2.2.2.1, .int v0.2.2.2.2])), (a1, .inl (ca 0, 400, .inl v0.1)), (a2, .inl (ca 0, 256, .inl v0.2.1))] H → va_D A [(a0, .inr (0, [.ref a1, .ref a2, .int v0.2.2.1, .int v0.2.2.2.1, .int v0.2.2.2.2])), (a1, .inl (ca 0, 400, .inl v0.1)), (a2, .inl (ca 0, 256, .inl v0.2.1))] → va_S A s.heap H locs → lv_has ls 3 [(0, .ref a0), (1, .int x1)] → W p l e ({ frames := 0, cells := 0, slots := 0, locals := 0 } : Room) s m args below meth c H locs 0 0 Q (F0 m 53 ls [.int t0]) := by
    intro k12 q12 v0 x1 t0 hf H locs ls hP hD hS hl
    unfold fc_X0_measureCollision_53 at hf
    refine lv_istore_n (lv' := [(2, .int t0), (0, .ref a0), (1, .int x1)]) hx hb dX0_measureCollision_53 rfl hl (Nat.le_of_ble_eq_true rfl) rfl (fun ls hl => ?_)
    refine lv_iload_n hx hb dX0_measureCollision_54 rfl (lv_at hl 2 rfl) ?_
    refine lv_iload_n hx hb dX0_measureCollision_55 rfl (lv_at hl 0 rfl) ?_
    refine lv_iadd hx hb dX0_measureCollision_56 ?_
    refine xnm hf (fun x_1 hf => ?_)
    refine lv_istore_n (lv' := [(1, .int x_1), (2, .int t0), (0, .ref a0)]) hx hb dX0_measureCollision_57 rfl hl (Nat.le_of_ble_eq_true rfl) rfl (fun ls hl => ?_)
    refine lv_iload_n hx hb dX0_measureCollision_58 rfl (lv_at hl 0 rfl) ?_
    refine lv_aload_n hx hb dX0_measureCollision_59 rfl (lv_at hl 2 rfl) ?_
    refine va_get (C := RX0) (T := TX0) (N := 5) hx hb hts i0 hown hK hP 0 rfl rfl 2 (Nat.le_of_ble_eq_true rfl) w2 (fun _ h9 => h9) rfl dX0_measureCollision_60 ?_
    refine xc_gt (tgt := 86) hx hb dX0_measureCollision_63 (by decide) hf (fun hf => ?_) (fun hf => ?_)
    · refine lv_goto (tgt := 12) hx hb dX0_measureCollision_86 (by decide) ?_
      exact q12 v0 x_1 hf _ _ _ hP hD hS (lv_sub hl [2, 0] rfl)
    · refine lv_aload_n hx hb dX0_measureCollision_66 rfl (lv_at hl 2 rfl) ?_
      refine lv_dup hx hb dX0_measureCollision_67 rfl ?_
      refine va_get (C := RX0) (T := TX0) (N := 5) hx hb hts i0 hown hK hP 0 rfl rfl 3 (Nat.le_of_ble_eq_true rfl) w0 (fun _ h9 => h9) rfl dX0_measureCollision_68 ?_
      refine lv_iload_n hx hb dX0_measureCollision_71 rfl (lv_at hl 1 rfl) ?_
      refine lv_iadd hx hb dX0_measureCollision_72 ?_
      refine xnm hf (fun x_2 hf => ?_)
      refine xput (C := RX0) (T := TX0) (N := 5) (wx := [(a0, .inr (0, [.ref a1, .ref a2, .int v0.2.2.1, .int x_2, .int v0.2.2.2.2])), (a1, .inl (ca 0, 400, .inl v0.1)), (a2, .inl (ca 0, 256, .inl v0.2.1))]) hx hb hts i0 tyX0 tyX0_ok nmX0 hown hK hP hD hS 0 rfl rfl 3 (Nat.le_of_ble_eq_true rfl) w0 (fun _ h9 => h9) rfl rfl rfl rfl (Nat.le_of_ble_eq_true rfl) dX0_measureCollision_73 rfl (fun H locs hP hD hS => ?_)
      refine lv_aload_n hx hb dX0_measureCollision_76 rfl (lv_at hl 2 rfl) ?_
      refine lv_dup hx hb dX0_measureCollision_77 rfl ?_
      refine va_get (C := RX0) (T := TX0) (N := 5) hx hb hts i0 hown hK hP 0 rfl rfl 4 (Nat.le_of_ble_eq_true rfl) w1 (fun _ h9 => h9) rfl dX0_measureCollision_78 ?_
      refine lv_iconst (v := 1) hx hb dX0_measureCollision_81 rfl ?_
      refine lv_iadd hx hb dX0_measureCollision_82 ?_
      refine xnm hf (fun x_3 hf => ?_)
      refine xput (C := RX0) (T := TX0) (N := 5) (wx := [(a0, .inr (0, [.ref a1, .ref a2, .int v0.2.2.1, .int x_2, .int x_3])), (a1, .inl (ca 0, 400, .inl v0.1)), (a2, .inl (ca 0, 256, .inl v0.2.1))]) hx hb hts i0 tyX0 tyX0_ok nmX0 hown hK hP hD hS 0 rfl rfl 4 (Nat.le_of_ble_eq_true rfl) w1 (fun _ h9 => h9) rfl rfl rfl rfl (Nat.le_of_ble_eq_true rfl) dX0_measureCollision_83 rfl (fun H locs hP hD hS => ?_)
      refine lv_goto (tgt := 12) hx hb dX0_measureCollision_86 (by decide) ?_
      have jb := q12 ((v0.1, v0.2.1, v0.2.2.1, x_2, x_3)) x_1
      dsimp only at jb
      exact jb hf _ _ _ hP hD hS (lv_sub hl [2, 0] rfl)
  have bl12 : ∀ (k12 : V0 → Int32 → Option (V0)) (q12 : ∀ (v0 : V0) (x1 : Int32), k12 v0 x1 = some v0' → ∀ (H : Heap) (locs : List Loc) (ls : Array Slot), va_P D vwCl [(a0, .inr (0, [.ref a1, .ref a2, .int v0.2.2.1, .int v0.2.2.2.1, .int v0.2.2.2.2])), (a1, .inl (ca 0, 400, .inl v0.1)), (a2, .inl (ca 0, 256, .inl v0.2.1))] H → va_D A [(a0, .inr (0, [.ref a1, .ref a2, .int v0.2.2.1, .int v0.2.2.2.1, .int v0.2.2.2.2])), (a1, .inl (ca 0, 400, .inl v0.1)), (a2, .inl (ca 0, 256, .inl v0.2.1))] → va_S A s.heap H locs → lv_has ls 3 [(0, .ref a0), (1, .int x1)] → W p l e ({ frames := 0, cells := 0, slots := 0, locals := 0 } : Room) s m args below meth c H locs 0 0 Q (F0 m 12 ls [])) (v0 : V0) (x1 : Int32), fl_X0_measureCollision_12 k12 v0 x1 = some v0' → ∀ (H : Heap) (locs : List Loc) (ls : Array Slot), va_P D vwCl [(a0, .inr (0, [.ref a1, .ref a2, .int v0.2.2.1, .int v0.2.2.2.1, .int v0.2.2.2.2])), (a1, .inl (ca 0, 400, .inl v0.1)), (a2, .inl (ca 0, 256, .inl v0.2.1))] H → va_D A [(a0, .inr (0, [.ref a1, .ref a2, .int v0.2.2.1, .int v0.2.2.2.1, .int v0.2.2.2.2])), (a1, .inl (ca 0, 400, .inl v0.1)), (a2, .inl (ca 0, 256, .inl v0.2.1))] → va_S A s.heap H locs → lv_has ls 3 [(0, .ref a0), (1, .int x1)] → W p l e ({ frames := 0, cells := 0, slots := 0, locals := 0 } : Room) s m args below meth c H locs 0 0 Q (F0 m 12 ls []) := by
    intro k12 q12 v0 x1 hf H locs ls hP hD hS hl
    unfold fl_X0_measureCollision_12 at hf
    refine lv_iload_n hx hb dX0_measureCollision_12 rfl (lv_at hl 1 rfl) ?_
    refine lv_iconst (v := 1) hx hb dX0_measureCollision_13 rfl ?_
    refine lv_iadd hx hb dX0_measureCollision_14 ?_
    refine lv_aload_n hx hb dX0_measureCollision_15 rfl (lv_at hl 0 rfl) ?_
    refine va_get (C := RX0) (T := TX0) (N := 5) hx hb hts i0 hown hK hP 0 rfl rfl 2 (Nat.le_of_ble_eq_true rfl) w2 (fun _ h9 => h9) rfl dX0_measureCollision_16 ?_
    refine xc_ge (tgt := 89) hx hb dX0_measureCollision_19 (by decide) hf (fun hf => ?_) (fun hf => ?_)
    · have he := Option.some.inj hf
      have e_v0 := he
      refine rt_V hx hb hr hlocks hK hP hD hS hQ ?_ dX0_measureCollision_89
      simp only [← e_v0]
    · refine lv_iload_n hx hb dX0_measureCollision_22 rfl (lv_at hl 1 rfl) ?_
      refine lv_iconst (v := 1) hx hb dX0_measureCollision_23 rfl ?_
      refine lv_iadd hx hb dX0_measureCollision_24 ?_
      refine lv_sipush (v := 400) hx hb dX0_measureCollision_25 rfl ?_
      refine xc_ge (tgt := 89) hx hb dX0_measureCollision_28 (by decide) hf (fun hf => ?_) (fun hf => ?_)
      · have he := Option.some.inj hf
        have e_v0 := he
        refine rt_V hx hb hr hlocks hK hP hD hS hQ ?_ dX0_measureCollision_89
        simp only [← e_v0]
      · refine lv_aload_n hx hb dX0_measureCollision_31 rfl (lv_at hl 0 rfl) ?_
        refine va_get (C := RX0) (T := TX0) (N := 5) hx hb hts i0 hown hK hP 0 rfl rfl 0 (Nat.le_of_ble_eq_true rfl) w3 (fun _ h9 => h9) rfl dX0_measureCollision_32 ?_
        refine lv_iload_n hx hb dX0_measureCollision_35 rfl (lv_at hl 1 rfl) ?_
        refine xiald hx hb hK hP 1 rfl hf dX0_measureCollision_36 (fun hf => ?_)
        refine lv_aload_n hx hb dX0_measureCollision_37 rfl (lv_at hl 0 rfl) ?_
        refine va_get (C := RX0) (T := TX0) (N := 5) hx hb hts i0 hown hK hP 0 rfl rfl 0 (Nat.le_of_ble_eq_true rfl) w3 (fun _ h9 => h9) rfl dX0_measureCollision_38 ?_
        refine lv_iload_n hx hb dX0_measureCollision_41 rfl (lv_at hl 1 rfl) ?_
        refine lv_iconst (v := 1) hx hb dX0_measureCollision_42 rfl ?_
        refine lv_iadd hx hb dX0_measureCollision_43 ?_
        refine xiald hx hb hK hP 1 rfl hf dX0_measureCollision_44 (fun hf => ?_)
        refine xc_ne (tgt := 52) hx hb dX0_measureCollision_45 (by decide) hf (fun hf => ?_) (fun hf => ?_)
        · refine lv_iconst (v := 3) hx hb dX0_measureCollision_52 rfl ?_
          exact b53 k12 q12 v0 x1 (3 : Int32) hf _ _ _ hP hD hS (lv_sub hl [0, 1] rfl)
        · refine lv_iconst (v := 2) hx hb dX0_measureCollision_48 rfl ?_
          refine lv_goto (tgt := 53) hx hb dX0_measureCollision_49 (by decide) ?_
          exact b53 k12 q12 v0 x1 (2 : Int32) hf _ _ _ hP hD hS (lv_sub hl [0, 1] rfl)
  have b12 : ∀ (n : Nat) (v0 : V0) (x1 : Int32), fb_X0_measureCollision_12 n v0 x1 = some v0' → ∀ (H : Heap) (locs : List Loc) (ls : Array Slot), va_P D vwCl [(a0, .inr (0, [.ref a1, .ref a2, .int v0.2.2.1, .int v0.2.2.2.1, .int v0.2.2.2.2])), (a1, .inl (ca 0, 400, .inl v0.1)), (a2, .inl (ca 0, 256, .inl v0.2.1))] H → va_D A [(a0, .inr (0, [.ref a1, .ref a2, .int v0.2.2.1, .int v0.2.2.2.1, .int v0.2.2.2.2])), (a1, .inl (ca 0, 400, .inl v0.1)), (a2, .inl (ca 0, 256, .inl v0.2.1))] → va_S A s.heap H locs → lv_has ls 3 [(0, .ref a0), (1, .int x1)] → W p l e ({ frames := 0, cells := 0, slots := 0, locals := 0 } : Room) s m args below meth c H locs 0 0 Q (F0 m 12 ls []) := by
    intro n
    induction n with
    | zero => intro v0 x1 hf; exact no_el hf
    | succ n ih => exact bl12 (fb_X0_measureCollision_12 n) ih
  unfold f_X0_measureCollision at hf
  refine lv_aload_n hx hb dX0_measureCollision_0 rfl (lv_at hl 0 rfl) ?_
  refine lv_iconst (v := 0) hx hb dX0_measureCollision_1 rfl ?_
  refine xput (C := RX0) (T := TX0) (N := 5) (wx := [(a0, .inr (0, [.ref a1, .ref a2, .int v0.2.2.1, .int (0 : Int32), .int v0.2.2.2.2])), (a1, .inl (ca 0, 400, .inl v0.1)), (a2, .inl (ca 0, 256, .inl v0.2.1))]) hx hb hts i0 tyX0 tyX0_ok nmX0 hown hK hP hD hS 0 rfl rfl 3 (Nat.le_of_ble_eq_true rfl) w0 (fun _ h9 => h9) rfl rfl rfl rfl (Nat.le_of_ble_eq_true rfl) dX0_measureCollision_2 rfl (fun H locs hP hD hS => ?_)
  refine lv_aload_n hx hb dX0_measureCollision_5 rfl (lv_at hl 0 rfl) ?_
  refine lv_iconst (v := 0) hx hb dX0_measureCollision_6 rfl ?_
  refine xput (C := RX0) (T := TX0) (N := 5) (wx := [(a0, .inr (0, [.ref a1, .ref a2, .int v0.2.2.1, .int (0 : Int32), .int (0 : Int32)])), (a1, .inl (ca 0, 400, .inl v0.1)), (a2, .inl (ca 0, 256, .inl v0.2.1))]) hx hb hts i0 tyX0 tyX0_ok nmX0 hown hK hP hD hS 0 rfl rfl 4 (Nat.le_of_ble_eq_true rfl) w1 (fun _ h9 => h9) rfl rfl rfl rfl (Nat.le_of_ble_eq_true rfl) dX0_measureCollision_7 rfl (fun H locs hP hD hS => ?_)
  refine lv_iconst (v := 0) hx hb dX0_measureCollision_10 rfl ?_
  refine lv_istore_n (lv' := [(1, .int (0 : Int32)), (0, .ref a0)]) hx hb dX0_measureCollision_11 rfl hl (Nat.le_of_ble_eq_true rfl) rfl (fun ls hl => ?_)
  have jb := b12 FU ((v0.1, v0.2.1, v0.2.2.1, (0 : Int32), (0 : Int32))) (0 : Int32)
  dsimp only at jb
  exact jb hf _ _ _ hP hD hS (lv_sub hl [1, 0] rfl)
abbrev wq_X0_measureFollow : List Cond := Cond.code yX0_measureFollow cX0_measureFollow 6 none :: GL
set_option maxHeartbeats 4000000 in
set_option maxRecDepth 100000 in
theorem c_X0_measureFollow (l : Launch) (D : va_G) (ca : Nat → ClassId) (zz : Nat → Nat) (a0 a1 a2 : Nat) (sz : Nat) (v0 : V0) (v0' : V0) (hf : f_X0_measureFollow v0 = some v0') : Met l yX0_measureFollow wq_X0_measureFollow ({ frames := 1, cells := 0, slots := 0, locals := 21 } : Room) (PR D ca zz [.ref a0] sz [(a0, .inr (0, [.ref a1, .ref a2, .int v0.2.2.1, .int v0.2.2.2.1, .int v0.2.2.2.2])), (a1, .inl (ca 0, 400, .inl v0.1)), (a2, .inl (ca 0, 256, .inl v0.2.1))]) (QV D ca [(a0, .inr (0, [.ref a1, .ref a2, .int v0'.2.2.1, .int v0'.2.2.2.1, .int v0'.2.2.2.2])), (a1, .inl (ca 0, 400, .inl v0'.1)), (a2, .inl (ca 0, 256, .inl v0'.2.1))] (va_A [(a0, .inr (0, [.ref a1, .ref a2, .int v0.2.2.1, .int v0.2.2.2.1, .int v0.2.2.2.2])), (a1, .inl (ca 0, 400, .inl v0.1)), (a2, .inl (ca 0, 256, .inl v0.2.1))] sz)) 0 0 (va_A [(a0, .inr (0, [.ref a1, .ref a2, .int v0.2.2.1, .int v0.2.2.2.1, .int v0.2.2.2.2])), (a1, .inl (ca 0, 400, .inl v0.1)), (a2, .inl (ca 0, 256, .inl v0.2.1))] sz) := by
  refine en (y := yX0_measureFollow) (wsm := wq_X0_measureFollow) (av := [.ref a0]) (cc := cX0_measureFollow) (maxL := 6) (ret := none) (Qf := fun A => (QV D ca [(a0, .inr (0, [.ref a1, .ref a2, .int v0'.2.2.1, .int v0'.2.2.2.1, .int v0'.2.2.2.2])), (a1, .inl (ca 0, 400, .inl v0'.1)), (a2, .inl (ca 0, 256, .inl v0'.2.1))] A)) (by decide) rfl (Nat.le_of_ble_eq_true rfl) ?_
  intro p e s m args below meth c A Q ls hx hb hr hml hown hts hlocks hnm hA hN hZ hK hQ hP hD hS hl
  have w0 := hts _ (List.mem_cons_of_mem _ gw_2_167)
  have w1 := hts _ (List.mem_cons_of_mem _ gw_4_66)
  have w2 := hts _ (List.mem_cons_of_mem _ gw_2_33)
  have w3 := hts _ (List.mem_cons_of_mem _ gw_1_11)
  have w4 := hts _ (List.mem_cons_of_mem _ gw_2_34)
  have w5 := hts _ (List.mem_cons_of_mem _ gw_2_168)
  have w6 := hts _ (List.mem_cons_of_mem _ gw_2_170)
  have w7 := hts _ (List.mem_cons_of_mem _ gw_2_165)
  have i0 : ∀ w ∈ u_ws RX0 TX0 5, w ∈ wq_X0_measureFollow := fun w h => List.mem_cons_of_mem _ (inX0 w h)
  have b77 : ∀ (v0 : V0) (x1 : Int32) (x2 : Int32) (x3 : Int32), fc_X0_measureFollow_77 v0 x1 x2 x3 = some v0' → ∀ (H : Heap) (locs : List Loc) (ls : Array Slot), va_P D vwCl [(a0, .inr (0, [.ref a1, .ref a2, .int v0.2.2.1, .int v0.2.2.2.1, .int v0.2.2.2.2])), (a1, .inl (ca 0, 400, .inl v0.1)), (a2, .inl (ca 0, 256, .inl v0.2.1))] H → va_D A [(a0, .inr (0, [.ref a1, .ref a2, .int v0.2.2.1, .int v0.2.2.2.1, .int v0.2.2.2.2])), (a1, .inl (ca 0, 400, .inl v0.1)), (a2, .inl (ca 0, 256, .inl v0.2.1))] → va_S A s.heap H locs → lv_has ls 6 [(0, .ref a0), (1, .int x1), (2, .int x2), (3, .int x3)] → W p l e ({ frames := 1, cells := 0, slots := 0, locals := 21 } : Room) s m args below meth c H locs 0 0 Q (F0 m 77 ls []) := by
    intro v0 x1 x2 x3 hf H locs ls hP hD hS hl
    unfold fc_X0_measureFollow_77 at hf
    refine lv_aload_n hx hb dX0_measureFollow_77 rfl (lv_at hl 0 rfl) ?_
    refine va_get (C := RX0) (T := TX0) (N := 5) hx hb hts i0 hown hK hP 0 rfl rfl 2 (Nat.le_of_ble_eq_true rfl) w0 (fun _ h9 => h9) rfl dX0_measureFollow_78 ?_
    refine lv_iconst (v := 1) hx hb dX0_measureFollow_81 rfl ?_
    refine lv_isub hx hb dX0_measureFollow_82 ?_
    refine lv_iload_n hx hb dX0_measureFollow_83 rfl (lv_at hl 1 rfl) ?_
    refine lv_isub hx hb dX0_measureFollow_84 ?_
    refine xnm hf (fun x_1 hf => ?_)
    refine lv_istore (lv' := [(4, .int x_1), (0, .ref a0), (1, .int x1), (2, .int x2), (3, .int x3)]) hx hb dX0_measureFollow_85 hl (Nat.le_of_ble_eq_true rfl) rfl (fun ls hl => ?_)
    refine lv_iload_n hx hb dX0_measureFollow_87 rfl (lv_at hl 3 rfl) ?_
    refine lv_iload_n hx hb dX0_measureFollow_88 rfl (lv_at hl 2 rfl) ?_
    refine lv_iload_n hx hb dX0_measureFollow_89 rfl (lv_at hl 3 rfl) ?_
    refine lv_isub hx hb dX0_measureFollow_90 ?_
    refine va_mmax hx hb (hml.trans hl.1.symm) hown w1 w2 w3 w4 (Nat.le_of_ble_eq_true rfl) (Nat.le_of_ble_eq_true rfl) (Nat.zero_le _) (Nat.zero_le _) dX0_measureFollow_91 ?_
    refine xnm hf (fun x_2 hf => ?_)
    refine lv_istore (lv' := [(5, .int x_2), (4, .int x_1), (0, .ref a0), (1, .int x1), (2, .int x2), (3, .int x3)]) hx hb dX0_measureFollow_94 hl (Nat.le_of_ble_eq_true rfl) rfl (fun ls hl => ?_)
    refine lv_aload_n hx hb dX0_measureFollow_96 rfl (lv_at hl 2 rfl) ?_
    refine lv_iload_n hx hb dX0_measureFollow_97 rfl (lv_at hl 5 rfl) ?_
    refine lv_iload hx hb dX0_measureFollow_98 (lv_at hl 1 rfl) ?_
    refine lv_iload_n hx hb dX0_measureFollow_100 rfl (lv_at hl 5 rfl) ?_
    refine lv_isub hx hb dX0_measureFollow_101 ?_
    refine va_mmax hx hb (hml.trans hl.1.symm) hown w1 w2 w3 w4 (Nat.le_of_ble_eq_true rfl) (Nat.le_of_ble_eq_true rfl) (Nat.zero_le _) (Nat.zero_le _) dX0_measureFollow_102 ?_
    refine xnm hf (fun x_3 hf => ?_)
    refine xput (C := RX0) (T := TX0) (N := 5) (wx := [(a0, .inr (0, [.ref a1, .ref a2, .int v0.2.2.1, .int x_3, .int v0.2.2.2.2])), (a1, .inl (ca 0, 400, .inl v0.1)), (a2, .inl (ca 0, 256, .inl v0.2.1))]) hx hb hts i0 tyX0 tyX0_ok nmX0 hown hK hP hD hS 0 rfl rfl 3 (Nat.le_of_ble_eq_true rfl) w5 (fun _ h9 => h9) rfl rfl rfl rfl (Nat.le_of_ble_eq_true rfl) dX0_measureFollow_105 rfl (fun H locs hP hD hS => ?_)
    refine lv_aload_n hx hb dX0_measureFollow_108 rfl (lv_at hl 2 rfl) ?_
    refine lv_iload hx hb dX0_measureFollow_109 (lv_at hl 1 rfl) ?_
    refine xput (C := RX0) (T := TX0) (N := 5) (wx := [(a0, .inr (0, [.ref a1, .ref a2, .int v0.2.2.1, .int x_3, .int x_1])), (a1, .inl (ca 0, 400, .inl v0.1)), (a2, .inl (ca 0, 256, .inl v0.2.1))]) hx hb hts i0 tyX0 tyX0_ok nmX0 hown hK hP hD hS 0 rfl rfl 4 (Nat.le_of_ble_eq_true rfl) w6 (fun _ h9 => h9) rfl rfl rfl rfl (Nat.le_of_ble_eq_true rfl) dX0_measureFollow_111 rfl (fun H locs hP hD hS => ?_)
    refine lv_iload hx hb dX0_measureFollow_114 (lv_at hl 1 rfl) ?_
    refine xi_eq (tgt := 133) hx hb dX0_measureFollow_116 (by decide) hf (fun hf => ?_) (fun hf => ?_)
    · refine lv_aload_n hx hb dX0_measureFollow_133 rfl (lv_at hl 2 rfl) ?_
      refine lv_iload hx hb dX0_measureFollow_134 (lv_at hl 0 rfl) ?_
      refine xput (C := RX0) (T := TX0) (N := 5) (wx := [(a0, .inr (0, [.ref a1, .ref a2, .int v0.2.2.1, .int x_2, .int x_1])), (a1, .inl (ca 0, 400, .inl v0.1)), (a2, .inl (ca 0, 256, .inl v0.2.1))]) hx hb hts i0 tyX0 tyX0_ok nmX0 hown hK hP hD hS 0 rfl rfl 3 (Nat.le_of_ble_eq_true rfl) w5 (fun _ h9 => h9) rfl rfl rfl rfl (Nat.le_of_ble_eq_true rfl) dX0_measureFollow_136 rfl (fun H locs hP hD hS => ?_)
      refine lv_aload_n hx hb dX0_measureFollow_139 rfl (lv_at hl 2 rfl) ?_
      refine lv_iload_n hx hb dX0_measureFollow_140 rfl (lv_at hl 3 rfl) ?_
      refine xput (C := RX0) (T := TX0) (N := 5) (wx := [(a0, .inr (0, [.ref a1, .ref a2, .int v0.2.2.1, .int x_2, .int x1])), (a1, .inl (ca 0, 400, .inl v0.1)), (a2, .inl (ca 0, 256, .inl v0.2.1))]) hx hb hts i0 tyX0 tyX0_ok nmX0 hown hK hP hD hS 0 rfl rfl 4 (Nat.le_of_ble_eq_true rfl) w6 (fun _ h9 => h9) rfl rfl rfl rfl (Nat.le_of_ble_eq_true rfl) dX0_measureFollow_141 rfl (fun H locs hP hD hS => ?_)
      have he := Option.some.inj hf
      have e_v0 := he
      refine rt_V hx hb hr hlocks hK hP hD hS hQ ?_ dX0_measureFollow_144
      simp only [← e_v0]
    · refine lv_iload hx hb dX0_measureFollow_119 (lv_at hl 0 rfl) ?_
      refine lv_iload hx hb dX0_measureFollow_121 (lv_at hl 1 rfl) ?_
      refine lv_imul hx hb dX0_measureFollow_123 ?_
      refine lv_aload_n hx hb dX0_measureFollow_124 rfl (lv_at hl 2 rfl) ?_
      refine va_get (C := RX0) (T := TX0) (N := 5) hx hb hts i0 hown hK hP 0 rfl rfl 3 (Nat.le_of_ble_eq_true rfl) w5 (fun _ h9 => h9) rfl dX0_measureFollow_125 ?_
      refine lv_iload_n hx hb dX0_measureFollow_128 rfl (lv_at hl 3 rfl) ?_
      refine lv_imul hx hb dX0_measureFollow_129 ?_
      refine xc_le (tgt := 144) hx hb dX0_measureFollow_130 (by decide) hf (fun hf => ?_) (fun hf => ?_)
      · have he := Option.some.inj hf
        have e_v0 := he
        refine rt_V hx hb hr hlocks hK hP hD hS hQ ?_ dX0_measureFollow_144
        simp only [← e_v0]
      · refine lv_aload_n hx hb dX0_measureFollow_133 rfl (lv_at hl 2 rfl) ?_
        refine lv_iload hx hb dX0_measureFollow_134 (lv_at hl 0 rfl) ?_
        refine xput (C := RX0) (T := TX0) (N := 5) (wx := [(a0, .inr (0, [.ref a1, .ref a2, .int v0.2.2.1, .int x_2, .int x_1])), (a1, .inl (ca 0, 400, .inl v0.1)), (a2, .inl (ca 0, 256, .inl v0.2.1))]) hx hb hts i0 tyX0 tyX0_ok nmX0 hown hK hP hD hS 0 rfl rfl 3 (Nat.le_of_ble_eq_true rfl) w5 (fun _ h9 => h9) rfl rfl rfl rfl (Nat.le_of_ble_eq_true rfl) dX0_measureFollow_136 rfl (fun H locs hP hD hS => ?_)
        refine lv_aload_n hx hb dX0_measureFollow_139 rfl (lv_at hl 2 rfl) ?_
        refine lv_iload_n hx hb dX0_measureFollow_140 rfl (lv_at hl 3 rfl) ?_
        refine xput (C := RX0) (T := TX0) (N := 5) (wx := [(a0, .inr (0, [.ref a1, .ref a2, .int v0.2.2.1, .int x_2, .int x1])), (a1, .inl (ca 0, 400, .inl v0.1)), (a2, .inl (ca 0, 256, .inl v0.2.1))]) hx hb hts i0 tyX0 tyX0_ok nmX0 hown hK hP hD hS 0 rfl rfl 4 (Nat.le_of_ble_eq_true rfl) w6 (fun _ h9 => h9) rfl rfl rfl rfl (Nat.le_of_ble_eq_true rfl) dX0_measureFollow_141 rfl (fun H locs hP hD hS => ?_)
        have he := Option.some.inj hf
        have e_v0 := he
        refine rt_V hx hb hr hlocks hK hP hD hS hQ ?_ dX0_measureFollow_144
        simp only [← e_v0]
  have bl9 : ∀ (k9 : V0 → Int32 → Int32 → Int32 → Int32 → Option (V0)) (q9 : ∀ (v0 : V0) (x1 : Int32) (x2 : Int32) (x3 : Int32) (x4 : Int32), k9 v0 x1 x2 x3 x4 = some v0' → ∀ (H : Heap) (locs : List Loc) (ls : Array Slot), va_P D vwCl [(a0, .inr (0, [.ref a1, .ref a2, .int v0.2.2.1, .int v0.2.2.2.1, .int v0.2.2.2.2])), (a1, .inl (ca 0, 400, .inl v0.1)), (a2, .inl (ca 0, 256, .inl v0.2.1))] H → va_D A [(a0, .inr (0, [.ref a1, .ref a2, .int v0.2.2.1, .int v0.2.2.2.1, .int v0.2.2.2.2])), (a1, .inl (ca 0, 400, .inl v0.1)), (a2, .inl (ca 0, 256, .inl v0.2.1))] → va_S A s.heap H locs → lv_has ls 6 [(0, .ref a0), (1, .int x1), (2, .int x2), (3, .int x3), (4, .int x4)] → W p l e ({ frames := 1, cells := 0, slots := 0, locals := 21 } : Room) s m args below meth c H locs 0 0 Q (F0 m 9 ls [])) (v0 : V0) (x1 : Int32) (x2 : Int32) (x3 : Int32) (x4 : Int32), fl_X0_measureFollow_9 k9 v0 x1 x2 x3 x4 = some v0' → ∀ (H : Heap) (locs : List Loc) (ls : Array Slot), va_P D vwCl [(a0, .inr (0, [.ref a1, .ref a2, .int v0.2.2.1, .int v0.2.2.2.1, .int v0.2.2.2.2])), (a1, .inl (ca 0, 400, .inl v0.1)), (a2, .inl (ca 0, 256, .inl v0.2.1))] H → va_D A [(a0, .inr (0, [.ref a1, .ref a2, .int v0.2.2.1, .int v0.2.2.2.1, .int v0.2.2.2.2])), (a1, .inl (ca 0, 400, .inl v0.1)), (a2, .inl (ca 0, 256, .inl v0.2.1))] → va_S A s.heap H locs → lv_has ls 6 [(0, .ref a0), (1, .int x1), (2, .int x2), (3, .int x3), (4, .int x4)] → W p l e ({ frames := 1, cells := 0, slots := 0, locals := 21 } : Room) s m args below meth c H locs 0 0 Q (F0 m 9 ls []) := by
    intro k9 q9 v0 x1 x2 x3 x4 hf H locs ls hP hD hS hl
    unfold fl_X0_measureFollow_9 at hf
    refine lv_iload hx hb dX0_measureFollow_9 (lv_at hl 4 rfl) ?_
    refine lv_iconst (v := 1) hx hb dX0_measureFollow_11 rfl ?_
    refine lv_iadd hx hb dX0_measureFollow_12 ?_
    refine lv_aload_n hx hb dX0_measureFollow_13 rfl (lv_at hl 0 rfl) ?_
    refine va_get (C := RX0) (T := TX0) (N := 5) hx hb hts i0 hown hK hP 0 rfl rfl 2 (Nat.le_of_ble_eq_true rfl) w0 (fun _ h9 => h9) rfl dX0_measureFollow_14 ?_
    refine xc_ge (tgt := 77) hx hb dX0_measureFollow_17 (by decide) hf (fun hf => ?_) (fun hf => ?_)
    · exact b77 v0 x1 x2 x3 hf _ _ _ hP hD hS (lv_sub hl [0, 1, 2, 3] rfl)
    · refine lv_iload hx hb dX0_measureFollow_20 (lv_at hl 4 rfl) ?_
      refine lv_iconst (v := 1) hx hb dX0_measureFollow_22 rfl ?_
      refine lv_iadd hx hb dX0_measureFollow_23 ?_
      refine lv_sipush (v := 400) hx hb dX0_measureFollow_24 rfl ?_
      refine xc_ge (tgt := 77) hx hb dX0_measureFollow_27 (by decide) hf (fun hf => ?_) (fun hf => ?_)
      · exact b77 v0 x1 x2 x3 hf _ _ _ hP hD hS (lv_sub hl [0, 1, 2, 3] rfl)
      · refine lv_aload_n hx hb dX0_measureFollow_30 rfl (lv_at hl 0 rfl) ?_
        refine va_get (C := RX0) (T := TX0) (N := 5) hx hb hts i0 hown hK hP 0 rfl rfl 0 (Nat.le_of_ble_eq_true rfl) w7 (fun _ h9 => h9) rfl dX0_measureFollow_31 ?_
        refine lv_iload hx hb dX0_measureFollow_34 (lv_at hl 4 rfl) ?_
        refine xiald hx hb hK hP 1 rfl hf dX0_measureFollow_36 (fun hf => ?_)
        refine lv_iconst (v := 1) hx hb dX0_measureFollow_37 rfl ?_
        refine xc_ne (tgt := 59) hx hb dX0_measureFollow_38 (by decide) hf (fun hf => ?_) (fun hf => ?_)
        · refine lv_iload_n hx hb dX0_measureFollow_59 rfl (lv_at hl 3 rfl) ?_
          refine lv_aload_n hx hb dX0_measureFollow_60 rfl (lv_at hl 0 rfl) ?_
          refine va_get (C := RX0) (T := TX0) (N := 5) hx hb hts i0 hown hK hP 0 rfl rfl 0 (Nat.le_of_ble_eq_true rfl) w7 (fun _ h9 => h9) rfl dX0_measureFollow_61 ?_
          refine lv_iload hx hb dX0_measureFollow_64 (lv_at hl 4 rfl) ?_
          refine lv_iconst (v := 1) hx hb dX0_measureFollow_66 rfl ?_
          refine lv_iadd hx hb dX0_measureFollow_67 ?_
          refine xiald hx hb hK hP 1 rfl hf dX0_measureFollow_68 (fun hf => ?_)
          refine lv_iadd hx hb dX0_measureFollow_69 ?_
          refine xnm hf (fun x_4 hf => ?_)
          refine lv_istore_n (lv' := [(3, .int x_4), (0, .ref a0), (1, .int x1), (2, .int x2), (4, .int x4)]) hx hb dX0_measureFollow_70 rfl hl (Nat.le_of_ble_eq_true rfl) rfl (fun ls hl => ?_)
          obtain ⟨x_5, ex_5, hf⟩ := bnd_el hf
          refine lv_iinc (v := x_5) (lv' := [(4, .int x_5), (3, .int x_4), (0, .ref a0), (1, .int x1), (2, .int x2)]) hx hb dX0_measureFollow_71 hl (k := 4) rfl (by rw [ex_5]; rfl) (Nat.le_of_ble_eq_true rfl) rfl (fun ls hl => ?_)
          refine lv_goto (tgt := 9) hx hb dX0_measureFollow_74 (by decide) ?_
          exact q9 v0 x1 x2 x_4 x_5 hf _ _ _ hP hD hS (lv_sub hl [2, 3, 4, 1, 0] rfl)
        · obtain ⟨x_6, ex_6, hf⟩ := bnd_el hf
          refine lv_iinc (v := x_6) (lv' := [(1, .int x_6), (0, .ref a0), (2, .int x2), (3, .int x3), (4, .int x4)]) hx hb dX0_measureFollow_41 hl (k := 1) rfl (by rw [ex_6]; rfl) (Nat.le_of_ble_eq_true rfl) rfl (fun ls hl => ?_)
          refine lv_iload_n hx hb dX0_measureFollow_44 rfl (lv_at hl 2 rfl) ?_
          refine lv_aload_n hx hb dX0_measureFollow_45 rfl (lv_at hl 1 rfl) ?_
          refine va_get (C := RX0) (T := TX0) (N := 5) hx hb hts i0 hown hK hP 0 rfl rfl 0 (Nat.le_of_ble_eq_true rfl) w7 (fun _ h9 => h9) rfl dX0_measureFollow_46 ?_
          refine lv_iload hx hb dX0_measureFollow_49 (lv_at hl 4 rfl) ?_
          refine lv_iconst (v := 1) hx hb dX0_measureFollow_51 rfl ?_
          refine lv_iadd hx hb dX0_measureFollow_52 ?_
          refine xiald hx hb hK hP 1 rfl hf dX0_measureFollow_53 (fun hf => ?_)
          refine lv_iadd hx hb dX0_measureFollow_54 ?_
          refine xnm hf (fun x_7 hf => ?_)
          refine lv_istore_n (lv' := [(2, .int x_7), (1, .int x_6), (0, .ref a0), (3, .int x3), (4, .int x4)]) hx hb dX0_measureFollow_55 rfl hl (Nat.le_of_ble_eq_true rfl) rfl (fun ls hl => ?_)
          refine lv_goto (tgt := 71) hx hb dX0_measureFollow_56 (by decide) ?_
          obtain ⟨x_8, ex_8, hf⟩ := bnd_el hf
          refine lv_iinc (v := x_8) (lv' := [(4, .int x_8), (2, .int x_7), (1, .int x_6), (0, .ref a0), (3, .int x3)]) hx hb dX0_measureFollow_71 hl (k := 4) rfl (by rw [ex_8]; rfl) (Nat.le_of_ble_eq_true rfl) rfl (fun ls hl => ?_)
          refine lv_goto (tgt := 9) hx hb dX0_measureFollow_74 (by decide) ?_
          exact q9 v0 x_6 x_7 x3 x_8 hf _ _ _ hP hD hS (lv_sub hl [3, 2, 1, 4, 0] rfl)
  have b9 : ∀ (n : Nat) (v0 : V0) (x1 : Int32) (x2 : Int32) (x3 : Int32) (x4 : Int32), fb_X0_measureFollow_9 n v0 x1 x2 x3 x4 = some v0' → ∀ (H : Heap) (locs : List Loc) (ls : Array Slot), va_P D vwCl [(a0, .inr (0, [.ref a1, .ref a2, .int v0.2.2.1, .int v0.2.2.2.1, .int v0.2.2.2.2])), (a1, .inl (ca 0, 400, .inl v0.1)), (a2, .inl (ca 0, 256, .inl v0.2.1))] H → va_D A [(a0, .inr (0, [.ref a1, .ref a2, .int v0.2.2.1, .int v0.2.2.2.1, .int v0.2.2.2.2])), (a1, .inl (ca 0, 400, .inl v0.1)), (a2, .inl (ca 0, 256, .inl v0.2.1))] → va_S A s.heap H locs → lv_has ls 6 [(0, .ref a0), (1, .int x1), (2, .int x2), (3, .int x3), (4, .int x4)] → W p l e ({ frames := 1, cells := 0, slots := 0, locals := 21 } : Room) s m args below meth c H locs 0 0 Q (F0 m 9 ls []) := by
    intro n
    induction n with
    | zero => intro v0 x1 x2 x3 x4 hf; exact no_el hf
    | succ n ih => exact bl9 (fb_X0_measureFollow_9 n) ih
  unfold f_X0_measureFollow at hf
  refine lv_iconst (v := 0) hx hb dX0_measureFollow_0 rfl ?_
  refine lv_istore_n (lv' := [(1, .int (0 : Int32)), (0, .ref a0)]) hx hb dX0_measureFollow_1 rfl hl (Nat.le_of_ble_eq_true rfl) rfl (fun ls hl => ?_)
  refine lv_iconst (v := 0) hx hb dX0_measureFollow_2 rfl ?_
  refine lv_istore_n (lv' := [(2, .int (0 : Int32)), (1, .int (0 : Int32)), (0, .ref a0)]) hx hb dX0_measureFollow_3 rfl hl (Nat.le_of_ble_eq_true rfl) rfl (fun ls hl => ?_)
  refine lv_iconst (v := 0) hx hb dX0_measureFollow_4 rfl ?_
  refine lv_istore_n (lv' := [(3, .int (0 : Int32)), (2, .int (0 : Int32)), (1, .int (0 : Int32)), (0, .ref a0)]) hx hb dX0_measureFollow_5 rfl hl (Nat.le_of_ble_eq_true rfl) rfl (fun ls hl => ?_)
  refine lv_iconst (v := 0) hx hb dX0_measureFollow_6 rfl ?_
  refine lv_istore (lv' := [(4, .int (0 : Int32)), (3, .int (0 : Int32)), (2, .int (0 : Int32)), (1, .int (0 : Int32)), (0, .ref a0)]) hx hb dX0_measureFollow_7 hl (Nat.le_of_ble_eq_true rfl) rfl (fun ls hl => ?_)
  exact b9 FU v0 (0 : Int32) (0 : Int32) (0 : Int32) (0 : Int32) hf _ _ _ hP hD hS (lv_sub hl [4, 3, 2, 1, 0] rfl)
abbrev wq_X0_measure : List Cond := Cond.code yX0_measure cX0_measure 2 none :: GL
set_option maxHeartbeats 4000000 in
set_option maxRecDepth 100000 in
theorem c_X0_measure (l : Launch) (D : va_G) (ca : Nat → ClassId) (zz : Nat → Nat) (a0 a1 a2 : Nat) (sz : Nat) (v0 : V0) (p1 : Int32) (v0' : V0) (hf : f_X0_measure v0 p1 = some v0') : Met l yX0_measure wq_X0_measure ({ frames := 2, cells := 0, slots := 0, locals := 46 } : Room) (PR D ca zz [.ref a0, .int p1] sz [(a0, .inr (0, [.ref a1, .ref a2, .int v0.2.2.1, .int v0.2.2.2.1, .int v0.2.2.2.2])), (a1, .inl (ca 0, 400, .inl v0.1)), (a2, .inl (ca 0, 256, .inl v0.2.1))]) (QV D ca [(a0, .inr (0, [.ref a1, .ref a2, .int v0'.2.2.1, .int v0'.2.2.2.1, .int v0'.2.2.2.2])), (a1, .inl (ca 0, 400, .inl v0'.1)), (a2, .inl (ca 0, 256, .inl v0'.2.1))] (va_A [(a0, .inr (0, [.ref a1, .ref a2, .int v0.2.2.1, .int v0.2.2.2.1, .int v0.2.2.2.2])), (a1, .inl (ca 0, 400, .inl v0.1)), (a2, .inl (ca 0, 256, .inl v0.2.1))] sz)) 0 0 (va_A [(a0, .inr (0, [.ref a1, .ref a2, .int v0.2.2.1, .int v0.2.2.2.1, .int v0.2.2.2.2])), (a1, .inl (ca 0, 400, .inl v0.1)), (a2, .inl (ca 0, 256, .inl v0.2.1))] sz) := by
  refine en (y := yX0_measure) (wsm := wq_X0_measure) (av := [.ref a0, .int p1]) (cc := cX0_measure) (maxL := 2) (ret := none) (Qf := fun A => (QV D ca [(a0, .inr (0, [.ref a1, .ref a2, .int v0'.2.2.1, .int v0'.2.2.2.1, .int v0'.2.2.2.2])), (a1, .inl (ca 0, 400, .inl v0'.1)), (a2, .inl (ca 0, 256, .inl v0'.2.1))] A)) (by decide) rfl (Nat.le_of_ble_eq_true rfl) ?_
  intro p e s m args below meth c A Q ls hx hb hr hml hown hts hlocks hnm hA hN hZ hK hQ hP hD hS hl
  unfold f_X0_measure at hf
  refine lv_iload_n hx hb dX0_measure_0 rfl (lv_at hl 1 rfl) ?_
  refine xi_ne (tgt := 11) hx hb dX0_measure_1 (by decide) hf (fun hf => ?_) (fun hf => ?_)
  · refine lv_iload_n hx hb dX0_measure_11 rfl (lv_at hl 1 rfl) ?_
    refine lv_iconst (v := 1) hx hb dX0_measure_12 rfl ?_
    refine xc_ne (tgt := 23) hx hb dX0_measure_13 (by decide) hf (fun hf => ?_) (fun hf => ?_)
    · refine lv_aload_n hx hb dX0_measure_23 rfl (lv_at hl 0 rfl) ?_
      obtain ⟨u_1, hc1, hf⟩ := bnd1_el hf
      refine xV_V (As := []) (wx := [(a0, .inr (0, [.ref a1, .ref a2, .int u_1.2.2.1, .int u_1.2.2.2.1, .int u_1.2.2.2.2])), (a1, .inl (ca 0, 400, .inl u_1.1)), (a2, .inl (ca 0, 256, .inl u_1.2.1))]) ⟨hx, hb, hml, hown, hts⟩ (c_X0_measureFollow l D ca zz a0 a1 a2 _ v0 u_1 hc1) (cwV 0 hts (gV gw_4_80 gw_4_82 gw_s_2_0 gw_1_14 gw_4_83) rfl rfl rfl (by decide +kernel) ⟨(Nat.le_of_ble_eq_true rfl), (Nat.le_of_ble_eq_true rfl)⟩) hK hN hZ hA hP hD hS [0, 1, 2] [some 0, some 1, some 2] (by decide +kernel) rfl rfl rfl rfl 0 rfl rfl hl.1 rfl (Nat.le_of_ble_eq_true rfl) dX0_measure_24 ⟨Nat.zero_le _, Nat.zero_le _⟩ rfl (fun H locs hP hD hS => ?_)
      have he := Option.some.inj hf
      have e_v0 := he
      refine rt_V hx hb hr hlocks hK hP hD hS hQ ?_ dX0_measure_27
      simp only [← e_v0]
    · refine lv_aload_n hx hb dX0_measure_16 rfl (lv_at hl 0 rfl) ?_
      obtain ⟨u_2, hc2, hf⟩ := bnd1_el hf
      refine xV_V (As := []) (wx := [(a0, .inr (0, [.ref a1, .ref a2, .int u_2.2.2.1, .int u_2.2.2.2.1, .int u_2.2.2.2.2])), (a1, .inl (ca 0, 400, .inl u_2.1)), (a2, .inl (ca 0, 256, .inl u_2.2.1))]) ⟨hx, hb, hml, hown, hts⟩ (c_X0_measureCollision l D ca zz a0 a1 a2 _ v0 u_2 hc2) (cwV 0 hts (gV gw_4_76 gw_4_78 gw_s_1_15 gw_1_14 gw_4_79) rfl rfl rfl (by decide +kernel) ⟨(Nat.le_of_ble_eq_true rfl), (Nat.le_of_ble_eq_true rfl)⟩) hK hN hZ hA hP hD hS [0, 1, 2] [some 0, some 1, some 2] (by decide +kernel) rfl rfl rfl rfl 0 rfl rfl hl.1 rfl (Nat.le_of_ble_eq_true rfl) dX0_measure_17 ⟨Nat.zero_le _, Nat.zero_le _⟩ rfl (fun H locs hP hD hS => ?_)
      refine lv_goto (tgt := 27) hx hb dX0_measure_20 (by decide) ?_
      have he := Option.some.inj hf
      have e_v0 := he
      refine rt_V hx hb hr hlocks hK hP hD hS hQ ?_ dX0_measure_27
      simp only [← e_v0]
  · refine lv_aload_n hx hb dX0_measure_4 rfl (lv_at hl 0 rfl) ?_
    obtain ⟨u_3, hc3, hf⟩ := bnd1_el hf
    refine xV_V (As := []) (wx := [(a0, .inr (0, [.ref a1, .ref a2, .int u_3.2.2.1, .int u_3.2.2.2.1, .int u_3.2.2.2.2])), (a1, .inl (ca 0, 400, .inl u_3.1)), (a2, .inl (ca 0, 256, .inl u_3.2.1))]) ⟨hx, hb, hml, hown, hts⟩ (c_X0_measureCommon l D ca zz a0 a1 a2 _ v0 u_3 hc3) (cwV 0 hts (gV gw_4_72 gw_4_74 gw_s_1_14 gw_1_14 gw_4_75) rfl rfl rfl (by decide +kernel) ⟨(Nat.le_of_ble_eq_true rfl), (Nat.le_of_ble_eq_true rfl)⟩) hK hN hZ hA hP hD hS [0, 1, 2] [some 0, some 1, some 2] (by decide +kernel) rfl rfl rfl rfl 0 rfl rfl hl.1 rfl (Nat.le_of_ble_eq_true rfl) dX0_measure_5 ⟨Nat.zero_le _, Nat.zero_le _⟩ rfl (fun H locs hP hD hS => ?_)
    refine lv_goto (tgt := 27) hx hb dX0_measure_8 (by decide) ?_
    have he := Option.some.inj hf
    have e_v0 := he
    refine rt_V hx hb hr hlocks hK hP hD hS hQ ?_ dX0_measure_27
    simp only [← e_v0]
