abbrev wq_X11_hand : List Cond := Cond.code yX11_hand cX11_hand 5 (some .int) :: GL
set_option maxHeartbeats 4000000 in
set_option maxRecDepth 100000 in
theorem c_X11_hand (l : Launch) (D : va_G) (ca : Nat → ClassId) (zz : Nat → Nat) (a0 a1 a2 a3 a4 a5 a6 a7 a8 a9 a10 a11 a12 a13 a14 a15 a16 a17 a18 a19 a20 a21 a41 a42 a49 a52 a54 a55 : Nat) (sz : Nat) (v0 : V11) (p1 : Int32) (p2 : Int32) (r : Int32) (v0' : V11) (hf : f_X11_hand v0 p1 p2 = some (r, v0')) : Met l yX11_hand wq_X11_hand ({ frames := 5, cells := 0, slots := 0, locals := 106 } : Room) (PR D ca zz [.ref a0, .int p1, .int p2] sz [(a0, .inr (11, [.ref a1, .ref a21, .ref a41, .ref a42, .ref a49, .ref a52, .ref a54, .ref a55])), (a1, .inr (10, [.ref a2, .ref a7, .ref a9, .ref a10, .ref a11, .ref a14, .ref a16, .ref a19, .int v0.1.2.2.2.2.2.2.2.2.1, .int v0.1.2.2.2.2.2.2.2.2.2.1, .int v0.1.2.2.2.2.2.2.2.2.2.2.1, .int v0.1.2.2.2.2.2.2.2.2.2.2.2.1, .int v0.1.2.2.2.2.2.2.2.2.2.2.2.2.1, .int v0.1.2.2.2.2.2.2.2.2.2.2.2.2.2])), (a2, .inr (7, [.ref a3, .ref a4, .ref a5, .ref a6, .int v0.1.1.2.2.2.2])), (a3, .inl (ca 0, 9, .inl v0.1.1.1)), (a4, .inl (ca 0, 4, .inl v0.1.1.2.1)), (a5, .inl (ca 0, 4, .inl v0.1.1.2.2.1)), (a6, .inl (ca 0, 4, .inl v0.1.1.2.2.2.1)), (a7, .inr (2, [.ref a8, .int v0.1.2.1.2.1, .int v0.1.2.1.2.2.1, .int v0.1.2.1.2.2.2.1, .int v0.1.2.1.2.2.2.2])), (a8, .inl (ca 1, 17, .inr (.inl v0.1.2.1.1))), (a9, .inr (8, [.int v0.1.2.2.1.1, .int v0.1.2.2.1.2.1, .int v0.1.2.2.1.2.2])), (a10, .inr (1, [.int v0.1.2.2.2.1.1, .int v0.1.2.2.2.1.2.1, .int v0.1.2.2.2.1.2.2.1, .int v0.1.2.2.2.1.2.2.2.1, .int v0.1.2.2.2.1.2.2.2.2.1, .int v0.1.2.2.2.1.2.2.2.2.2])), (a11, .inr (3, [.ref a12, .int v0.1.2.2.2.2.1.2.1, .int v0.1.2.2.2.2.1.2.2.1, .int v0.1.2.2.2.2.1.2.2.2.1, .int v0.1.2.2.2.2.1.2.2.2.2.1, .int v0.1.2.2.2.2.1.2.2.2.2.2.1, .int v0.1.2.2.2.2.1.2.2.2.2.2.2])), (a12, .inr (4, [.ref a13, .int v0.1.2.2.2.2.1.1.2.1, .int v0.1.2.2.2.2.1.1.2.2])), (a13, .inl (ca 0, 512, .inl v0.1.2.2.2.2.1.1.1)), (a14, .inr (4, [.ref a15, .int v0.1.2.2.2.2.2.1.2.1, .int v0.1.2.2.2.2.2.1.2.2])), (a15, .inl (ca 0, 512, .inl v0.1.2.2.2.2.2.1.1)), (a16, .inr (6, [.ref a17, .ref a18, .int v0.1.2.2.2.2.2.2.1.2.2])), (a17, .inl (ca 0, 15, .inl v0.1.2.2.2.2.2.2.1.1)), (a18, .inl (ca 0, 15, .inl v0.1.2.2.2.2.2.2.1.2.1)), (a19, .inr (9, [.ref a20, .int v0.1.2.2.2.2.2.2.2.1.2.1, .int v0.1.2.2.2.2.2.2.2.1.2.2.1, .int v0.1.2.2.2.2.2.2.2.1.2.2.2])), (a20, .inl (ca 0, 300, .inl v0.1.2.2.2.2.2.2.2.1.1))]) (QI D ca r [(a0, .inr (11, [.ref a1, .ref a21, .ref a41, .ref a42, .ref a49, .ref a52, .ref a54, .ref a55])), (a1, .inr (10, [.ref a2, .ref a7, .ref a9, .ref a10, .ref a11, .ref a14, .ref a16, .ref a19, .int v0'.1.2.2.2.2.2.2.2.2.1, .int v0'.1.2.2.2.2.2.2.2.2.2.1, .int v0'.1.2.2.2.2.2.2.2.2.2.2.1, .int v0'.1.2.2.2.2.2.2.2.2.2.2.2.1, .int v0'.1.2.2.2.2.2.2.2.2.2.2.2.2.1, .int v0'.1.2.2.2.2.2.2.2.2.2.2.2.2.2])), (a2, .inr (7, [.ref a3, .ref a4, .ref a5, .ref a6, .int v0'.1.1.2.2.2.2])), (a3, .inl (ca 0, 9, .inl v0'.1.1.1)), (a4, .inl (ca 0, 4, .inl v0'.1.1.2.1)), (a5, .inl (ca 0, 4, .inl v0'.1.1.2.2.1)), (a6, .inl (ca 0, 4, .inl v0'.1.1.2.2.2.1)), (a7, .inr (2, [.ref a8, .int v0'.1.2.1.2.1, .int v0'.1.2.1.2.2.1, .int v0'.1.2.1.2.2.2.1, .int v0'.1.2.1.2.2.2.2])), (a8, .inl (ca 1, 17, .inr (.inl v0'.1.2.1.1))), (a9, .inr (8, [.int v0'.1.2.2.1.1, .int v0'.1.2.2.1.2.1, .int v0'.1.2.2.1.2.2])), (a10, .inr (1, [.int v0'.1.2.2.2.1.1, .int v0'.1.2.2.2.1.2.1, .int v0'.1.2.2.2.1.2.2.1, .int v0'.1.2.2.2.1.2.2.2.1, .int v0'.1.2.2.2.1.2.2.2.2.1, .int v0'.1.2.2.2.1.2.2.2.2.2])), (a11, .inr (3, [.ref a12, .int v0'.1.2.2.2.2.1.2.1, .int v0'.1.2.2.2.2.1.2.2.1, .int v0'.1.2.2.2.2.1.2.2.2.1, .int v0'.1.2.2.2.2.1.2.2.2.2.1, .int v0'.1.2.2.2.2.1.2.2.2.2.2.1, .int v0'.1.2.2.2.2.1.2.2.2.2.2.2])), (a12, .inr (4, [.ref a13, .int v0'.1.2.2.2.2.1.1.2.1, .int v0'.1.2.2.2.2.1.1.2.2])), (a13, .inl (ca 0, 512, .inl v0'.1.2.2.2.2.1.1.1)), (a14, .inr (4, [.ref a15, .int v0'.1.2.2.2.2.2.1.2.1, .int v0'.1.2.2.2.2.2.1.2.2])), (a15, .inl (ca 0, 512, .inl v0'.1.2.2.2.2.2.1.1)), (a16, .inr (6, [.ref a17, .ref a18, .int v0'.1.2.2.2.2.2.2.1.2.2])), (a17, .inl (ca 0, 15, .inl v0'.1.2.2.2.2.2.2.1.1)), (a18, .inl (ca 0, 15, .inl v0'.1.2.2.2.2.2.2.1.2.1)), (a19, .inr (9, [.ref a20, .int v0'.1.2.2.2.2.2.2.2.1.2.1, .int v0'.1.2.2.2.2.2.2.2.1.2.2.1, .int v0'.1.2.2.2.2.2.2.2.1.2.2.2])), (a20, .inl (ca 0, 300, .inl v0'.1.2.2.2.2.2.2.2.1.1))] (va_A [(a0, .inr (11, [.ref a1, .ref a21, .ref a41, .ref a42, .ref a49, .ref a52, .ref a54, .ref a55])), (a1, .inr (10, [.ref a2, .ref a7, .ref a9, .ref a10, .ref a11, .ref a14, .ref a16, .ref a19, .int v0.1.2.2.2.2.2.2.2.2.1, .int v0.1.2.2.2.2.2.2.2.2.2.1, .int v0.1.2.2.2.2.2.2.2.2.2.2.1, .int v0.1.2.2.2.2.2.2.2.2.2.2.2.1, .int v0.1.2.2.2.2.2.2.2.2.2.2.2.2.1, .int v0.1.2.2.2.2.2.2.2.2.2.2.2.2.2])), (a2, .inr (7, [.ref a3, .ref a4, .ref a5, .ref a6, .int v0.1.1.2.2.2.2])), (a3, .inl (ca 0, 9, .inl v0.1.1.1)), (a4, .inl (ca 0, 4, .inl v0.1.1.2.1)), (a5, .inl (ca 0, 4, .inl v0.1.1.2.2.1)), (a6, .inl (ca 0, 4, .inl v0.1.1.2.2.2.1)), (a7, .inr (2, [.ref a8, .int v0.1.2.1.2.1, .int v0.1.2.1.2.2.1, .int v0.1.2.1.2.2.2.1, .int v0.1.2.1.2.2.2.2])), (a8, .inl (ca 1, 17, .inr (.inl v0.1.2.1.1))), (a9, .inr (8, [.int v0.1.2.2.1.1, .int v0.1.2.2.1.2.1, .int v0.1.2.2.1.2.2])), (a10, .inr (1, [.int v0.1.2.2.2.1.1, .int v0.1.2.2.2.1.2.1, .int v0.1.2.2.2.1.2.2.1, .int v0.1.2.2.2.1.2.2.2.1, .int v0.1.2.2.2.1.2.2.2.2.1, .int v0.1.2.2.2.1.2.2.2.2.2])), (a11, .inr (3, [.ref a12, .int v0.1.2.2.2.2.1.2.1, .int v0.1.2.2.2.2.1.2.2.1, .int v0.1.2.2.2.2.1.2.2.2.1, .int v0.1.2.2.2.2.1.2.2.2.2.1, .int v0.1.2.2.2.2.1.2.2.2.2.2.1, .int v0.1.2.2.2.2.1.2.2.2.2.2.2])), (a12, .inr (4, [.ref a13, .int v0.1.2.2.2.2.1.1.2.1, .int v0.1.2.2.2.2.1.1.2.2])), (a13, .inl (ca 0, 512, .inl v0.1.2.2.2.2.1.1.1)), (a14, .inr (4, [.ref a15, .int v0.1.2.2.2.2.2.1.2.1, .int v0.1.2.2.2.2.2.1.2.2])), (a15, .inl (ca 0, 512, .inl v0.1.2.2.2.2.2.1.1)), (a16, .inr (6, [.ref a17, .ref a18, .int v0.1.2.2.2.2.2.2.1.2.2])), (a17, .inl (ca 0, 15, .inl v0.1.2.2.2.2.2.2.1.1)), (a18, .inl (ca 0, 15, .inl v0.1.2.2.2.2.2.2.1.2.1)), (a19, .inr (9, [.ref a20, .int v0.1.2.2.2.2.2.2.2.1.2.1, .int v0.1.2.2.2.2.2.2.2.1.2.2.1, .int v0.1.2.2.2.2.2.2.2.1.2.2.2])), (a20, .inl (ca 0, 300, .inl v0.1.2.2.2.2.2.2.2.1.1))] sz)) 0 0 (va_A [(a0, .inr (11, [.ref a1, .ref a21, .ref a41, .ref a42, .ref a49, .ref a52, .ref a54, .ref a55])), (a1, .inr (10, [.ref a2, .ref a7, .ref a9, .ref a10, .ref a11, .ref a14, .ref a16, .ref a19, .int v0.1.2.2.2.2.2.2.2.2.1, .int v0.1.2.2.2.2.2.2.2.2.2.1, .int v0.1.2.2.2.2.2.2.2.2.2.2.1, .int v0.1.2.2.2.2.2.2.2.2.2.2.2.1, .int v0.1.2.2.2.2.2.2.2.2.2.2.2.2.1, .int v0.1.2.2.2.2.2.2.2.2.2.2.2.2.2])), (a2, .inr (7, [.ref a3, .ref a4, .ref a5, .ref a6, .int v0.1.1.2.2.2.2])), (a3, .inl (ca 0, 9, .inl v0.1.1.1)), (a4, .inl (ca 0, 4, .inl v0.1.1.2.1)), (a5, .inl (ca 0, 4, .inl v0.1.1.2.2.1)), (a6, .inl (ca 0, 4, .inl v0.1.1.2.2.2.1)), (a7, .inr (2, [.ref a8, .int v0.1.2.1.2.1, .int v0.1.2.1.2.2.1, .int v0.1.2.1.2.2.2.1, .int v0.1.2.1.2.2.2.2])), (a8, .inl (ca 1, 17, .inr (.inl v0.1.2.1.1))), (a9, .inr (8, [.int v0.1.2.2.1.1, .int v0.1.2.2.1.2.1, .int v0.1.2.2.1.2.2])), (a10, .inr (1, [.int v0.1.2.2.2.1.1, .int v0.1.2.2.2.1.2.1, .int v0.1.2.2.2.1.2.2.1, .int v0.1.2.2.2.1.2.2.2.1, .int v0.1.2.2.2.1.2.2.2.2.1, .int v0.1.2.2.2.1.2.2.2.2.2])), (a11, .inr (3, [.ref a12, .int v0.1.2.2.2.2.1.2.1, .int v0.1.2.2.2.2.1.2.2.1, .int v0.1.2.2.2.2.1.2.2.2.1, .int v0.1.2.2.2.2.1.2.2.2.2.1, .int v0.1.2.2.2.2.1.2.2.2.2.2.1, .int v0.1.2.2.2.2.1.2.2.2.2.2.2])), (a12, .inr (4, [.ref a13, .int v0.1.2.2.2.2.1.1.2.1, .int v0.1.2.2.2.2.1.1.2.2])), (a13, .inl (ca 0, 512, .inl v0.1.2.2.2.2.1.1.1)), (a14, .inr (4, [.ref a15, .int v0.1.2.2.2.2.2.1.2.1, .int v0.1.2.2.2.2.2.1.2.2])), (a15, .inl (ca 0, 512, .inl v0.1.2.2.2.2.2.1.1)), (a16, .inr (6, [.ref a17, .ref a18, .int v0.1.2.2.2.2.2.2.1.2.2])), (a17, .inl (ca 0, 15, .inl v0.1.2.2.2.2.2.2.1.1)), (a18, .inl (ca 0, 15, .inl v0.1.2.2.2.2.2.2.1.2.1)), (a19, .inr (9, [.ref a20, .int v0.1.2.2.2.2.2.2.2.1.2.1, .int v0.1.2.2.2.2.2.2.2.1.2.2.1, .int v0.1.2.2.2.2.2.2.2.1.2.2.2])), (a20, .inl (ca 0, 300, .inl v0.1.2.2.2.2.2.2.2.1.1))] sz) := by
  refine en (y := yX11_hand) (wsm := wq_X11_hand) (av := [.ref a0, .int p1, .int p2]) (cc := cX11_hand) (maxL := 5) (ret := (some .int)) (Qf := fun A => (QI D ca r [(a0, .inr (11, [.ref a1, .ref a21, .ref a41, .ref a42, .ref a49, .ref a52, .ref a54, .ref a55])), (a1, .inr (10, [.ref a2, .ref a7, .ref a9, .ref a10, .ref a11, .ref a14, .ref a16, .ref a19, .int v0'.1.2.2.2.2.2.2.2.2.1, .int v0'.1.2.2.2.2.2.2.2.2.2.1, .int v0'.1.2.2.2.2.2.2.2.2.2.2.1, .int v0'.1.2.2.2.2.2.2.2.2.2.2.2.1, .int v0'.1.2.2.2.2.2.2.2.2.2.2.2.2.1, .int v0'.1.2.2.2.2.2.2.2.2.2.2.2.2.2])), (a2, .inr (7, [.ref a3, .ref a4, .ref a5, .ref a6, .int v0'.1.1.2.2.2.2])), (a3, .inl (ca 0, 9, .inl v0'.1.1.1)), (a4, .inl (ca 0, 4, .inl v0'.1.1.2.1)), (a5, .inl (ca 0, 4, .inl v0'.1.1.2.2.1)), (a6, .inl (ca 0, 4, .inl v0'.1.1.2.2.2.1)), (a7, .inr (2, [.ref a8, .int v0'.1.2.1.2.1, .int v0'.1.2.1.2.2.1, .int v0'.1.2.1.2.2.2.1, .int v0'.1.2.1.2.2.2.2])), (a8, .inl (ca 1, 17, .inr (.inl v0'.1.2.1.1))), (a9, .inr (8, [.int v0'.1.2.2.1.1, .int v0'.1.2.2.1.2.1, .int v0'.1.2.2.1.2.2])), (a10, .inr (1, [.int v0'.1.2.2.2.1.1, .int v0'.1.2.2.2.1.2.1, .int v0'.1.2.2.2.1.2.2.1, .int v0'.1.2.2.2.1.2.2.2.1, .int v0'.1.2.2.2.1.2.2.2.2.1, .int v0'.1.2.2.2.1.2.2.2.2.2])), (a11, .inr (3, [.ref a12, .int v0'.1.2.2.2.2.1.2.1, .int v0'.1.2.2.2.2.1.2.2.1, .int v0'.1.2.2.2.2.1.2.2.2.1, .int v0'.1.2.2.2.2.1.2.2.2.2.1, .int v0'.1.2.2.2.2.1.2.2.2.2.2.1, .int v0'.1.2.2.2.2.1.2.2.2.2.2.2])), (a12, .inr (4, [.ref a13, .int v0'.1.2.2.2.2.1.1.2.1, .int v0'.1.2.2.2.2.1.1.2.2])), (a13, .inl (ca 0, 512, .inl v0'.1.2.2.2.2.1.1.1)), (a14, .inr (4, [.ref a15, .int v0'.1.2.2.2.2.2.1.2.1, .int v0'.1.2.2.2.2.2.1.2.2])), (a15, .inl (ca 0, 512, .inl v0'.1.2.2.2.2.2.1.1)), (a16, .inr (6, [.ref a17, .ref a18, .int v0'.1.2.2.2.2.2.2.1.2.2])), (a17, .inl (ca 0, 15, .inl v0'.1.2.2.2.2.2.2.1.1)), (a18, .inl (ca 0, 15, .inl v0'.1.2.2.2.2.2.2.1.2.1)), (a19, .inr (9, [.ref a20, .int v0'.1.2.2.2.2.2.2.2.1.2.1, .int v0'.1.2.2.2.2.2.2.2.1.2.2.1, .int v0'.1.2.2.2.2.2.2.2.1.2.2.2])), (a20, .inl (ca 0, 300, .inl v0'.1.2.2.2.2.2.2.2.1.1))] A)) (by decide) rfl (Nat.le_of_ble_eq_true rfl) ?_
  intro p e s m args below meth c A Q ls hx hb hr hml hown hts hlocks hnm hA hN hZ hK hQ hP hD hS hl
  have w0 := hts _ (List.mem_cons_of_mem _ gw_2_187)
  have i11 : ∀ w ∈ u_ws RX11 TX11 8, w ∈ wq_X11_hand := fun w h => List.mem_cons_of_mem _ (inX11 w h)
  have bl20 : ∀ (k20 : V11 → Int32 → Int32 → Int32 → Option (Int32 × V11)) (q20 : ∀ (v0 : V11) (x1 : Int32) (x3 : Int32) (x4 : Int32), k20 v0 x1 x3 x4 = some (r, v0') → ∀ (H : Heap) (locs : List Loc) (ls : Array Slot), va_P D vwCl [(a0, .inr (11, [.ref a1, .ref a21, .ref a41, .ref a42, .ref a49, .ref a52, .ref a54, .ref a55])), (a1, .inr (10, [.ref a2, .ref a7, .ref a9, .ref a10, .ref a11, .ref a14, .ref a16, .ref a19, .int v0.1.2.2.2.2.2.2.2.2.1, .int v0.1.2.2.2.2.2.2.2.2.2.1, .int v0.1.2.2.2.2.2.2.2.2.2.2.1, .int v0.1.2.2.2.2.2.2.2.2.2.2.2.1, .int v0.1.2.2.2.2.2.2.2.2.2.2.2.2.1, .int v0.1.2.2.2.2.2.2.2.2.2.2.2.2.2])), (a2, .inr (7, [.ref a3, .ref a4, .ref a5, .ref a6, .int v0.1.1.2.2.2.2])), (a3, .inl (ca 0, 9, .inl v0.1.1.1)), (a4, .inl (ca 0, 4, .inl v0.1.1.2.1)), (a5, .inl (ca 0, 4, .inl v0.1.1.2.2.1)), (a6, .inl (ca 0, 4, .inl v0.1.1.2.2.2.1)), (a7, .inr (2, [.ref a8, .int v0.1.2.1.2.1, .int v0.1.2.1.2.2.1, .int v0.1.2.1.2.2.2.1, .int v0.1.2.1.2.2.2.2])), (a8, .inl (ca 1, 17, .inr (.inl v0.1.2.1.1))), (a9, .inr (8, [.int v0.1.2.2.1.1, .int v0.1.2.2.1.2.1, .int v0.1.2.2.1.2.2])), (a10, .inr (1, [.int v0.1.2.2.2.1.1, .int v0.1.2.2.2.1.2.1, .int v0.1.2.2.2.1.2.2.1, .int v0.1.2.2.2.1.2.2.2.1, .int v0.1.2.2.2.1.2.2.2.2.1, .int v0.1.2.2.2.1.2.2.2.2.2])), (a11, .inr (3, [.ref a12, .int v0.1.2.2.2.2.1.2.1, .int v0.1.2.2.2.2.1.2.2.1, .int v0.1.2.2.2.2.1.2.2.2.1, .int v0.1.2.2.2.2.1.2.2.2.2.1, .int v0.1.2.2.2.2.1.2.2.2.2.2.1, .int v0.1.2.2.2.2.1.2.2.2.2.2.2])), (a12, .inr (4, [.ref a13, .int v0.1.2.2.2.2.1.1.2.1, .int v0.1.2.2.2.2.1.1.2.2])), (a13, .inl (ca 0, 512, .inl v0.1.2.2.2.2.1.1.1)), (a14, .inr (4, [.ref a15, .int v0.1.2.2.2.2.2.1.2.1, .int v0.1.2.2.2.2.2.1.2.2])), (a15, .inl (ca 0, 512, .inl v0.1.2.2.2.2.2.1.1)), (a16, .inr (6, [.ref a17, .ref a18, .int v0.1.2.2.2.2.2.2.1.2.2])), (a17, .inl (ca 0, 15, .inl v0.1.2.2.2.2.2.2.1.1)), (a18, .inl (ca 0, 15, .inl v0.1.2.2.2.2.2.2.1.2.1)), (a19, .inr (9, [.ref a20, .int v0.1.2.2.2.2.2.2.2.1.2.1, .int v0.1.2.2.2.2.2.2.2.1.2.2.1, .int v0.1.2.2.2.2.2.2.2.1.2.2.2])), (a20, .inl (ca 0, 300, .inl v0.1.2.2.2.2.2.2.2.1.1))] H → va_D A [(a0, .inr (11, [.ref a1, .ref a21, .ref a41, .ref a42, .ref a49, .ref a52, .ref a54, .ref a55])), (a1, .inr (10, [.ref a2, .ref a7, .ref a9, .ref a10, .ref a11, .ref a14, .ref a16, .ref a19, .int v0.1.2.2.2.2.2.2.2.2.1, .int v0.1.2.2.2.2.2.2.2.2.2.1, .int v0.1.2.2.2.2.2.2.2.2.2.2.1, .int v0.1.2.2.2.2.2.2.2.2.2.2.2.1, .int v0.1.2.2.2.2.2.2.2.2.2.2.2.2.1, .int v0.1.2.2.2.2.2.2.2.2.2.2.2.2.2])), (a2, .inr (7, [.ref a3, .ref a4, .ref a5, .ref a6, .int v0.1.1.2.2.2.2])), (a3, .inl (ca 0, 9, .inl v0.1.1.1)), (a4, .inl (ca 0, 4, .inl v0.1.1.2.1)), (a5, .inl (ca 0, 4, .inl v0.1.1.2.2.1)), (a6, .inl (ca 0, 4, .inl v0.1.1.2.2.2.1)), (a7, .inr (2, [.ref a8, .int v0.1.2.1.2.1, .int v0.1.2.1.2.2.1, .int v0.1.2.1.2.2.2.1, .int v0.1.2.1.2.2.2.2])), (a8, .inl (ca 1, 17, .inr (.inl v0.1.2.1.1))), (a9, .inr (8, [.int v0.1.2.2.1.1, .int v0.1.2.2.1.2.1, .int v0.1.2.2.1.2.2])), (a10, .inr (1, [.int v0.1.2.2.2.1.1, .int v0.1.2.2.2.1.2.1, .int v0.1.2.2.2.1.2.2.1, .int v0.1.2.2.2.1.2.2.2.1, .int v0.1.2.2.2.1.2.2.2.2.1, .int v0.1.2.2.2.1.2.2.2.2.2])), (a11, .inr (3, [.ref a12, .int v0.1.2.2.2.2.1.2.1, .int v0.1.2.2.2.2.1.2.2.1, .int v0.1.2.2.2.2.1.2.2.2.1, .int v0.1.2.2.2.2.1.2.2.2.2.1, .int v0.1.2.2.2.2.1.2.2.2.2.2.1, .int v0.1.2.2.2.2.1.2.2.2.2.2.2])), (a12, .inr (4, [.ref a13, .int v0.1.2.2.2.2.1.1.2.1, .int v0.1.2.2.2.2.1.1.2.2])), (a13, .inl (ca 0, 512, .inl v0.1.2.2.2.2.1.1.1)), (a14, .inr (4, [.ref a15, .int v0.1.2.2.2.2.2.1.2.1, .int v0.1.2.2.2.2.2.1.2.2])), (a15, .inl (ca 0, 512, .inl v0.1.2.2.2.2.2.1.1)), (a16, .inr (6, [.ref a17, .ref a18, .int v0.1.2.2.2.2.2.2.1.2.2])), (a17, .inl (ca 0, 15, .inl v0.1.2.2.2.2.2.2.1.1)), (a18, .inl (ca 0, 15, .inl v0.1.2.2.2.2.2.2.1.2.1)), (a19, .inr (9, [.ref a20, .int v0.1.2.2.2.2.2.2.2.1.2.1, .int v0.1.2.2.2.2.2.2.2.1.2.2.1, .int v0.1.2.2.2.2.2.2.2.1.2.2.2])), (a20, .inl (ca 0, 300, .inl v0.1.2.2.2.2.2.2.2.1.1))] → va_S A s.heap H locs → lv_has ls 5 [(0, .ref a0), (1, .int x1), (3, .int x3), (4, .int x4)] → W p l e ({ frames := 5, cells := 0, slots := 0, locals := 106 } : Room) s m args below meth c H locs 0 0 Q (F0 m 20 ls [])) (v0 : V11) (x1 : Int32) (x3 : Int32) (x4 : Int32), fl_X11_hand_20 k20 v0 x1 x3 x4 = some (r, v0') → ∀ (H : Heap) (locs : List Loc) (ls : Array Slot), va_P D vwCl [(a0, .inr (11, [.ref a1, .ref a21, .ref a41, .ref a42, .ref a49, .ref a52, .ref a54, .ref a55])), (a1, .inr (10, [.ref a2, .ref a7, .ref a9, .ref a10, .ref a11, .ref a14, .ref a16, .ref a19, .int v0.1.2.2.2.2.2.2.2.2.1, .int v0.1.2.2.2.2.2.2.2.2.2.1, .int v0.1.2.2.2.2.2.2.2.2.2.2.1, .int v0.1.2.2.2.2.2.2.2.2.2.2.2.1, .int v0.1.2.2.2.2.2.2.2.2.2.2.2.2.1, .int v0.1.2.2.2.2.2.2.2.2.2.2.2.2.2])), (a2, .inr (7, [.ref a3, .ref a4, .ref a5, .ref a6, .int v0.1.1.2.2.2.2])), (a3, .inl (ca 0, 9, .inl v0.1.1.1)), (a4, .inl (ca 0, 4, .inl v0.1.1.2.1)), (a5, .inl (ca 0, 4, .inl v0.1.1.2.2.1)), (a6, .inl (ca 0, 4, .inl v0.1.1.2.2.2.1)), (a7, .inr (2, [.ref a8, .int v0.1.2.1.2.1, .int v0.1.2.1.2.2.1, .int v0.1.2.1.2.2.2.1, .int v0.1.2.1.2.2.2.2])), (a8, .inl (ca 1, 17, .inr (.inl v0.1.2.1.1))), (a9, .inr (8, [.int v0.1.2.2.1.1, .int v0.1.2.2.1.2.1, .int v0.1.2.2.1.2.2])), (a10, .inr (1, [.int v0.1.2.2.2.1.1, .int v0.1.2.2.2.1.2.1, .int v0.1.2.2.2.1.2.2.1, .int v0.1.2.2.2.1.2.2.2.1, .int v0.1.2.2.2.1.2.2.2.2.1, .int v0.1.2.2.2.1.2.2.2.2.2])), (a11, .inr (3, [.ref a12, .int v0.1.2.2.2.2.1.2.1, .int v0.1.2.2.2.2.1.2.2.1, .int v0.1.2.2.2.2.1.2.2.2.1, .int v0.1.2.2.2.2.1.2.2.2.2.1, .int v0.1.2.2.2.2.1.2.2.2.2.2.1, .int v0.1.2.2.2.2.1.2.2.2.2.2.2])), (a12, .inr (4, [.ref a13, .int v0.1.2.2.2.2.1.1.2.1, .int v0.1.2.2.2.2.1.1.2.2])), (a13, .inl (ca 0, 512, .inl v0.1.2.2.2.2.1.1.1)), (a14, .inr (4, [.ref a15, .int v0.1.2.2.2.2.2.1.2.1, .int v0.1.2.2.2.2.2.1.2.2])), (a15, .inl (ca 0, 512, .inl v0.1.2.2.2.2.2.1.1)), (a16, .inr (6, [.ref a17, .ref a18, .int v0.1.2.2.2.2.2.2.1.2.2])), (a17, .inl (ca 0, 15, .inl v0.1.2.2.2.2.2.2.1.1)), (a18, .inl (ca 0, 15, .inl v0.1.2.2.2.2.2.2.1.2.1)), (a19, .inr (9, [.ref a20, .int v0.1.2.2.2.2.2.2.2.1.2.1, .int v0.1.2.2.2.2.2.2.2.1.2.2.1, .int v0.1.2.2.2.2.2.2.2.1.2.2.2])), (a20, .inl (ca 0, 300, .inl v0.1.2.2.2.2.2.2.2.1.1))] H → va_D A [(a0, .inr (11, [.ref a1, .ref a21, .ref a41, .ref a42, .ref a49, .ref a52, .ref a54, .ref a55])), (a1, .inr (10, [.ref a2, .ref a7, .ref a9, .ref a10, .ref a11, .ref a14, .ref a16, .ref a19, .int v0.1.2.2.2.2.2.2.2.2.1, .int v0.1.2.2.2.2.2.2.2.2.2.1, .int v0.1.2.2.2.2.2.2.2.2.2.2.1, .int v0.1.2.2.2.2.2.2.2.2.2.2.2.1, .int v0.1.2.2.2.2.2.2.2.2.2.2.2.2.1, .int v0.1.2.2.2.2.2.2.2.2.2.2.2.2.2])), (a2, .inr (7, [.ref a3, .ref a4, .ref a5, .ref a6, .int v0.1.1.2.2.2.2])), (a3, .inl (ca 0, 9, .inl v0.1.1.1)), (a4, .inl (ca 0, 4, .inl v0.1.1.2.1)), (a5, .inl (ca 0, 4, .inl v0.1.1.2.2.1)), (a6, .inl (ca 0, 4, .inl v0.1.1.2.2.2.1)), (a7, .inr (2, [.ref a8, .int v0.1.2.1.2.1, .int v0.1.2.1.2.2.1, .int v0.1.2.1.2.2.2.1, .int v0.1.2.1.2.2.2.2])), (a8, .inl (ca 1, 17, .inr (.inl v0.1.2.1.1))), (a9, .inr (8, [.int v0.1.2.2.1.1, .int v0.1.2.2.1.2.1, .int v0.1.2.2.1.2.2])), (a10, .inr (1, [.int v0.1.2.2.2.1.1, .int v0.1.2.2.2.1.2.1, .int v0.1.2.2.2.1.2.2.1, .int v0.1.2.2.2.1.2.2.2.1, .int v0.1.2.2.2.1.2.2.2.2.1, .int v0.1.2.2.2.1.2.2.2.2.2])), (a11, .inr (3, [.ref a12, .int v0.1.2.2.2.2.1.2.1, .int v0.1.2.2.2.2.1.2.2.1, .int v0.1.2.2.2.2.1.2.2.2.1, .int v0.1.2.2.2.2.1.2.2.2.2.1, .int v0.1.2.2.2.2.1.2.2.2.2.2.1, .int v0.1.2.2.2.2.1.2.2.2.2.2.2])), (a12, .inr (4, [.ref a13, .int v0.1.2.2.2.2.1.1.2.1, .int v0.1.2.2.2.2.1.1.2.2])), (a13, .inl (ca 0, 512, .inl v0.1.2.2.2.2.1.1.1)), (a14, .inr (4, [.ref a15, .int v0.1.2.2.2.2.2.1.2.1, .int v0.1.2.2.2.2.2.1.2.2])), (a15, .inl (ca 0, 512, .inl v0.1.2.2.2.2.2.1.1)), (a16, .inr (6, [.ref a17, .ref a18, .int v0.1.2.2.2.2.2.2.1.2.2])), (a17, .inl (ca 0, 15, .inl v0.1.2.2.2.2.2.2.1.1)), (a18, .inl (ca 0, 15, .inl v0.1.2.2.2.2.2.2.1.2.1)), (a19, .inr (9, [.ref a20, .int v0.1.2.2.2.2.2.2.2.1.2.1, .int v0.1.2.2.2.2.2.2.2.1.2.2.1, .int v0.1.2.2.2.2.2.2.2.1.2.2.2])), (a20, .inl (ca 0, 300, .inl v0.1.2.2.2.2.2.2.2.1.1))] → va_S A s.heap H locs → lv_has ls 5 [(0, .ref a0), (1, .int x1), (3, .int x3), (4, .int x4)] → W p l e ({ frames := 5, cells := 0, slots := 0, locals := 106 } : Room) s m args below meth c H locs 0 0 Q (F0 m 20 ls []) := by
    intro k20 q20 v0 x1 x3 x4 hf H locs ls hP hD hS hl
    unfold fl_X11_hand_20 at hf
    refine lv_iload hx hb dX11_hand_20 (lv_at hl 3 rfl) ?_
    refine xi_lt (tgt := 50) hx hb dX11_hand_22 (by decide) hf (fun hf => ?_) (fun hf => ?_)
    · refine lv_iload_n hx hb dX11_hand_50 rfl (lv_at hl 2 rfl) ?_
      have he := Option.some.inj hf
      obtain ⟨e_r, he⟩ := Prod.mk.inj he
      have e_v0 := he
      refine rt_I hx hb hr hlocks hK hP hD hS hQ e_r ?_ dX11_hand_51
      simp only [← e_v0]
    · refine lv_aload_n hx hb dX11_hand_25 rfl (lv_at hl 0 rfl) ?_
      refine va_get (C := RX11) (T := TX11) (N := 8) hx hb hts i11 hown hK hP 0 rfl rfl 0 (Nat.le_of_ble_eq_true rfl) w0 (fun _ h9 => h9) rfl dX11_hand_26 ?_
      refine lv_iload_n hx hb dX11_hand_29 rfl (lv_at hl 1 rfl) ?_
      refine lv_iload hx hb dX11_hand_30 (lv_at hl 3 rfl) ?_
      refine lv_iushr (v := jushr x1 x4) hx hb dX11_hand_32 rfl ?_
      refine lv_iconst (v := 1) hx hb dX11_hand_33 rfl ?_
      refine lv_iand hx hb dX11_hand_34 ?_
      obtain ⟨r_2, u_3, hc3, hf⟩ := bnd2_el hf
      refine xV_I (As := [.int ((jushr x1 x4) &&& (1 : Int32))]) (wx := [(a0, .inr (11, [.ref a1, .ref a21, .ref a41, .ref a42, .ref a49, .ref a52, .ref a54, .ref a55])), (a1, .inr (10, [.ref a2, .ref a7, .ref a9, .ref a10, .ref a11, .ref a14, .ref a16, .ref a19, .int u_3.2.2.2.2.2.2.2.2.1, .int u_3.2.2.2.2.2.2.2.2.2.1, .int u_3.2.2.2.2.2.2.2.2.2.2.1, .int u_3.2.2.2.2.2.2.2.2.2.2.2.1, .int u_3.2.2.2.2.2.2.2.2.2.2.2.2.1, .int u_3.2.2.2.2.2.2.2.2.2.2.2.2.2])), (a2, .inr (7, [.ref a3, .ref a4, .ref a5, .ref a6, .int u_3.1.2.2.2.2])), (a3, .inl (ca 0, 9, .inl u_3.1.1)), (a4, .inl (ca 0, 4, .inl u_3.1.2.1)), (a5, .inl (ca 0, 4, .inl u_3.1.2.2.1)), (a6, .inl (ca 0, 4, .inl u_3.1.2.2.2.1)), (a7, .inr (2, [.ref a8, .int u_3.2.1.2.1, .int u_3.2.1.2.2.1, .int u_3.2.1.2.2.2.1, .int u_3.2.1.2.2.2.2])), (a8, .inl (ca 1, 17, .inr (.inl u_3.2.1.1))), (a9, .inr (8, [.int u_3.2.2.1.1, .int u_3.2.2.1.2.1, .int u_3.2.2.1.2.2])), (a10, .inr (1, [.int u_3.2.2.2.1.1, .int u_3.2.2.2.1.2.1, .int u_3.2.2.2.1.2.2.1, .int u_3.2.2.2.1.2.2.2.1, .int u_3.2.2.2.1.2.2.2.2.1, .int u_3.2.2.2.1.2.2.2.2.2])), (a11, .inr (3, [.ref a12, .int u_3.2.2.2.2.1.2.1, .int u_3.2.2.2.2.1.2.2.1, .int u_3.2.2.2.2.1.2.2.2.1, .int u_3.2.2.2.2.1.2.2.2.2.1, .int u_3.2.2.2.2.1.2.2.2.2.2.1, .int u_3.2.2.2.2.1.2.2.2.2.2.2])), (a12, .inr (4, [.ref a13, .int u_3.2.2.2.2.1.1.2.1, .int u_3.2.2.2.2.1.1.2.2])), (a13, .inl (ca 0, 512, .inl u_3.2.2.2.2.1.1.1)), (a14, .inr (4, [.ref a15, .int u_3.2.2.2.2.2.1.2.1, .int u_3.2.2.2.2.2.1.2.2])), (a15, .inl (ca 0, 512, .inl u_3.2.2.2.2.2.1.1)), (a16, .inr (6, [.ref a17, .ref a18, .int u_3.2.2.2.2.2.2.1.2.2])), (a17, .inl (ca 0, 15, .inl u_3.2.2.2.2.2.2.1.1)), (a18, .inl (ca 0, 15, .inl u_3.2.2.2.2.2.2.1.2.1)), (a19, .inr (9, [.ref a20, .int u_3.2.2.2.2.2.2.2.1.2.1, .int u_3.2.2.2.2.2.2.2.1.2.2.1, .int u_3.2.2.2.2.2.2.2.1.2.2.2])), (a20, .inl (ca 0, 300, .inl u_3.2.2.2.2.2.2.2.1.1))]) ⟨hx, hb, hml, hown, hts⟩ (c_X10_hear l D ca zz a1 a2 a3 a4 a5 a6 a7 a8 a9 a10 a11 a12 a13 a14 a15 a16 a17 a18 a19 a20 _ v0.1 ((jushr x1 x4) &&& (1 : Int32)) r_2 u_3 hc3) (cwV 1 hts (gV gw_3_232 gw_3_181 gw_3_182 gw_1_2 gw_3_183) rfl rfl rfl (by decide +kernel) ⟨(Nat.le_of_ble_eq_true rfl), (Nat.le_of_ble_eq_true rfl)⟩) hK hN hZ hA hP hD hS [1, 2, 3, 4, 5, 6, 7, 8, 9, 10, 11, 12, 13, 14, 15, 16, 17, 18, 19, 20] [none, some 0, some 1, some 2, some 3, some 4, some 5, some 6, some 7, some 8, some 9, some 10, some 11, some 12, some 13, some 14, some 15, some 16, some 17, some 18, some 19] (by decide +kernel) rfl rfl rfl rfl 1 rfl rfl hl.1 rfl (Nat.le_of_ble_eq_true rfl) dX11_hand_35 ⟨Nat.zero_le _, Nat.zero_le _⟩ rfl (fun H locs hP hD hS => ?_)
      refine xi_eq (tgt := 44) hx hb dX11_hand_38 (by decide) hf (fun hf => ?_) (fun hf => ?_)
      · obtain ⟨x_4, ex_4, hf⟩ := bnd_el hf
        refine lv_iinc (v := x_4) (lv' := [(4, .int x_4), (0, .ref a0), (1, .int x1), (3, .int x3)]) hx hb dX11_hand_44 hl (k := 3) rfl (by rw [ex_4]; rfl) (Nat.le_of_ble_eq_true rfl) rfl (fun ls hl => ?_)
        refine lv_goto (tgt := 20) hx hb dX11_hand_47 (by decide) ?_
        have jb := q20 ((u_3, v0.2)) x1 x3 x_4
        dsimp only at jb
        exact jb hf _ _ _ hP hD hS (lv_sub hl [1, 2, 3, 0] rfl)
      · obtain ⟨x_5, ex_5, hf⟩ := bnd_el hf
        refine lv_iinc (v := x_5) (lv' := [(3, .int x_5), (0, .ref a0), (1, .int x1), (4, .int x4)]) hx hb dX11_hand_41 hl (k := 2) rfl (by rw [ex_5]; rfl) (Nat.le_of_ble_eq_true rfl) rfl (fun ls hl => ?_)
        obtain ⟨x_6, ex_6, hf⟩ := bnd_el hf
        refine lv_iinc (v := x_6) (lv' := [(4, .int x_6), (3, .int x_5), (0, .ref a0), (1, .int x1)]) hx hb dX11_hand_44 hl (k := 3) rfl (by rw [ex_6]; rfl) (Nat.le_of_ble_eq_true rfl) rfl (fun ls hl => ?_)
        refine lv_goto (tgt := 20) hx hb dX11_hand_47 (by decide) ?_
        have jb := q20 ((u_3, v0.2)) x1 x_5 x_6
        dsimp only at jb
        exact jb hf _ _ _ hP hD hS (lv_sub hl [2, 3, 1, 0] rfl)
  have b20 : ∀ (n : Nat) (v0 : V11) (x1 : Int32) (x3 : Int32) (x4 : Int32), fb_X11_hand_20 n v0 x1 x3 x4 = some (r, v0') → ∀ (H : Heap) (locs : List Loc) (ls : Array Slot), va_P D vwCl [(a0, .inr (11, [.ref a1, .ref a21, .ref a41, .ref a42, .ref a49, .ref a52, .ref a54, .ref a55])), (a1, .inr (10, [.ref a2, .ref a7, .ref a9, .ref a10, .ref a11, .ref a14, .ref a16, .ref a19, .int v0.1.2.2.2.2.2.2.2.2.1, .int v0.1.2.2.2.2.2.2.2.2.2.1, .int v0.1.2.2.2.2.2.2.2.2.2.2.1, .int v0.1.2.2.2.2.2.2.2.2.2.2.2.1, .int v0.1.2.2.2.2.2.2.2.2.2.2.2.2.1, .int v0.1.2.2.2.2.2.2.2.2.2.2.2.2.2])), (a2, .inr (7, [.ref a3, .ref a4, .ref a5, .ref a6, .int v0.1.1.2.2.2.2])), (a3, .inl (ca 0, 9, .inl v0.1.1.1)), (a4, .inl (ca 0, 4, .inl v0.1.1.2.1)), (a5, .inl (ca 0, 4, .inl v0.1.1.2.2.1)), (a6, .inl (ca 0, 4, .inl v0.1.1.2.2.2.1)), (a7, .inr (2, [.ref a8, .int v0.1.2.1.2.1, .int v0.1.2.1.2.2.1, .int v0.1.2.1.2.2.2.1, .int v0.1.2.1.2.2.2.2])), (a8, .inl (ca 1, 17, .inr (.inl v0.1.2.1.1))), (a9, .inr (8, [.int v0.1.2.2.1.1, .int v0.1.2.2.1.2.1, .int v0.1.2.2.1.2.2])), (a10, .inr (1, [.int v0.1.2.2.2.1.1, .int v0.1.2.2.2.1.2.1, .int v0.1.2.2.2.1.2.2.1, .int v0.1.2.2.2.1.2.2.2.1, .int v0.1.2.2.2.1.2.2.2.2.1, .int v0.1.2.2.2.1.2.2.2.2.2])), (a11, .inr (3, [.ref a12, .int v0.1.2.2.2.2.1.2.1, .int v0.1.2.2.2.2.1.2.2.1, .int v0.1.2.2.2.2.1.2.2.2.1, .int v0.1.2.2.2.2.1.2.2.2.2.1, .int v0.1.2.2.2.2.1.2.2.2.2.2.1, .int v0.1.2.2.2.2.1.2.2.2.2.2.2])), (a12, .inr (4, [.ref a13, .int v0.1.2.2.2.2.1.1.2.1, .int v0.1.2.2.2.2.1.1.2.2])), (a13, .inl (ca 0, 512, .inl v0.1.2.2.2.2.1.1.1)), (a14, .inr (4, [.ref a15, .int v0.1.2.2.2.2.2.1.2.1, .int v0.1.2.2.2.2.2.1.2.2])), (a15, .inl (ca 0, 512, .inl v0.1.2.2.2.2.2.1.1)), (a16, .inr (6, [.ref a17, .ref a18, .int v0.1.2.2.2.2.2.2.1.2.2])), (a17, .inl (ca 0, 15, .inl v0.1.2.2.2.2.2.2.1.1)), (a18, .inl (ca 0, 15, .inl v0.1.2.2.2.2.2.2.1.2.1)), (a19, .inr (9, [.ref a20, .int v0.1.2.2.2.2.2.2.2.1.2.1, .int v0.1.2.2.2.2.2.2.2.1.2.2.1, .int v0.1.2.2.2.2.2.2.2.1.2.2.2])), (a20, .inl (ca 0, 300, .inl v0.1.2.2.2.2.2.2.2.1.1))] H → va_D A [(a0, .inr (11, [.ref a1, .ref a21, .ref a41, .ref a42, .ref a49, .ref a52, .ref a54, .ref a55])), (a1, .inr (10, [.ref a2, .ref a7, .ref a9, .ref a10, .ref a11, .ref a14, .ref a16, .ref a19, .int v0.1.2.2.2.2.2.2.2.2.1, .int v0.1.2.2.2.2.2.2.2.2.2.1, .int v0.1.2.2.2.2.2.2.2.2.2.2.1, .int v0.1.2.2.2.2.2.2.2.2.2.2.2.1, .int v0.1.2.2.2.2.2.2.2.2.2.2.2.2.1, .int v0.1.2.2.2.2.2.2.2.2.2.2.2.2.2])), (a2, .inr (7, [.ref a3, .ref a4, .ref a5, .ref a6, .int v0.1.1.2.2.2.2])), (a3, .inl (ca 0, 9, .inl v0.1.1.1)), (a4, .inl (ca 0, 4, .inl v0.1.1.2.1)), (a5, .inl (ca 0, 4, .inl v0.1.1.2.2.1)), (a6, .inl (ca 0, 4, .inl v0.1.1.2.2.2.1)), (a7, .inr (2, [.ref a8, .int v0.1.2.1.2.1, .int v0.1.2.1.2.2.1, .int v0.1.2.1.2.2.2.1, .int v0.1.2.1.2.2.2.2])), (a8, .inl (ca 1, 17, .inr (.inl v0.1.2.1.1))), (a9, .inr (8, [.int v0.1.2.2.1.1, .int v0.1.2.2.1.2.1, .int v0.1.2.2.1.2.2])), (a10, .inr (1, [.int v0.1.2.2.2.1.1, .int v0.1.2.2.2.1.2.1, .int v0.1.2.2.2.1.2.2.1, .int v0.1.2.2.2.1.2.2.2.1, .int v0.1.2.2.2.1.2.2.2.2.1, .int v0.1.2.2.2.1.2.2.2.2.2])), (a11, .inr (3, [.ref a12, .int v0.1.2.2.2.2.1.2.1, .int v0.1.2.2.2.2.1.2.2.1, .int v0.1.2.2.2.2.1.2.2.2.1, .int v0.1.2.2.2.2.1.2.2.2.2.1, .int v0.1.2.2.2.2.1.2.2.2.2.2.1, .int v0.1.2.2.2.2.1.2.2.2.2.2.2])), (a12, .inr (4, [.ref a13, .int v0.1.2.2.2.2.1.1.2.1, .int v0.1.2.2.2.2.1.1.2.2])), (a13, .inl (ca 0, 512, .inl v0.1.2.2.2.2.1.1.1)), (a14, .inr (4, [.ref a15, .int v0.1.2.2.2.2.2.1.2.1, .int v0.1.2.2.2.2.2.1.2.2])), (a15, .inl (ca 0, 512, .inl v0.1.2.2.2.2.2.1.1)), (a16, .inr (6, [.ref a17, .ref a18, .int v0.1.2.2.2.2.2.2.1.2.2])), (a17, .inl (ca 0, 15, .inl v0.1.2.2.2.2.2.2.1.1)), (a18, .inl (ca 0, 15, .inl v0.1.2.2.2.2.2.2.1.2.1)), (a19, .inr (9, [.ref a20, .int v0.1.2.2.2.2.2.2.2.1.2.1, .int v0.1.2.2.2.2.2.2.2.1.2.2.1, .int v0.1.2.2.2.2.2.2.2.1.2.2.2])), (a20, .inl (ca 0, 300, .inl v0.1.2.2.2.2.2.2.2.1.1))] → va_S A s.heap H locs → lv_has ls 5 [(0, .ref a0), (1, .int x1), (3, .int x3), (4, .int x4)] → W p l e ({ frames := 5, cells := 0, slots := 0, locals := 106 } : Room) s m args below meth c H locs 0 0 Q (F0 m 20 ls []) := by
    intro n
    induction n with
    | zero => intro v0 x1 x3 x4 hf; exact no_el hf
    | succ n ih => exact bl20 (fb_X11_hand_20 n) ih
  unfold f_X11_hand at hf
  refine lv_iload_n hx hb dX11_hand_0 rfl (lv_at hl 2 rfl) ?_
  refine lv_iconst (v := 1) hx hb dX11_hand_1 rfl ?_
  refine xc_lt (tgt := 11) hx hb dX11_hand_2 (by decide) hf (fun hf => ?_) (fun hf => ?_)
  · refine lv_iconst (v := -1) hx hb dX11_hand_11 rfl ?_
    have he := Option.some.inj hf
    obtain ⟨e_r, he⟩ := Prod.mk.inj he
    have e_v0 := he
    refine rt_I hx hb hr hlocks hK hP hD hS hQ e_r ?_ dX11_hand_12
    simp only [← e_v0]
  · refine lv_iload_n hx hb dX11_hand_5 rfl (lv_at hl 2 rfl) ?_
    refine lv_bipush (v := 32) hx hb dX11_hand_6 rfl ?_
    refine xc_le (tgt := 13) hx hb dX11_hand_8 (by decide) hf (fun hf => ?_) (fun hf => ?_)
    · refine lv_iconst (v := 0) hx hb dX11_hand_13 rfl ?_
      refine lv_istore_n (lv' := [(3, .int (0 : Int32)), (0, .ref a0), (1, .int p1), (2, .int p2)]) hx hb dX11_hand_14 rfl hl (Nat.le_of_ble_eq_true rfl) rfl (fun ls hl => ?_)
      refine lv_iload_n hx hb dX11_hand_15 rfl (lv_at hl 3 rfl) ?_
      refine lv_iconst (v := 1) hx hb dX11_hand_16 rfl ?_
      refine lv_isub hx hb dX11_hand_17 ?_
      refine xnm hf (fun x_1 hf => ?_)
      refine lv_istore (lv' := [(4, .int x_1), (3, .int (0 : Int32)), (0, .ref a0), (1, .int p1), (2, .int p2)]) hx hb dX11_hand_18 hl (Nat.le_of_ble_eq_true rfl) rfl (fun ls hl => ?_)
      exact b20 FU v0 p1 (0 : Int32) x_1 hf _ _ _ hP hD hS (lv_sub hl [2, 3, 1, 0] rfl)
    · refine lv_iconst (v := -1) hx hb dX11_hand_11 rfl ?_
      have he := Option.some.inj hf
      obtain ⟨e_r, he⟩ := Prod.mk.inj he
      have e_v0 := he
      refine rt_I hx hb hr hlocks hK hP hD hS hQ e_r ?_ dX11_hand_12
      simp only [← e_v0]
abbrev wq_X3_takeBits : List Cond := Cond.code yX3_takeBits cX3_takeBits 4 (some .int) :: GL
set_option maxHeartbeats 4000000 in
set_option maxRecDepth 100000 in
theorem c_X3_takeBits (l : Launch) (D : va_G) (ca : Nat → ClassId) (zz : Nat → Nat) (a0 a1 a2 : Nat) (sz : Nat) (v0 : V3) (p1 : Int32) (r : Int32) (v0' : V3) (hf : f_X3_takeBits v0 p1 = some (r, v0')) : Met l yX3_takeBits wq_X3_takeBits ({ frames := 1, cells := 0, slots := 0, locals := 21 } : Room) (PR D ca zz [.ref a0, .int p1] sz [(a0, .inr (3, [.ref a1, .int v0.2.1, .int v0.2.2.1, .int v0.2.2.2.1, .int v0.2.2.2.2.1, .int v0.2.2.2.2.2.1, .int v0.2.2.2.2.2.2])), (a1, .inr (4, [.ref a2, .int v0.1.2.1, .int v0.1.2.2])), (a2, .inl (ca 0, 512, .inl v0.1.1))]) (QI D ca r [(a0, .inr (3, [.ref a1, .int v0'.2.1, .int v0'.2.2.1, .int v0'.2.2.2.1, .int v0'.2.2.2.2.1, .int v0'.2.2.2.2.2.1, .int v0'.2.2.2.2.2.2])), (a1, .inr (4, [.ref a2, .int v0'.1.2.1, .int v0'.1.2.2])), (a2, .inl (ca 0, 512, .inl v0'.1.1))] (va_A [(a0, .inr (3, [.ref a1, .int v0.2.1, .int v0.2.2.1, .int v0.2.2.2.1, .int v0.2.2.2.2.1, .int v0.2.2.2.2.2.1, .int v0.2.2.2.2.2.2])), (a1, .inr (4, [.ref a2, .int v0.1.2.1, .int v0.1.2.2])), (a2, .inl (ca 0, 512, .inl v0.1.1))] sz)) 0 0 (va_A [(a0, .inr (3, [.ref a1, .int v0.2.1, .int v0.2.2.1, .int v0.2.2.2.1, .int v0.2.2.2.2.1, .int v0.2.2.2.2.2.1, .int v0.2.2.2.2.2.2])), (a1, .inr (4, [.ref a2, .int v0.1.2.1, .int v0.1.2.2])), (a2, .inl (ca 0, 512, .inl v0.1.1))] sz) := by
  refine en (y := yX3_takeBits) (wsm := wq_X3_takeBits) (av := [.ref a0, .int p1]) (cc := cX3_takeBits) (maxL := 4) (ret := (some .int)) (Qf := fun A => (QI D ca r [(a0, .inr (3, [.ref a1, .int v0'.2.1, .int v0'.2.2.1, .int v0'.2.2.2.1, .int v0'.2.2.2.2.1, .int v0'.2.2.2.2.2.1, .int v0'.2.2.2.2.2.2])), (a1, .inr (4, [.ref a2, .int v0'.1.2.1, .int v0'.1.2.2])), (a2, .inl (ca 0, 512, .inl v0'.1.1))] A)) (by decide) rfl (Nat.le_of_ble_eq_true rfl) ?_
  intro p e s m args below meth c A Q ls hx hb hr hml hown hts hlocks hnm hA hN hZ hK hQ hP hD hS hl
  have w0 := hts _ (List.mem_cons_of_mem _ gw_1_179)
  have w1 := hts _ (List.mem_cons_of_mem _ gw_1_189)
  have nw19 := NW.use (args := args) (w := .fieldLinkNest RX3 55 "NoiseWatch$Queue" "size" "I" "NoiseWatch") hN 19 rfl
  have i3 : ∀ w ∈ u_ws RX3 TX3 7, w ∈ wq_X3_takeBits := fun w h => List.mem_cons_of_mem _ (inX3 w h)
  have i4 : ∀ w ∈ u_ws RX4 TX4 3, w ∈ wq_X3_takeBits := fun w h => List.mem_cons_of_mem _ (inX4 w h)
  have bl17 : ∀ (k17 : V3 → Int32 → Int32 → Int32 → Option (Int32 × V3)) (q17 : ∀ (v0 : V3) (x1 : Int32) (x2 : Int32) (x3 : Int32), k17 v0 x1 x2 x3 = some (r, v0') → ∀ (H : Heap) (locs : List Loc) (ls : Array Slot), va_P D vwCl [(a0, .inr (3, [.ref a1, .int v0.2.1, .int v0.2.2.1, .int v0.2.2.2.1, .int v0.2.2.2.2.1, .int v0.2.2.2.2.2.1, .int v0.2.2.2.2.2.2])), (a1, .inr (4, [.ref a2, .int v0.1.2.1, .int v0.1.2.2])), (a2, .inl (ca 0, 512, .inl v0.1.1))] H → va_D A [(a0, .inr (3, [.ref a1, .int v0.2.1, .int v0.2.2.1, .int v0.2.2.2.1, .int v0.2.2.2.2.1, .int v0.2.2.2.2.2.1, .int v0.2.2.2.2.2.2])), (a1, .inr (4, [.ref a2, .int v0.1.2.1, .int v0.1.2.2])), (a2, .inl (ca 0, 512, .inl v0.1.1))] → va_S A s.heap H locs → lv_has ls 4 [(0, .ref a0), (1, .int x1), (2, .int x2), (3, .int x3)] → W p l e ({ frames := 1, cells := 0, slots := 0, locals := 21 } : Room) s m args below meth c H locs 0 0 Q (F0 m 17 ls [])) (v0 : V3) (x1 : Int32) (x2 : Int32) (x3 : Int32), fl_X3_takeBits_17 k17 v0 x1 x2 x3 = some (r, v0') → ∀ (H : Heap) (locs : List Loc) (ls : Array Slot), va_P D vwCl [(a0, .inr (3, [.ref a1, .int v0.2.1, .int v0.2.2.1, .int v0.2.2.2.1, .int v0.2.2.2.2.1, .int v0.2.2.2.2.2.1, .int v0.2.2.2.2.2.2])), (a1, .inr (4, [.ref a2, .int v0.1.2.1, .int v0.1.2.2])), (a2, .inl (ca 0, 512, .inl v0.1.1))] H → va_D A [(a0, .inr (3, [.ref a1, .int v0.2.1, .int v0.2.2.1, .int v0.2.2.2.1, .int v0.2.2.2.2.1, .int v0.2.2.2.2.2.1, .int v0.2.2.2.2.2.2])), (a1, .inr (4, [.ref a2, .int v0.1.2.1, .int v0.1.2.2])), (a2, .inl (ca 0, 512, .inl v0.1.1))] → va_S A s.heap H locs → lv_has ls 4 [(0, .ref a0), (1, .int x1), (2, .int x2), (3, .int x3)] → W p l e ({ frames := 1, cells := 0, slots := 0, locals := 21 } : Room) s m args below meth c H locs 0 0 Q (F0 m 17 ls []) := by
    intro k17 q17 v0 x1 x2 x3 hf H locs ls hP hD hS hl
    unfold fl_X3_takeBits_17 at hf
    refine lv_iload_n hx hb dX3_takeBits_17 rfl (lv_at hl 3 rfl) ?_
    refine lv_iload_n hx hb dX3_takeBits_18 rfl (lv_at hl 1 rfl) ?_
    refine xc_ge (tgt := 40) hx hb dX3_takeBits_19 (by decide) hf (fun hf => ?_) (fun hf => ?_)
    · refine lv_aload_n hx hb dX3_takeBits_40 rfl (lv_at hl 0 rfl) ?_
      refine lv_dup hx hb dX3_takeBits_41 rfl ?_
      refine va_get (C := RX3) (T := TX3) (N := 7) hx hb hts i3 hown hK hP 0 rfl rfl 5 (Nat.le_of_ble_eq_true rfl) w1 (fun _ h9 => h9) rfl dX3_takeBits_42 ?_
      refine lv_iload_n hx hb dX3_takeBits_45 rfl (lv_at hl 1 rfl) ?_
      refine lv_iadd hx hb dX3_takeBits_46 ?_
      refine xnm hf (fun x_1 hf => ?_)
      refine xput (C := RX3) (T := TX3) (N := 7) (wx := [(a0, .inr (3, [.ref a1, .int v0.2.1, .int v0.2.2.1, .int v0.2.2.2.1, .int v0.2.2.2.2.1, .int x_1, .int v0.2.2.2.2.2.2])), (a1, .inr (4, [.ref a2, .int v0.1.2.1, .int v0.1.2.2])), (a2, .inl (ca 0, 512, .inl v0.1.1))]) hx hb hts i3 tyX3 tyX3_ok nmX3 hown hK hP hD hS 0 rfl rfl 5 (Nat.le_of_ble_eq_true rfl) w1 (fun _ h9 => h9) rfl rfl rfl rfl (Nat.le_of_ble_eq_true rfl) dX3_takeBits_47 rfl (fun H locs hP hD hS => ?_)
      refine lv_iload_n hx hb dX3_takeBits_50 rfl (lv_at hl 2 rfl) ?_
      have he := Option.some.inj hf
      obtain ⟨e_r, he⟩ := Prod.mk.inj he
      have e_v0 := he
      refine rt_I hx hb hr hlocks hK hP hD hS hQ e_r ?_ dX3_takeBits_51
      simp only [← e_v0]
    · refine lv_iload_n hx hb dX3_takeBits_22 rfl (lv_at hl 2 rfl) ?_
      refine lv_iconst (v := 1) hx hb dX3_takeBits_23 rfl ?_
      refine lv_ishl hx hb dX3_takeBits_24 ?_
      refine lv_aload_n hx hb dX3_takeBits_25 rfl (lv_at hl 0 rfl) ?_
      refine va_get (C := RX3) (T := TX3) (N := 7) hx hb hts i3 hown hK hP 0 rfl rfl 0 (Nat.le_of_ble_eq_true rfl) w0 (fun _ h9 => h9) rfl dX3_takeBits_26 ?_
      obtain ⟨r_2, u_3, hc3, hf⟩ := bnd2_el hf
      refine xV_I (As := []) (wx := [(a0, .inr (3, [.ref a1, .int v0.2.1, .int v0.2.2.1, .int v0.2.2.2.1, .int v0.2.2.2.2.1, .int v0.2.2.2.2.2.1, .int v0.2.2.2.2.2.2])), (a1, .inr (4, [.ref a2, .int u_3.2.1, .int u_3.2.2])), (a2, .inl (ca 0, 512, .inl u_3.1))]) ⟨hx, hb, hml, hown, hts⟩ (c_X4_dropFirst l D ca zz a1 a2 _ v0.1 r_2 u_3 hc3) (cwV 0 hts (gV gw_4_1 gw_3_185 gw_3_186 gw_1_8 gw_3_187) rfl rfl rfl (by decide +kernel) ⟨(Nat.le_of_ble_eq_true rfl), (Nat.le_of_ble_eq_true rfl)⟩) hK hN hZ hA hP hD hS [1, 2] [none, some 0, some 1] (by decide +kernel) rfl rfl rfl rfl 1 rfl rfl hl.1 rfl (Nat.le_of_ble_eq_true rfl) dX3_takeBits_29 ⟨Nat.zero_le _, Nat.zero_le _⟩ rfl (fun H locs hP hD hS => ?_)
      refine lv_ior hx hb dX3_takeBits_32 ?_
      refine xnm hf (fun x_4 hf => ?_)
      refine lv_istore_n (lv' := [(2, .int x_4), (0, .ref a0), (1, .int x1), (3, .int x3)]) hx hb dX3_takeBits_33 rfl hl (Nat.le_of_ble_eq_true rfl) rfl (fun ls hl => ?_)
      obtain ⟨x_5, ex_5, hf⟩ := bnd_el hf
      refine lv_iinc (v := x_5) (lv' := [(3, .int x_5), (2, .int x_4), (0, .ref a0), (1, .int x1)]) hx hb dX3_takeBits_34 hl (k := 3) rfl (by rw [ex_5]; rfl) (Nat.le_of_ble_eq_true rfl) rfl (fun ls hl => ?_)
      refine lv_goto (tgt := 17) hx hb dX3_takeBits_37 (by decide) ?_
      have jb := q17 ((u_3, v0.2)) x1 x_4 x_5
      dsimp only at jb
      exact jb hf _ _ _ hP hD hS (lv_sub hl [2, 3, 1, 0] rfl)
  have b17 : ∀ (n : Nat) (v0 : V3) (x1 : Int32) (x2 : Int32) (x3 : Int32), fb_X3_takeBits_17 n v0 x1 x2 x3 = some (r, v0') → ∀ (H : Heap) (locs : List Loc) (ls : Array Slot), va_P D vwCl [(a0, .inr (3, [.ref a1, .int v0.2.1, .int v0.2.2.1, .int v0.2.2.2.1, .int v0.2.2.2.2.1, .int v0.2.2.2.2.2.1, .int v0.2.2.2.2.2.2])), (a1, .inr (4, [.ref a2, .int v0.1.2.1, .int v0.1.2.2])), (a2, .inl (ca 0, 512, .inl v0.1.1))] H → va_D A [(a0, .inr (3, [.ref a1, .int v0.2.1, .int v0.2.2.1, .int v0.2.2.2.1, .int v0.2.2.2.2.1, .int v0.2.2.2.2.2.1, .int v0.2.2.2.2.2.2])), (a1, .inr (4, [.ref a2, .int v0.1.2.1, .int v0.1.2.2])), (a2, .inl (ca 0, 512, .inl v0.1.1))] → va_S A s.heap H locs → lv_has ls 4 [(0, .ref a0), (1, .int x1), (2, .int x2), (3, .int x3)] → W p l e ({ frames := 1, cells := 0, slots := 0, locals := 21 } : Room) s m args below meth c H locs 0 0 Q (F0 m 17 ls []) := by
    intro n
    induction n with
    | zero => intro v0 x1 x2 x3 hf; exact no_el hf
    | succ n ih => exact bl17 (fb_X3_takeBits_17 n) ih
  unfold f_X3_takeBits at hf
  refine lv_iload_n hx hb dX3_takeBits_0 rfl (lv_at hl 1 rfl) ?_
  refine lv_aload_n hx hb dX3_takeBits_1 rfl (lv_at hl 0 rfl) ?_
  refine va_get (C := RX3) (T := TX3) (N := 7) hx hb hts i3 hown hK hP 0 rfl rfl 0 (Nat.le_of_ble_eq_true rfl) w0 (fun _ h9 => h9) rfl dX3_takeBits_2 ?_
  refine va_getN (C := RX4) (T := TX4) (N := 3) hx hb hts i4 hown hK hP 1 rfl rfl 2 (Nat.le_of_ble_eq_true rfl) nw19 (fun _ h9 => h9) rfl dX3_takeBits_5 ?_
  refine xc_le (tgt := 13) hx hb dX3_takeBits_8 (by decide) hf (fun hf => ?_) (fun hf => ?_)
  · refine lv_iconst (v := 0) hx hb dX3_takeBits_13 rfl ?_
    refine lv_istore_n (lv' := [(2, .int (0 : Int32)), (0, .ref a0), (1, .int p1)]) hx hb dX3_takeBits_14 rfl hl (Nat.le_of_ble_eq_true rfl) rfl (fun ls hl => ?_)
    refine lv_iconst (v := 0) hx hb dX3_takeBits_15 rfl ?_
    refine lv_istore_n (lv' := [(3, .int (0 : Int32)), (2, .int (0 : Int32)), (0, .ref a0), (1, .int p1)]) hx hb dX3_takeBits_16 rfl hl (Nat.le_of_ble_eq_true rfl) rfl (fun ls hl => ?_)
    exact b17 FU v0 p1 (0 : Int32) (0 : Int32) hf _ _ _ hP hD hS (lv_sub hl [2, 3, 1, 0] rfl)
  · refine lv_iconst (v := -1) hx hb dX3_takeBits_11 rfl ?_
    have he := Option.some.inj hf
    obtain ⟨e_r, he⟩ := Prod.mk.inj he
    have e_v0 := he
    refine rt_I hx hb hr hlocks hK hP hD hS hQ e_r ?_ dX3_takeBits_12
    simp only [← e_v0]
abbrev wq_X11_take : List Cond := Cond.code yX11_take cX11_take 2 (some .int) :: GL
set_option maxHeartbeats 4000000 in
set_option maxRecDepth 100000 in
theorem c_X11_take (l : Launch) (D : va_G) (ca : Nat → ClassId) (zz : Nat → Nat) (a0 a1 a2 a3 a4 a5 a6 a7 a8 a9 a10 a11 a12 a13 a14 a15 a16 a17 a18 a19 a20 a21 a41 a42 a49 a52 a54 a55 : Nat) (sz : Nat) (v0 : V11) (p1 : Int32) (r : Int32) (v0' : V11) (hf : f_X11_take v0 p1 = some (r, v0')) : Met l yX11_take wq_X11_take ({ frames := 2, cells := 0, slots := 0, locals := 44 } : Room) (PR D ca zz [.ref a0, .int p1] sz [(a0, .inr (11, [.ref a1, .ref a21, .ref a41, .ref a42, .ref a49, .ref a52, .ref a54, .ref a55])), (a1, .inr (10, [.ref a2, .ref a7, .ref a9, .ref a10, .ref a11, .ref a14, .ref a16, .ref a19, .int v0.1.2.2.2.2.2.2.2.2.1, .int v0.1.2.2.2.2.2.2.2.2.2.1, .int v0.1.2.2.2.2.2.2.2.2.2.2.1, .int v0.1.2.2.2.2.2.2.2.2.2.2.2.1, .int v0.1.2.2.2.2.2.2.2.2.2.2.2.2.1, .int v0.1.2.2.2.2.2.2.2.2.2.2.2.2.2])), (a2, .inr (7, [.ref a3, .ref a4, .ref a5, .ref a6, .int v0.1.1.2.2.2.2])), (a3, .inl (ca 0, 9, .inl v0.1.1.1)), (a4, .inl (ca 0, 4, .inl v0.1.1.2.1)), (a5, .inl (ca 0, 4, .inl v0.1.1.2.2.1)), (a6, .inl (ca 0, 4, .inl v0.1.1.2.2.2.1)), (a7, .inr (2, [.ref a8, .int v0.1.2.1.2.1, .int v0.1.2.1.2.2.1, .int v0.1.2.1.2.2.2.1, .int v0.1.2.1.2.2.2.2])), (a8, .inl (ca 1, 17, .inr (.inl v0.1.2.1.1))), (a9, .inr (8, [.int v0.1.2.2.1.1, .int v0.1.2.2.1.2.1, .int v0.1.2.2.1.2.2])), (a10, .inr (1, [.int v0.1.2.2.2.1.1, .int v0.1.2.2.2.1.2.1, .int v0.1.2.2.2.1.2.2.1, .int v0.1.2.2.2.1.2.2.2.1, .int v0.1.2.2.2.1.2.2.2.2.1, .int v0.1.2.2.2.1.2.2.2.2.2])), (a11, .inr (3, [.ref a12, .int v0.1.2.2.2.2.1.2.1, .int v0.1.2.2.2.2.1.2.2.1, .int v0.1.2.2.2.2.1.2.2.2.1, .int v0.1.2.2.2.2.1.2.2.2.2.1, .int v0.1.2.2.2.2.1.2.2.2.2.2.1, .int v0.1.2.2.2.2.1.2.2.2.2.2.2])), (a12, .inr (4, [.ref a13, .int v0.1.2.2.2.2.1.1.2.1, .int v0.1.2.2.2.2.1.1.2.2])), (a13, .inl (ca 0, 512, .inl v0.1.2.2.2.2.1.1.1)), (a14, .inr (4, [.ref a15, .int v0.1.2.2.2.2.2.1.2.1, .int v0.1.2.2.2.2.2.1.2.2])), (a15, .inl (ca 0, 512, .inl v0.1.2.2.2.2.2.1.1)), (a16, .inr (6, [.ref a17, .ref a18, .int v0.1.2.2.2.2.2.2.1.2.2])), (a17, .inl (ca 0, 15, .inl v0.1.2.2.2.2.2.2.1.1)), (a18, .inl (ca 0, 15, .inl v0.1.2.2.2.2.2.2.1.2.1)), (a19, .inr (9, [.ref a20, .int v0.1.2.2.2.2.2.2.2.1.2.1, .int v0.1.2.2.2.2.2.2.2.1.2.2.1, .int v0.1.2.2.2.2.2.2.2.1.2.2.2])), (a20, .inl (ca 0, 300, .inl v0.1.2.2.2.2.2.2.2.1.1))]) (QI D ca r [(a0, .inr (11, [.ref a1, .ref a21, .ref a41, .ref a42, .ref a49, .ref a52, .ref a54, .ref a55])), (a1, .inr (10, [.ref a2, .ref a7, .ref a9, .ref a10, .ref a11, .ref a14, .ref a16, .ref a19, .int v0'.1.2.2.2.2.2.2.2.2.1, .int v0'.1.2.2.2.2.2.2.2.2.2.1, .int v0'.1.2.2.2.2.2.2.2.2.2.2.1, .int v0'.1.2.2.2.2.2.2.2.2.2.2.2.1, .int v0'.1.2.2.2.2.2.2.2.2.2.2.2.2.1, .int v0'.1.2.2.2.2.2.2.2.2.2.2.2.2.2])), (a2, .inr (7, [.ref a3, .ref a4, .ref a5, .ref a6, .int v0'.1.1.2.2.2.2])), (a3, .inl (ca 0, 9, .inl v0'.1.1.1)), (a4, .inl (ca 0, 4, .inl v0'.1.1.2.1)), (a5, .inl (ca 0, 4, .inl v0'.1.1.2.2.1)), (a6, .inl (ca 0, 4, .inl v0'.1.1.2.2.2.1)), (a7, .inr (2, [.ref a8, .int v0'.1.2.1.2.1, .int v0'.1.2.1.2.2.1, .int v0'.1.2.1.2.2.2.1, .int v0'.1.2.1.2.2.2.2])), (a8, .inl (ca 1, 17, .inr (.inl v0'.1.2.1.1))), (a9, .inr (8, [.int v0'.1.2.2.1.1, .int v0'.1.2.2.1.2.1, .int v0'.1.2.2.1.2.2])), (a10, .inr (1, [.int v0'.1.2.2.2.1.1, .int v0'.1.2.2.2.1.2.1, .int v0'.1.2.2.2.1.2.2.1, .int v0'.1.2.2.2.1.2.2.2.1, .int v0'.1.2.2.2.1.2.2.2.2.1, .int v0'.1.2.2.2.1.2.2.2.2.2])), (a11, .inr (3, [.ref a12, .int v0'.1.2.2.2.2.1.2.1, .int v0'.1.2.2.2.2.1.2.2.1, .int v0'.1.2.2.2.2.1.2.2.2.1, .int v0'.1.2.2.2.2.1.2.2.2.2.1, .int v0'.1.2.2.2.2.1.2.2.2.2.2.1, .int v0'.1.2.2.2.2.1.2.2.2.2.2.2])), (a12, .inr (4, [.ref a13, .int v0'.1.2.2.2.2.1.1.2.1, .int v0'.1.2.2.2.2.1.1.2.2])), (a13, .inl (ca 0, 512, .inl v0'.1.2.2.2.2.1.1.1)), (a14, .inr (4, [.ref a15, .int v0'.1.2.2.2.2.2.1.2.1, .int v0'.1.2.2.2.2.2.1.2.2])), (a15, .inl (ca 0, 512, .inl v0'.1.2.2.2.2.2.1.1)), (a16, .inr (6, [.ref a17, .ref a18, .int v0'.1.2.2.2.2.2.2.1.2.2])), (a17, .inl (ca 0, 15, .inl v0'.1.2.2.2.2.2.2.1.1)), (a18, .inl (ca 0, 15, .inl v0'.1.2.2.2.2.2.2.1.2.1)), (a19, .inr (9, [.ref a20, .int v0'.1.2.2.2.2.2.2.2.1.2.1, .int v0'.1.2.2.2.2.2.2.2.1.2.2.1, .int v0'.1.2.2.2.2.2.2.2.1.2.2.2])), (a20, .inl (ca 0, 300, .inl v0'.1.2.2.2.2.2.2.2.1.1))] (va_A [(a0, .inr (11, [.ref a1, .ref a21, .ref a41, .ref a42, .ref a49, .ref a52, .ref a54, .ref a55])), (a1, .inr (10, [.ref a2, .ref a7, .ref a9, .ref a10, .ref a11, .ref a14, .ref a16, .ref a19, .int v0.1.2.2.2.2.2.2.2.2.1, .int v0.1.2.2.2.2.2.2.2.2.2.1, .int v0.1.2.2.2.2.2.2.2.2.2.2.1, .int v0.1.2.2.2.2.2.2.2.2.2.2.2.1, .int v0.1.2.2.2.2.2.2.2.2.2.2.2.2.1, .int v0.1.2.2.2.2.2.2.2.2.2.2.2.2.2])), (a2, .inr (7, [.ref a3, .ref a4, .ref a5, .ref a6, .int v0.1.1.2.2.2.2])), (a3, .inl (ca 0, 9, .inl v0.1.1.1)), (a4, .inl (ca 0, 4, .inl v0.1.1.2.1)), (a5, .inl (ca 0, 4, .inl v0.1.1.2.2.1)), (a6, .inl (ca 0, 4, .inl v0.1.1.2.2.2.1)), (a7, .inr (2, [.ref a8, .int v0.1.2.1.2.1, .int v0.1.2.1.2.2.1, .int v0.1.2.1.2.2.2.1, .int v0.1.2.1.2.2.2.2])), (a8, .inl (ca 1, 17, .inr (.inl v0.1.2.1.1))), (a9, .inr (8, [.int v0.1.2.2.1.1, .int v0.1.2.2.1.2.1, .int v0.1.2.2.1.2.2])), (a10, .inr (1, [.int v0.1.2.2.2.1.1, .int v0.1.2.2.2.1.2.1, .int v0.1.2.2.2.1.2.2.1, .int v0.1.2.2.2.1.2.2.2.1, .int v0.1.2.2.2.1.2.2.2.2.1, .int v0.1.2.2.2.1.2.2.2.2.2])), (a11, .inr (3, [.ref a12, .int v0.1.2.2.2.2.1.2.1, .int v0.1.2.2.2.2.1.2.2.1, .int v0.1.2.2.2.2.1.2.2.2.1, .int v0.1.2.2.2.2.1.2.2.2.2.1, .int v0.1.2.2.2.2.1.2.2.2.2.2.1, .int v0.1.2.2.2.2.1.2.2.2.2.2.2])), (a12, .inr (4, [.ref a13, .int v0.1.2.2.2.2.1.1.2.1, .int v0.1.2.2.2.2.1.1.2.2])), (a13, .inl (ca 0, 512, .inl v0.1.2.2.2.2.1.1.1)), (a14, .inr (4, [.ref a15, .int v0.1.2.2.2.2.2.1.2.1, .int v0.1.2.2.2.2.2.1.2.2])), (a15, .inl (ca 0, 512, .inl v0.1.2.2.2.2.2.1.1)), (a16, .inr (6, [.ref a17, .ref a18, .int v0.1.2.2.2.2.2.2.1.2.2])), (a17, .inl (ca 0, 15, .inl v0.1.2.2.2.2.2.2.1.1)), (a18, .inl (ca 0, 15, .inl v0.1.2.2.2.2.2.2.1.2.1)), (a19, .inr (9, [.ref a20, .int v0.1.2.2.2.2.2.2.2.1.2.1, .int v0.1.2.2.2.2.2.2.2.1.2.2.1, .int v0.1.2.2.2.2.2.2.2.1.2.2.2])), (a20, .inl (ca 0, 300, .inl v0.1.2.2.2.2.2.2.2.1.1))] sz)) 0 0 (va_A [(a0, .inr (11, [.ref a1, .ref a21, .ref a41, .ref a42, .ref a49, .ref a52, .ref a54, .ref a55])), (a1, .inr (10, [.ref a2, .ref a7, .ref a9, .ref a10, .ref a11, .ref a14, .ref a16, .ref a19, .int v0.1.2.2.2.2.2.2.2.2.1, .int v0.1.2.2.2.2.2.2.2.2.2.1, .int v0.1.2.2.2.2.2.2.2.2.2.2.1, .int v0.1.2.2.2.2.2.2.2.2.2.2.2.1, .int v0.1.2.2.2.2.2.2.2.2.2.2.2.2.1, .int v0.1.2.2.2.2.2.2.2.2.2.2.2.2.2])), (a2, .inr (7, [.ref a3, .ref a4, .ref a5, .ref a6, .int v0.1.1.2.2.2.2])), (a3, .inl (ca 0, 9, .inl v0.1.1.1)), (a4, .inl (ca 0, 4, .inl v0.1.1.2.1)), (a5, .inl (ca 0, 4, .inl v0.1.1.2.2.1)), (a6, .inl (ca 0, 4, .inl v0.1.1.2.2.2.1)), (a7, .inr (2, [.ref a8, .int v0.1.2.1.2.1, .int v0.1.2.1.2.2.1, .int v0.1.2.1.2.2.2.1, .int v0.1.2.1.2.2.2.2])), (a8, .inl (ca 1, 17, .inr (.inl v0.1.2.1.1))), (a9, .inr (8, [.int v0.1.2.2.1.1, .int v0.1.2.2.1.2.1, .int v0.1.2.2.1.2.2])), (a10, .inr (1, [.int v0.1.2.2.2.1.1, .int v0.1.2.2.2.1.2.1, .int v0.1.2.2.2.1.2.2.1, .int v0.1.2.2.2.1.2.2.2.1, .int v0.1.2.2.2.1.2.2.2.2.1, .int v0.1.2.2.2.1.2.2.2.2.2])), (a11, .inr (3, [.ref a12, .int v0.1.2.2.2.2.1.2.1, .int v0.1.2.2.2.2.1.2.2.1, .int v0.1.2.2.2.2.1.2.2.2.1, .int v0.1.2.2.2.2.1.2.2.2.2.1, .int v0.1.2.2.2.2.1.2.2.2.2.2.1, .int v0.1.2.2.2.2.1.2.2.2.2.2.2])), (a12, .inr (4, [.ref a13, .int v0.1.2.2.2.2.1.1.2.1, .int v0.1.2.2.2.2.1.1.2.2])), (a13, .inl (ca 0, 512, .inl v0.1.2.2.2.2.1.1.1)), (a14, .inr (4, [.ref a15, .int v0.1.2.2.2.2.2.1.2.1, .int v0.1.2.2.2.2.2.1.2.2])), (a15, .inl (ca 0, 512, .inl v0.1.2.2.2.2.2.1.1)), (a16, .inr (6, [.ref a17, .ref a18, .int v0.1.2.2.2.2.2.2.1.2.2])), (a17, .inl (ca 0, 15, .inl v0.1.2.2.2.2.2.2.1.1)), (a18, .inl (ca 0, 15, .inl v0.1.2.2.2.2.2.2.1.2.1)), (a19, .inr (9, [.ref a20, .int v0.1.2.2.2.2.2.2.2.1.2.1, .int v0.1.2.2.2.2.2.2.2.1.2.2.1, .int v0.1.2.2.2.2.2.2.2.1.2.2.2])), (a20, .inl (ca 0, 300, .inl v0.1.2.2.2.2.2.2.2.1.1))] sz) := by
  refine en (y := yX11_take) (wsm := wq_X11_take) (av := [.ref a0, .int p1]) (cc := cX11_take) (maxL := 2) (ret := (some .int)) (Qf := fun A => (QI D ca r [(a0, .inr (11, [.ref a1, .ref a21, .ref a41, .ref a42, .ref a49, .ref a52, .ref a54, .ref a55])), (a1, .inr (10, [.ref a2, .ref a7, .ref a9, .ref a10, .ref a11, .ref a14, .ref a16, .ref a19, .int v0'.1.2.2.2.2.2.2.2.2.1, .int v0'.1.2.2.2.2.2.2.2.2.2.1, .int v0'.1.2.2.2.2.2.2.2.2.2.2.1, .int v0'.1.2.2.2.2.2.2.2.2.2.2.2.1, .int v0'.1.2.2.2.2.2.2.2.2.2.2.2.2.1, .int v0'.1.2.2.2.2.2.2.2.2.2.2.2.2.2])), (a2, .inr (7, [.ref a3, .ref a4, .ref a5, .ref a6, .int v0'.1.1.2.2.2.2])), (a3, .inl (ca 0, 9, .inl v0'.1.1.1)), (a4, .inl (ca 0, 4, .inl v0'.1.1.2.1)), (a5, .inl (ca 0, 4, .inl v0'.1.1.2.2.1)), (a6, .inl (ca 0, 4, .inl v0'.1.1.2.2.2.1)), (a7, .inr (2, [.ref a8, .int v0'.1.2.1.2.1, .int v0'.1.2.1.2.2.1, .int v0'.1.2.1.2.2.2.1, .int v0'.1.2.1.2.2.2.2])), (a8, .inl (ca 1, 17, .inr (.inl v0'.1.2.1.1))), (a9, .inr (8, [.int v0'.1.2.2.1.1, .int v0'.1.2.2.1.2.1, .int v0'.1.2.2.1.2.2])), (a10, .inr (1, [.int v0'.1.2.2.2.1.1, .int v0'.1.2.2.2.1.2.1, .int v0'.1.2.2.2.1.2.2.1, .int v0'.1.2.2.2.1.2.2.2.1, .int v0'.1.2.2.2.1.2.2.2.2.1, .int v0'.1.2.2.2.1.2.2.2.2.2])), (a11, .inr (3, [.ref a12, .int v0'.1.2.2.2.2.1.2.1, .int v0'.1.2.2.2.2.1.2.2.1, .int v0'.1.2.2.2.2.1.2.2.2.1, .int v0'.1.2.2.2.2.1.2.2.2.2.1, .int v0'.1.2.2.2.2.1.2.2.2.2.2.1, .int v0'.1.2.2.2.2.1.2.2.2.2.2.2])), (a12, .inr (4, [.ref a13, .int v0'.1.2.2.2.2.1.1.2.1, .int v0'.1.2.2.2.2.1.1.2.2])), (a13, .inl (ca 0, 512, .inl v0'.1.2.2.2.2.1.1.1)), (a14, .inr (4, [.ref a15, .int v0'.1.2.2.2.2.2.1.2.1, .int v0'.1.2.2.2.2.2.1.2.2])), (a15, .inl (ca 0, 512, .inl v0'.1.2.2.2.2.2.1.1)), (a16, .inr (6, [.ref a17, .ref a18, .int v0'.1.2.2.2.2.2.2.1.2.2])), (a17, .inl (ca 0, 15, .inl v0'.1.2.2.2.2.2.2.1.1)), (a18, .inl (ca 0, 15, .inl v0'.1.2.2.2.2.2.2.1.2.1)), (a19, .inr (9, [.ref a20, .int v0'.1.2.2.2.2.2.2.2.1.2.1, .int v0'.1.2.2.2.2.2.2.2.1.2.2.1, .int v0'.1.2.2.2.2.2.2.2.1.2.2.2])), (a20, .inl (ca 0, 300, .inl v0'.1.2.2.2.2.2.2.2.1.1))] A)) (by decide) rfl (Nat.le_of_ble_eq_true rfl) ?_
  intro p e s m args below meth c A Q ls hx hb hr hml hown hts hlocks hnm hA hN hZ hK hQ hP hD hS hl
  have w0 := hts _ (List.mem_cons_of_mem _ gw_2_187)
  have nw36 := NW.use (args := args) (w := .fieldLinkNest RX11 120 "NoiseWatch$Watch" "pool" "LNoiseWatch$Pool;" "NoiseWatch") hN 36 rfl
  have i10 : ∀ w ∈ u_ws RX10 TX10 14, w ∈ wq_X11_take := fun w h => List.mem_cons_of_mem _ (inX10 w h)
  have i11 : ∀ w ∈ u_ws RX11 TX11 8, w ∈ wq_X11_take := fun w h => List.mem_cons_of_mem _ (inX11 w h)
  unfold f_X11_take at hf
  refine lv_iload_n hx hb dX11_take_0 rfl (lv_at hl 1 rfl) ?_
  refine lv_iconst (v := 1) hx hb dX11_take_1 rfl ?_
  refine xc_lt (tgt := 11) hx hb dX11_take_2 (by decide) hf (fun hf => ?_) (fun hf => ?_)
  · refine lv_iconst (v := -1) hx hb dX11_take_11 rfl ?_
    refine lv_goto (tgt := 26) hx hb dX11_take_12 (by decide) ?_
    have he := Option.some.inj hf
    obtain ⟨e_r, he⟩ := Prod.mk.inj he
    have e_v0 := he
    refine rt_I hx hb hr hlocks hK hP hD hS hQ e_r ?_ dX11_take_26
    simp only [← e_v0]
  · refine lv_iload_n hx hb dX11_take_5 rfl (lv_at hl 1 rfl) ?_
    refine lv_bipush (v := 30) hx hb dX11_take_6 rfl ?_
    refine xc_le (tgt := 15) hx hb dX11_take_8 (by decide) hf (fun hf => ?_) (fun hf => ?_)
    · refine lv_aload_n hx hb dX11_take_15 rfl (lv_at hl 0 rfl) ?_
      refine va_get (C := RX11) (T := TX11) (N := 8) hx hb hts i11 hown hK hP 0 rfl rfl 0 (Nat.le_of_ble_eq_true rfl) w0 (fun _ h9 => h9) rfl dX11_take_16 ?_
      refine va_getN (C := RX10) (T := TX10) (N := 14) hx hb hts i10 hown hK hP 1 rfl rfl 4 (Nat.le_of_ble_eq_true rfl) nw36 (fun _ h9 => h9) rfl dX11_take_19 ?_
      refine lv_iload_n hx hb dX11_take_22 rfl (lv_at hl 1 rfl) ?_
      obtain ⟨r_1, u_2, hc2, hf⟩ := bnd2_el hf
      refine xV_I (As := [.int p1]) (wx := [(a0, .inr (11, [.ref a1, .ref a21, .ref a41, .ref a42, .ref a49, .ref a52, .ref a54, .ref a55])), (a1, .inr (10, [.ref a2, .ref a7, .ref a9, .ref a10, .ref a11, .ref a14, .ref a16, .ref a19, .int v0.1.2.2.2.2.2.2.2.2.1, .int v0.1.2.2.2.2.2.2.2.2.2.1, .int v0.1.2.2.2.2.2.2.2.2.2.2.1, .int v0.1.2.2.2.2.2.2.2.2.2.2.2.1, .int v0.1.2.2.2.2.2.2.2.2.2.2.2.2.1, .int v0.1.2.2.2.2.2.2.2.2.2.2.2.2.2])), (a2, .inr (7, [.ref a3, .ref a4, .ref a5, .ref a6, .int v0.1.1.2.2.2.2])), (a3, .inl (ca 0, 9, .inl v0.1.1.1)), (a4, .inl (ca 0, 4, .inl v0.1.1.2.1)), (a5, .inl (ca 0, 4, .inl v0.1.1.2.2.1)), (a6, .inl (ca 0, 4, .inl v0.1.1.2.2.2.1)), (a7, .inr (2, [.ref a8, .int v0.1.2.1.2.1, .int v0.1.2.1.2.2.1, .int v0.1.2.1.2.2.2.1, .int v0.1.2.1.2.2.2.2])), (a8, .inl (ca 1, 17, .inr (.inl v0.1.2.1.1))), (a9, .inr (8, [.int v0.1.2.2.1.1, .int v0.1.2.2.1.2.1, .int v0.1.2.2.1.2.2])), (a10, .inr (1, [.int v0.1.2.2.2.1.1, .int v0.1.2.2.2.1.2.1, .int v0.1.2.2.2.1.2.2.1, .int v0.1.2.2.2.1.2.2.2.1, .int v0.1.2.2.2.1.2.2.2.2.1, .int v0.1.2.2.2.1.2.2.2.2.2])), (a11, .inr (3, [.ref a12, .int u_2.2.1, .int u_2.2.2.1, .int u_2.2.2.2.1, .int u_2.2.2.2.2.1, .int u_2.2.2.2.2.2.1, .int u_2.2.2.2.2.2.2])), (a12, .inr (4, [.ref a13, .int u_2.1.2.1, .int u_2.1.2.2])), (a13, .inl (ca 0, 512, .inl u_2.1.1)), (a14, .inr (4, [.ref a15, .int v0.1.2.2.2.2.2.1.2.1, .int v0.1.2.2.2.2.2.1.2.2])), (a15, .inl (ca 0, 512, .inl v0.1.2.2.2.2.2.1.1)), (a16, .inr (6, [.ref a17, .ref a18, .int v0.1.2.2.2.2.2.2.1.2.2])), (a17, .inl (ca 0, 15, .inl v0.1.2.2.2.2.2.2.1.1)), (a18, .inl (ca 0, 15, .inl v0.1.2.2.2.2.2.2.1.2.1)), (a19, .inr (9, [.ref a20, .int v0.1.2.2.2.2.2.2.2.1.2.1, .int v0.1.2.2.2.2.2.2.2.1.2.2.1, .int v0.1.2.2.2.2.2.2.2.1.2.2.2])), (a20, .inl (ca 0, 300, .inl v0.1.2.2.2.2.2.2.2.1.1))]) ⟨hx, hb, hml, hown, hts⟩ (c_X3_takeBits l D ca zz a11 a12 a13 _ v0.1.2.2.2.2.1 p1 r_1 u_2 hc2) (cwV 1 hts (gV gw_3_237 gw_3_238 gw_3_239 gw_1_7 gw_4_0) rfl rfl rfl (by decide +kernel) ⟨(Nat.le_of_ble_eq_true rfl), (Nat.le_of_ble_eq_true rfl)⟩) hK hN hZ hA hP hD hS [11, 12, 13] [none, none, none, none, none, none, none, none, none, none, none, some 0, some 1, some 2, none, none, none, none, none, none, none] (by decide +kernel) rfl rfl rfl rfl 11 rfl rfl hl.1 rfl (Nat.le_of_ble_eq_true rfl) dX11_take_23 ⟨Nat.zero_le _, Nat.zero_le _⟩ rfl (fun H locs hP hD hS => ?_)
      have he := Option.some.inj hf
      obtain ⟨e_r, he⟩ := Prod.mk.inj he
      have e_v0 := he
      refine rt_I hx hb hr hlocks hK hP hD hS hQ e_r ?_ dX11_take_26
      simp only [← e_v0]
    · refine lv_iconst (v := -1) hx hb dX11_take_11 rfl ?_
      refine lv_goto (tgt := 26) hx hb dX11_take_12 (by decide) ?_
      have he := Option.some.inj hf
      obtain ⟨e_r, he⟩ := Prod.mk.inj he
      have e_v0 := he
      refine rt_I hx hb hr hlocks hK hP hD hS hQ e_r ?_ dX11_take_26
      simp only [← e_v0]
abbrev wq_X10_countOfParts : List Cond := Cond.code yX10_countOfParts cX10_countOfParts 2 (some .int) :: GL
set_option maxHeartbeats 4000000 in
set_option maxRecDepth 100000 in
theorem c_X10_countOfParts (l : Launch) (D : va_G) (ca : Nat → ClassId) (zz : Nat → Nat) (a0 a1 a6 a8 a9 a10 a11 a12 a13 a14 a15 a16 a17 a18 a19 : Nat) (sz : Nat) (v0 : V10) (p1 : Int32) (r : Int32) (hf : f_X10_countOfParts v0 p1 = some r) : Met l yX10_countOfParts wq_X10_countOfParts ({ frames := 0, cells := 0, slots := 0, locals := 0 } : Room) (PR D ca zz [.ref a0, .int p1] sz [(a0, .inr (10, [.ref a1, .ref a6, .ref a8, .ref a9, .ref a10, .ref a13, .ref a15, .ref a18, .int v0.2.2.2.2.2.2.2.2.1, .int v0.2.2.2.2.2.2.2.2.2.1, .int v0.2.2.2.2.2.2.2.2.2.2.1, .int v0.2.2.2.2.2.2.2.2.2.2.2.1, .int v0.2.2.2.2.2.2.2.2.2.2.2.2.1, .int v0.2.2.2.2.2.2.2.2.2.2.2.2.2])), (a9, .inr (1, [.int v0.2.2.2.1.1, .int v0.2.2.2.1.2.1, .int v0.2.2.2.1.2.2.1, .int v0.2.2.2.1.2.2.2.1, .int v0.2.2.2.1.2.2.2.2.1, .int v0.2.2.2.1.2.2.2.2.2])), (a10, .inr (3, [.ref a11, .int v0.2.2.2.2.1.2.1, .int v0.2.2.2.2.1.2.2.1, .int v0.2.2.2.2.1.2.2.2.1, .int v0.2.2.2.2.1.2.2.2.2.1, .int v0.2.2.2.2.1.2.2.2.2.2.1, .int v0.2.2.2.2.1.2.2.2.2.2.2])), (a11, .inr (4, [.ref a12, .int v0.2.2.2.2.1.1.2.1, .int v0.2.2.2.2.1.1.2.2])), (a13, .inr (4, [.ref a14, .int v0.2.2.2.2.2.1.2.1, .int v0.2.2.2.2.2.1.2.2])), (a15, .inr (6, [.ref a16, .ref a17, .int v0.2.2.2.2.2.2.1.2.2])), (a18, .inr (9, [.ref a19, .int v0.2.2.2.2.2.2.2.1.2.1, .int v0.2.2.2.2.2.2.2.1.2.2.1, .int v0.2.2.2.2.2.2.2.1.2.2.2]))]) (QI D ca r [(a0, .inr (10, [.ref a1, .ref a6, .ref a8, .ref a9, .ref a10, .ref a13, .ref a15, .ref a18, .int v0.2.2.2.2.2.2.2.2.1, .int v0.2.2.2.2.2.2.2.2.2.1, .int v0.2.2.2.2.2.2.2.2.2.2.1, .int v0.2.2.2.2.2.2.2.2.2.2.2.1, .int v0.2.2.2.2.2.2.2.2.2.2.2.2.1, .int v0.2.2.2.2.2.2.2.2.2.2.2.2.2])), (a9, .inr (1, [.int v0.2.2.2.1.1, .int v0.2.2.2.1.2.1, .int v0.2.2.2.1.2.2.1, .int v0.2.2.2.1.2.2.2.1, .int v0.2.2.2.1.2.2.2.2.1, .int v0.2.2.2.1.2.2.2.2.2])), (a10, .inr (3, [.ref a11, .int v0.2.2.2.2.1.2.1, .int v0.2.2.2.2.1.2.2.1, .int v0.2.2.2.2.1.2.2.2.1, .int v0.2.2.2.2.1.2.2.2.2.1, .int v0.2.2.2.2.1.2.2.2.2.2.1, .int v0.2.2.2.2.1.2.2.2.2.2.2])), (a11, .inr (4, [.ref a12, .int v0.2.2.2.2.1.1.2.1, .int v0.2.2.2.2.1.1.2.2])), (a13, .inr (4, [.ref a14, .int v0.2.2.2.2.2.1.2.1, .int v0.2.2.2.2.2.1.2.2])), (a15, .inr (6, [.ref a16, .ref a17, .int v0.2.2.2.2.2.2.1.2.2])), (a18, .inr (9, [.ref a19, .int v0.2.2.2.2.2.2.2.1.2.1, .int v0.2.2.2.2.2.2.2.1.2.2.1, .int v0.2.2.2.2.2.2.2.1.2.2.2]))] (va_A [(a0, .inr (10, [.ref a1, .ref a6, .ref a8, .ref a9, .ref a10, .ref a13, .ref a15, .ref a18, .int v0.2.2.2.2.2.2.2.2.1, .int v0.2.2.2.2.2.2.2.2.2.1, .int v0.2.2.2.2.2.2.2.2.2.2.1, .int v0.2.2.2.2.2.2.2.2.2.2.2.1, .int v0.2.2.2.2.2.2.2.2.2.2.2.2.1, .int v0.2.2.2.2.2.2.2.2.2.2.2.2.2])), (a9, .inr (1, [.int v0.2.2.2.1.1, .int v0.2.2.2.1.2.1, .int v0.2.2.2.1.2.2.1, .int v0.2.2.2.1.2.2.2.1, .int v0.2.2.2.1.2.2.2.2.1, .int v0.2.2.2.1.2.2.2.2.2])), (a10, .inr (3, [.ref a11, .int v0.2.2.2.2.1.2.1, .int v0.2.2.2.2.1.2.2.1, .int v0.2.2.2.2.1.2.2.2.1, .int v0.2.2.2.2.1.2.2.2.2.1, .int v0.2.2.2.2.1.2.2.2.2.2.1, .int v0.2.2.2.2.1.2.2.2.2.2.2])), (a11, .inr (4, [.ref a12, .int v0.2.2.2.2.1.1.2.1, .int v0.2.2.2.2.1.1.2.2])), (a13, .inr (4, [.ref a14, .int v0.2.2.2.2.2.1.2.1, .int v0.2.2.2.2.2.1.2.2])), (a15, .inr (6, [.ref a16, .ref a17, .int v0.2.2.2.2.2.2.1.2.2])), (a18, .inr (9, [.ref a19, .int v0.2.2.2.2.2.2.2.1.2.1, .int v0.2.2.2.2.2.2.2.1.2.2.1, .int v0.2.2.2.2.2.2.2.1.2.2.2]))] sz)) 0 0 (va_A [(a0, .inr (10, [.ref a1, .ref a6, .ref a8, .ref a9, .ref a10, .ref a13, .ref a15, .ref a18, .int v0.2.2.2.2.2.2.2.2.1, .int v0.2.2.2.2.2.2.2.2.2.1, .int v0.2.2.2.2.2.2.2.2.2.2.1, .int v0.2.2.2.2.2.2.2.2.2.2.2.1, .int v0.2.2.2.2.2.2.2.2.2.2.2.2.1, .int v0.2.2.2.2.2.2.2.2.2.2.2.2.2])), (a9, .inr (1, [.int v0.2.2.2.1.1, .int v0.2.2.2.1.2.1, .int v0.2.2.2.1.2.2.1, .int v0.2.2.2.1.2.2.2.1, .int v0.2.2.2.1.2.2.2.2.1, .int v0.2.2.2.1.2.2.2.2.2])), (a10, .inr (3, [.ref a11, .int v0.2.2.2.2.1.2.1, .int v0.2.2.2.2.1.2.2.1, .int v0.2.2.2.2.1.2.2.2.1, .int v0.2.2.2.2.1.2.2.2.2.1, .int v0.2.2.2.2.1.2.2.2.2.2.1, .int v0.2.2.2.2.1.2.2.2.2.2.2])), (a11, .inr (4, [.ref a12, .int v0.2.2.2.2.1.1.2.1, .int v0.2.2.2.2.1.1.2.2])), (a13, .inr (4, [.ref a14, .int v0.2.2.2.2.2.1.2.1, .int v0.2.2.2.2.2.1.2.2])), (a15, .inr (6, [.ref a16, .ref a17, .int v0.2.2.2.2.2.2.1.2.2])), (a18, .inr (9, [.ref a19, .int v0.2.2.2.2.2.2.2.1.2.1, .int v0.2.2.2.2.2.2.2.1.2.2.1, .int v0.2.2.2.2.2.2.2.1.2.2.2]))] sz) := by
  refine en (y := yX10_countOfParts) (wsm := wq_X10_countOfParts) (av := [.ref a0, .int p1]) (cc := cX10_countOfParts) (maxL := 2) (ret := (some .int)) (Qf := fun A => (QI D ca r [(a0, .inr (10, [.ref a1, .ref a6, .ref a8, .ref a9, .ref a10, .ref a13, .ref a15, .ref a18, .int v0.2.2.2.2.2.2.2.2.1, .int v0.2.2.2.2.2.2.2.2.2.1, .int v0.2.2.2.2.2.2.2.2.2.2.1, .int v0.2.2.2.2.2.2.2.2.2.2.2.1, .int v0.2.2.2.2.2.2.2.2.2.2.2.2.1, .int v0.2.2.2.2.2.2.2.2.2.2.2.2.2])), (a9, .inr (1, [.int v0.2.2.2.1.1, .int v0.2.2.2.1.2.1, .int v0.2.2.2.1.2.2.1, .int v0.2.2.2.1.2.2.2.1, .int v0.2.2.2.1.2.2.2.2.1, .int v0.2.2.2.1.2.2.2.2.2])), (a10, .inr (3, [.ref a11, .int v0.2.2.2.2.1.2.1, .int v0.2.2.2.2.1.2.2.1, .int v0.2.2.2.2.1.2.2.2.1, .int v0.2.2.2.2.1.2.2.2.2.1, .int v0.2.2.2.2.1.2.2.2.2.2.1, .int v0.2.2.2.2.1.2.2.2.2.2.2])), (a11, .inr (4, [.ref a12, .int v0.2.2.2.2.1.1.2.1, .int v0.2.2.2.2.1.1.2.2])), (a13, .inr (4, [.ref a14, .int v0.2.2.2.2.2.1.2.1, .int v0.2.2.2.2.2.1.2.2])), (a15, .inr (6, [.ref a16, .ref a17, .int v0.2.2.2.2.2.2.1.2.2])), (a18, .inr (9, [.ref a19, .int v0.2.2.2.2.2.2.2.1.2.1, .int v0.2.2.2.2.2.2.2.1.2.2.1, .int v0.2.2.2.2.2.2.2.1.2.2.2]))] A)) (by decide) rfl (Nat.le_of_ble_eq_true rfl) ?_
  intro p e s m args below meth c A Q ls hx hb hr hml hown hts hlocks hnm hA hN hZ hK hQ hP hD hS hl
  have w0 := hts _ (List.mem_cons_of_mem _ gw_2_76)
  have w1 := hts _ (List.mem_cons_of_mem _ gw_2_77)
  have w2 := hts _ (List.mem_cons_of_mem _ gw_2_79)
  have w3 := hts _ (List.mem_cons_of_mem _ gw_2_81)
  have w4 := hts _ (List.mem_cons_of_mem _ gw_2_83)
  have nw12 := NW.use (args := args) (w := .fieldLinkNest RX10 155 "NoiseWatch$Counts" "alike" "I" "NoiseWatch") hN 12 rfl
  have nw13 := NW.use (args := args) (w := .fieldLinkNest RX10 158 "NoiseWatch$Counts" "inWindow" "I" "NoiseWatch") hN 13 rfl
  have nw15 := NW.use (args := args) (w := .fieldLinkNest RX10 161 "NoiseWatch$Counts" "like" "I" "NoiseWatch") hN 15 rfl
  have nw17 := NW.use (args := args) (w := .fieldLinkNest RX10 164 "NoiseWatch$Counts" "unlike" "I" "NoiseWatch") hN 17 rfl
  have nw24 := NW.use (args := args) (w := .fieldLinkNest RX10 167 "NoiseWatch$Pool" "inBlock" "I" "NoiseWatch") hN 24 rfl
  have nw22 := NW.use (args := args) (w := .fieldLinkNest RX10 170 "NoiseWatch$Pool" "bits" "LNoiseWatch$Queue;" "NoiseWatch") hN 22 rfl
  have nw20 := NW.use (args := args) (w := .fieldLinkNest RX10 121 "NoiseWatch$Queue" "size" "I" "NoiseWatch") hN 20 rfl
  have nw25 := NW.use (args := args) (w := .fieldLinkNest RX10 173 "NoiseWatch$Pool" "came" "I" "NoiseWatch") hN 25 rfl
  have nw26 := NW.use (args := args) (w := .fieldLinkNest RX10 176 "NoiseWatch$Pool" "wasted" "I" "NoiseWatch") hN 26 rfl
  have nw27 := NW.use (args := args) (w := .fieldLinkNest RX10 179 "NoiseWatch$Pool" "taken" "I" "NoiseWatch") hN 27 rfl
  have nw28 := NW.use (args := args) (w := .fieldLinkNest RX10 182 "NoiseWatch$Pool" "gone" "I" "NoiseWatch") hN 28 rfl
  have nw29 := NW.use (args := args) (w := .fieldLinkNest RX10 185 "NoiseWatch$Rows" "size" "I" "NoiseWatch") hN 29 rfl
  have nw31 := NW.use (args := args) (w := .fieldLinkNest RX10 186 "NoiseWatch$Text" "size" "I" "NoiseWatch") hN 31 rfl
  have i1 : ∀ w ∈ u_ws RX1 TX1 6, w ∈ wq_X10_countOfParts := fun w h => List.mem_cons_of_mem _ (inX1 w h)
  have i10 : ∀ w ∈ u_ws RX10 TX10 14, w ∈ wq_X10_countOfParts := fun w h => List.mem_cons_of_mem _ (inX10 w h)
  have i3 : ∀ w ∈ u_ws RX3 TX3 7, w ∈ wq_X10_countOfParts := fun w h => List.mem_cons_of_mem _ (inX3 w h)
  have i4 : ∀ w ∈ u_ws RX4 TX4 3, w ∈ wq_X10_countOfParts := fun w h => List.mem_cons_of_mem _ (inX4 w h)
  have i6 : ∀ w ∈ u_ws RX6 TX6 3, w ∈ wq_X10_countOfParts := fun w h => List.mem_cons_of_mem _ (inX6 w h)
  have i9 : ∀ w ∈ u_ws RX9 TX9 4, w ∈ wq_X10_countOfParts := fun w h => List.mem_cons_of_mem _ (inX9 w h)
  unfold f_X10_countOfParts at hf
  refine lv_iload_n hx hb dX10_countOfParts_0 rfl (lv_at hl 1 rfl) ?_
  by_cases hcs : p1 < (16 : Int32) ∨ (28 : Int32) < p1
  · have hf := ite_t hcs hf
    refine xtabO (tgt := 175) hx hb dX10_countOfParts_1 (a := 16) (b := 28) rfl rfl hcs (by decide) ?_
    refine lv_iconst (v := -1) hx hb dX10_countOfParts_175 rfl ?_
    have he := Option.some.inj hf
    have e_r := he
    refine rt_I hx hb hr hlocks hK hP hD hS hQ e_r ?_ dX10_countOfParts_176
    rfl
  · have hf := ite_f hcs hf
    by_cases hc0 : p1 = (16 : Int32)
    · have hf := ite_t hc0 hf
      refine xtabK (tgt := 68) hx hb dX10_countOfParts_1 hc0 (by decide) (by decide) rfl (by decide) ?_
      refine lv_aload_n hx hb dX10_countOfParts_68 rfl (lv_at hl 0 rfl) ?_
      refine va_get (C := RX10) (T := TX10) (N := 14) hx hb hts i10 hown hK hP 0 rfl rfl 3 (Nat.le_of_ble_eq_true rfl) w0 (fun _ h9 => h9) rfl dX10_countOfParts_69 ?_
      refine va_getN (C := RX1) (T := TX1) (N := 6) hx hb hts i1 hown hK hP 1 rfl rfl 0 (Nat.le_of_ble_eq_true rfl) nw12 (fun _ h9 => h9) rfl dX10_countOfParts_72 ?_
      have he := Option.some.inj hf
      have e_r := he
      refine rt_I hx hb hr hlocks hK hP hD hS hQ e_r ?_ dX10_countOfParts_75
      rfl
    have hf := ite_f hc0 hf
    by_cases hc1 : p1 = (17 : Int32)
    · have hf := ite_t hc1 hf
      refine xtabK (tgt := 76) hx hb dX10_countOfParts_1 hc1 (by decide) (by decide) rfl (by decide) ?_
      refine lv_aload_n hx hb dX10_countOfParts_76 rfl (lv_at hl 0 rfl) ?_
      refine va_get (C := RX10) (T := TX10) (N := 14) hx hb hts i10 hown hK hP 0 rfl rfl 3 (Nat.le_of_ble_eq_true rfl) w0 (fun _ h9 => h9) rfl dX10_countOfParts_77 ?_
      refine va_getN (C := RX1) (T := TX1) (N := 6) hx hb hts i1 hown hK hP 1 rfl rfl 2 (Nat.le_of_ble_eq_true rfl) nw13 (fun _ h9 => h9) rfl dX10_countOfParts_80 ?_
      have he := Option.some.inj hf
      have e_r := he
      refine rt_I hx hb hr hlocks hK hP hD hS hQ e_r ?_ dX10_countOfParts_83
      rfl
    have hf := ite_f hc1 hf
    by_cases hc2 : p1 = (18 : Int32)
    · have hf := ite_t hc2 hf
      refine xtabK (tgt := 84) hx hb dX10_countOfParts_1 hc2 (by decide) (by decide) rfl (by decide) ?_
      refine lv_aload_n hx hb dX10_countOfParts_84 rfl (lv_at hl 0 rfl) ?_
      refine va_get (C := RX10) (T := TX10) (N := 14) hx hb hts i10 hown hK hP 0 rfl rfl 3 (Nat.le_of_ble_eq_true rfl) w0 (fun _ h9 => h9) rfl dX10_countOfParts_85 ?_
      refine va_getN (C := RX1) (T := TX1) (N := 6) hx hb hts i1 hown hK hP 1 rfl rfl 4 (Nat.le_of_ble_eq_true rfl) nw15 (fun _ h9 => h9) rfl dX10_countOfParts_88 ?_
      have he := Option.some.inj hf
      have e_r := he
      refine rt_I hx hb hr hlocks hK hP hD hS hQ e_r ?_ dX10_countOfParts_91
      rfl
    have hf := ite_f hc2 hf
    by_cases hc3 : p1 = (19 : Int32)
    · have hf := ite_t hc3 hf
      refine xtabK (tgt := 92) hx hb dX10_countOfParts_1 hc3 (by decide) (by decide) rfl (by decide) ?_
      refine lv_aload_n hx hb dX10_countOfParts_92 rfl (lv_at hl 0 rfl) ?_
      refine va_get (C := RX10) (T := TX10) (N := 14) hx hb hts i10 hown hK hP 0 rfl rfl 3 (Nat.le_of_ble_eq_true rfl) w0 (fun _ h9 => h9) rfl dX10_countOfParts_93 ?_
      refine va_getN (C := RX1) (T := TX1) (N := 6) hx hb hts i1 hown hK hP 1 rfl rfl 5 (Nat.le_of_ble_eq_true rfl) nw17 (fun _ h9 => h9) rfl dX10_countOfParts_96 ?_
      have he := Option.some.inj hf
      have e_r := he
      refine rt_I hx hb hr hlocks hK hP hD hS hQ e_r ?_ dX10_countOfParts_99
      rfl
    have hf := ite_f hc3 hf
    by_cases hc4 : p1 = (20 : Int32)
    · have hf := ite_t hc4 hf
      refine xtabK (tgt := 100) hx hb dX10_countOfParts_1 hc4 (by decide) (by decide) rfl (by decide) ?_
      refine lv_aload_n hx hb dX10_countOfParts_100 rfl (lv_at hl 0 rfl) ?_
      refine va_get (C := RX10) (T := TX10) (N := 14) hx hb hts i10 hown hK hP 0 rfl rfl 4 (Nat.le_of_ble_eq_true rfl) w1 (fun _ h9 => h9) rfl dX10_countOfParts_101 ?_
      refine va_getN (C := RX3) (T := TX3) (N := 7) hx hb hts i3 hown hK hP 2 rfl rfl 2 (Nat.le_of_ble_eq_true rfl) nw24 (fun _ h9 => h9) rfl dX10_countOfParts_104 ?_
      have he := Option.some.inj hf
      have e_r := he
      refine rt_I hx hb hr hlocks hK hP hD hS hQ e_r ?_ dX10_countOfParts_107
      rfl
    have hf := ite_f hc4 hf
    by_cases hc5 : p1 = (21 : Int32)
    · have hf := ite_t hc5 hf
      refine xtabK (tgt := 108) hx hb dX10_countOfParts_1 hc5 (by decide) (by decide) rfl (by decide) ?_
      refine lv_aload_n hx hb dX10_countOfParts_108 rfl (lv_at hl 0 rfl) ?_
      refine va_get (C := RX10) (T := TX10) (N := 14) hx hb hts i10 hown hK hP 0 rfl rfl 4 (Nat.le_of_ble_eq_true rfl) w1 (fun _ h9 => h9) rfl dX10_countOfParts_109 ?_
      refine va_getN (C := RX3) (T := TX3) (N := 7) hx hb hts i3 hown hK hP 2 rfl rfl 0 (Nat.le_of_ble_eq_true rfl) nw22 (fun _ h9 => h9) rfl dX10_countOfParts_112 ?_
      refine va_getN (C := RX4) (T := TX4) (N := 3) hx hb hts i4 hown hK hP 3 rfl rfl 2 (Nat.le_of_ble_eq_true rfl) nw20 (fun _ h9 => h9) rfl dX10_countOfParts_115 ?_
      have he := Option.some.inj hf
      have e_r := he
      refine rt_I hx hb hr hlocks hK hP hD hS hQ e_r ?_ dX10_countOfParts_118
      rfl
    have hf := ite_f hc5 hf
    by_cases hc6 : p1 = (22 : Int32)
    · have hf := ite_t hc6 hf
      refine xtabK (tgt := 119) hx hb dX10_countOfParts_1 hc6 (by decide) (by decide) rfl (by decide) ?_
      refine lv_aload_n hx hb dX10_countOfParts_119 rfl (lv_at hl 0 rfl) ?_
      refine va_get (C := RX10) (T := TX10) (N := 14) hx hb hts i10 hown hK hP 0 rfl rfl 4 (Nat.le_of_ble_eq_true rfl) w1 (fun _ h9 => h9) rfl dX10_countOfParts_120 ?_
      refine va_getN (C := RX3) (T := TX3) (N := 7) hx hb hts i3 hown hK hP 2 rfl rfl 3 (Nat.le_of_ble_eq_true rfl) nw25 (fun _ h9 => h9) rfl dX10_countOfParts_123 ?_
      have he := Option.some.inj hf
      have e_r := he
      refine rt_I hx hb hr hlocks hK hP hD hS hQ e_r ?_ dX10_countOfParts_126
      rfl
    have hf := ite_f hc6 hf
    by_cases hc7 : p1 = (23 : Int32)
    · have hf := ite_t hc7 hf
      refine xtabK (tgt := 127) hx hb dX10_countOfParts_1 hc7 (by decide) (by decide) rfl (by decide) ?_
      refine lv_aload_n hx hb dX10_countOfParts_127 rfl (lv_at hl 0 rfl) ?_
      refine va_get (C := RX10) (T := TX10) (N := 14) hx hb hts i10 hown hK hP 0 rfl rfl 4 (Nat.le_of_ble_eq_true rfl) w1 (fun _ h9 => h9) rfl dX10_countOfParts_128 ?_
      refine va_getN (C := RX3) (T := TX3) (N := 7) hx hb hts i3 hown hK hP 2 rfl rfl 4 (Nat.le_of_ble_eq_true rfl) nw26 (fun _ h9 => h9) rfl dX10_countOfParts_131 ?_
      have he := Option.some.inj hf
      have e_r := he
      refine rt_I hx hb hr hlocks hK hP hD hS hQ e_r ?_ dX10_countOfParts_134
      rfl
    have hf := ite_f hc7 hf
    by_cases hc8 : p1 = (24 : Int32)
    · have hf := ite_t hc8 hf
      refine xtabK (tgt := 135) hx hb dX10_countOfParts_1 hc8 (by decide) (by decide) rfl (by decide) ?_
      refine lv_aload_n hx hb dX10_countOfParts_135 rfl (lv_at hl 0 rfl) ?_
      refine va_get (C := RX10) (T := TX10) (N := 14) hx hb hts i10 hown hK hP 0 rfl rfl 4 (Nat.le_of_ble_eq_true rfl) w1 (fun _ h9 => h9) rfl dX10_countOfParts_136 ?_
      refine va_getN (C := RX3) (T := TX3) (N := 7) hx hb hts i3 hown hK hP 2 rfl rfl 5 (Nat.le_of_ble_eq_true rfl) nw27 (fun _ h9 => h9) rfl dX10_countOfParts_139 ?_
      have he := Option.some.inj hf
      have e_r := he
      refine rt_I hx hb hr hlocks hK hP hD hS hQ e_r ?_ dX10_countOfParts_142
      rfl
    have hf := ite_f hc8 hf
    by_cases hc9 : p1 = (25 : Int32)
    · have hf := ite_t hc9 hf
      refine xtabK (tgt := 143) hx hb dX10_countOfParts_1 hc9 (by decide) (by decide) rfl (by decide) ?_
      refine lv_aload_n hx hb dX10_countOfParts_143 rfl (lv_at hl 0 rfl) ?_
      refine va_get (C := RX10) (T := TX10) (N := 14) hx hb hts i10 hown hK hP 0 rfl rfl 4 (Nat.le_of_ble_eq_true rfl) w1 (fun _ h9 => h9) rfl dX10_countOfParts_144 ?_
      refine va_getN (C := RX3) (T := TX3) (N := 7) hx hb hts i3 hown hK hP 2 rfl rfl 6 (Nat.le_of_ble_eq_true rfl) nw28 (fun _ h9 => h9) rfl dX10_countOfParts_147 ?_
      have he := Option.some.inj hf
      have e_r := he
      refine rt_I hx hb hr hlocks hK hP hD hS hQ e_r ?_ dX10_countOfParts_150
      rfl
    have hf := ite_f hc9 hf
    by_cases hc10 : p1 = (26 : Int32)
    · have hf := ite_t hc10 hf
      refine xtabK (tgt := 151) hx hb dX10_countOfParts_1 hc10 (by decide) (by decide) rfl (by decide) ?_
      refine lv_aload_n hx hb dX10_countOfParts_151 rfl (lv_at hl 0 rfl) ?_
      refine va_get (C := RX10) (T := TX10) (N := 14) hx hb hts i10 hown hK hP 0 rfl rfl 5 (Nat.le_of_ble_eq_true rfl) w2 (fun _ h9 => h9) rfl dX10_countOfParts_152 ?_
      refine va_getN (C := RX4) (T := TX4) (N := 3) hx hb hts i4 hown hK hP 4 rfl rfl 2 (Nat.le_of_ble_eq_true rfl) nw20 (fun _ h9 => h9) rfl dX10_countOfParts_155 ?_
      have he := Option.some.inj hf
      have e_r := he
      refine rt_I hx hb hr hlocks hK hP hD hS hQ e_r ?_ dX10_countOfParts_158
      rfl
    have hf := ite_f hc10 hf
    by_cases hc11 : p1 = (27 : Int32)
    · have hf := ite_t hc11 hf
      refine xtabK (tgt := 159) hx hb dX10_countOfParts_1 hc11 (by decide) (by decide) rfl (by decide) ?_
      refine lv_aload_n hx hb dX10_countOfParts_159 rfl (lv_at hl 0 rfl) ?_
      refine va_get (C := RX10) (T := TX10) (N := 14) hx hb hts i10 hown hK hP 0 rfl rfl 6 (Nat.le_of_ble_eq_true rfl) w3 (fun _ h9 => h9) rfl dX10_countOfParts_160 ?_
      refine va_getN (C := RX6) (T := TX6) (N := 3) hx hb hts i6 hown hK hP 5 rfl rfl 2 (Nat.le_of_ble_eq_true rfl) nw29 (fun _ h9 => h9) rfl dX10_countOfParts_163 ?_
      have he := Option.some.inj hf
      have e_r := he
      refine rt_I hx hb hr hlocks hK hP hD hS hQ e_r ?_ dX10_countOfParts_166
      rfl
    have hf := ite_f hc11 hf
    by_cases hc12 : p1 = (28 : Int32)
    · have hf := ite_t hc12 hf
      refine xtabK (tgt := 167) hx hb dX10_countOfParts_1 hc12 (by decide) (by decide) rfl (by decide) ?_
      refine lv_aload_n hx hb dX10_countOfParts_167 rfl (lv_at hl 0 rfl) ?_
      refine va_get (C := RX10) (T := TX10) (N := 14) hx hb hts i10 hown hK hP 0 rfl rfl 7 (Nat.le_of_ble_eq_true rfl) w4 (fun _ h9 => h9) rfl dX10_countOfParts_168 ?_
      refine va_getN (C := RX9) (T := TX9) (N := 4) hx hb hts i9 hown hK hP 6 rfl rfl 1 (Nat.le_of_ble_eq_true rfl) nw31 (fun _ h9 => h9) rfl dX10_countOfParts_171 ?_
      have he := Option.some.inj hf
      have e_r := he
      refine rt_I hx hb hr hlocks hK hP hD hS hQ e_r ?_ dX10_countOfParts_174
      rfl
    have hf := ite_f hc12 hf
    exact no_el hf
abbrev wq_X10_countOf : List Cond := Cond.code yX10_countOf cX10_countOf 2 (some .int) :: GL
set_option maxHeartbeats 4000000 in
set_option maxRecDepth 100000 in
theorem c_X10_countOf (l : Launch) (D : va_G) (ca : Nat → ClassId) (zz : Nat → Nat) (a0 a1 a2 a3 a4 a5 a6 a8 a9 a10 a11 a12 a13 a14 a15 a16 a17 a18 a19 : Nat) (sz : Nat) (v0 : V10) (p1 : Int32) (r : Int32) (hf : f_X10_countOf v0 p1 = some r) : Met l yX10_countOf wq_X10_countOf ({ frames := 1, cells := 0, slots := 0, locals := 21 } : Room) (PR D ca zz [.ref a0, .int p1] sz [(a0, .inr (10, [.ref a1, .ref a6, .ref a8, .ref a9, .ref a10, .ref a13, .ref a15, .ref a18, .int v0.2.2.2.2.2.2.2.2.1, .int v0.2.2.2.2.2.2.2.2.2.1, .int v0.2.2.2.2.2.2.2.2.2.2.1, .int v0.2.2.2.2.2.2.2.2.2.2.2.1, .int v0.2.2.2.2.2.2.2.2.2.2.2.2.1, .int v0.2.2.2.2.2.2.2.2.2.2.2.2.2])), (a1, .inr (7, [.ref a2, .ref a3, .ref a4, .ref a5, .int v0.1.2.2.2.2])), (a2, .inl (ca 0, 9, .inl v0.1.1)), (a8, .inr (8, [.int v0.2.2.1.1, .int v0.2.2.1.2.1, .int v0.2.2.1.2.2])), (a9, .inr (1, [.int v0.2.2.2.1.1, .int v0.2.2.2.1.2.1, .int v0.2.2.2.1.2.2.1, .int v0.2.2.2.1.2.2.2.1, .int v0.2.2.2.1.2.2.2.2.1, .int v0.2.2.2.1.2.2.2.2.2])), (a10, .inr (3, [.ref a11, .int v0.2.2.2.2.1.2.1, .int v0.2.2.2.2.1.2.2.1, .int v0.2.2.2.2.1.2.2.2.1, .int v0.2.2.2.2.1.2.2.2.2.1, .int v0.2.2.2.2.1.2.2.2.2.2.1, .int v0.2.2.2.2.1.2.2.2.2.2.2])), (a11, .inr (4, [.ref a12, .int v0.2.2.2.2.1.1.2.1, .int v0.2.2.2.2.1.1.2.2])), (a13, .inr (4, [.ref a14, .int v0.2.2.2.2.2.1.2.1, .int v0.2.2.2.2.2.1.2.2])), (a15, .inr (6, [.ref a16, .ref a17, .int v0.2.2.2.2.2.2.1.2.2])), (a18, .inr (9, [.ref a19, .int v0.2.2.2.2.2.2.2.1.2.1, .int v0.2.2.2.2.2.2.2.1.2.2.1, .int v0.2.2.2.2.2.2.2.1.2.2.2]))]) (QI D ca r [(a0, .inr (10, [.ref a1, .ref a6, .ref a8, .ref a9, .ref a10, .ref a13, .ref a15, .ref a18, .int v0.2.2.2.2.2.2.2.2.1, .int v0.2.2.2.2.2.2.2.2.2.1, .int v0.2.2.2.2.2.2.2.2.2.2.1, .int v0.2.2.2.2.2.2.2.2.2.2.2.1, .int v0.2.2.2.2.2.2.2.2.2.2.2.2.1, .int v0.2.2.2.2.2.2.2.2.2.2.2.2.2])), (a1, .inr (7, [.ref a2, .ref a3, .ref a4, .ref a5, .int v0.1.2.2.2.2])), (a2, .inl (ca 0, 9, .inl v0.1.1)), (a8, .inr (8, [.int v0.2.2.1.1, .int v0.2.2.1.2.1, .int v0.2.2.1.2.2])), (a9, .inr (1, [.int v0.2.2.2.1.1, .int v0.2.2.2.1.2.1, .int v0.2.2.2.1.2.2.1, .int v0.2.2.2.1.2.2.2.1, .int v0.2.2.2.1.2.2.2.2.1, .int v0.2.2.2.1.2.2.2.2.2])), (a10, .inr (3, [.ref a11, .int v0.2.2.2.2.1.2.1, .int v0.2.2.2.2.1.2.2.1, .int v0.2.2.2.2.1.2.2.2.1, .int v0.2.2.2.2.1.2.2.2.2.1, .int v0.2.2.2.2.1.2.2.2.2.2.1, .int v0.2.2.2.2.1.2.2.2.2.2.2])), (a11, .inr (4, [.ref a12, .int v0.2.2.2.2.1.1.2.1, .int v0.2.2.2.2.1.1.2.2])), (a13, .inr (4, [.ref a14, .int v0.2.2.2.2.2.1.2.1, .int v0.2.2.2.2.2.1.2.2])), (a15, .inr (6, [.ref a16, .ref a17, .int v0.2.2.2.2.2.2.1.2.2])), (a18, .inr (9, [.ref a19, .int v0.2.2.2.2.2.2.2.1.2.1, .int v0.2.2.2.2.2.2.2.1.2.2.1, .int v0.2.2.2.2.2.2.2.1.2.2.2]))] (va_A [(a0, .inr (10, [.ref a1, .ref a6, .ref a8, .ref a9, .ref a10, .ref a13, .ref a15, .ref a18, .int v0.2.2.2.2.2.2.2.2.1, .int v0.2.2.2.2.2.2.2.2.2.1, .int v0.2.2.2.2.2.2.2.2.2.2.1, .int v0.2.2.2.2.2.2.2.2.2.2.2.1, .int v0.2.2.2.2.2.2.2.2.2.2.2.2.1, .int v0.2.2.2.2.2.2.2.2.2.2.2.2.2])), (a1, .inr (7, [.ref a2, .ref a3, .ref a4, .ref a5, .int v0.1.2.2.2.2])), (a2, .inl (ca 0, 9, .inl v0.1.1)), (a8, .inr (8, [.int v0.2.2.1.1, .int v0.2.2.1.2.1, .int v0.2.2.1.2.2])), (a9, .inr (1, [.int v0.2.2.2.1.1, .int v0.2.2.2.1.2.1, .int v0.2.2.2.1.2.2.1, .int v0.2.2.2.1.2.2.2.1, .int v0.2.2.2.1.2.2.2.2.1, .int v0.2.2.2.1.2.2.2.2.2])), (a10, .inr (3, [.ref a11, .int v0.2.2.2.2.1.2.1, .int v0.2.2.2.2.1.2.2.1, .int v0.2.2.2.2.1.2.2.2.1, .int v0.2.2.2.2.1.2.2.2.2.1, .int v0.2.2.2.2.1.2.2.2.2.2.1, .int v0.2.2.2.2.1.2.2.2.2.2.2])), (a11, .inr (4, [.ref a12, .int v0.2.2.2.2.1.1.2.1, .int v0.2.2.2.2.1.1.2.2])), (a13, .inr (4, [.ref a14, .int v0.2.2.2.2.2.1.2.1, .int v0.2.2.2.2.2.1.2.2])), (a15, .inr (6, [.ref a16, .ref a17, .int v0.2.2.2.2.2.2.1.2.2])), (a18, .inr (9, [.ref a19, .int v0.2.2.2.2.2.2.2.1.2.1, .int v0.2.2.2.2.2.2.2.1.2.2.1, .int v0.2.2.2.2.2.2.2.1.2.2.2]))] sz)) 0 0 (va_A [(a0, .inr (10, [.ref a1, .ref a6, .ref a8, .ref a9, .ref a10, .ref a13, .ref a15, .ref a18, .int v0.2.2.2.2.2.2.2.2.1, .int v0.2.2.2.2.2.2.2.2.2.1, .int v0.2.2.2.2.2.2.2.2.2.2.1, .int v0.2.2.2.2.2.2.2.2.2.2.2.1, .int v0.2.2.2.2.2.2.2.2.2.2.2.2.1, .int v0.2.2.2.2.2.2.2.2.2.2.2.2.2])), (a1, .inr (7, [.ref a2, .ref a3, .ref a4, .ref a5, .int v0.1.2.2.2.2])), (a2, .inl (ca 0, 9, .inl v0.1.1)), (a8, .inr (8, [.int v0.2.2.1.1, .int v0.2.2.1.2.1, .int v0.2.2.1.2.2])), (a9, .inr (1, [.int v0.2.2.2.1.1, .int v0.2.2.2.1.2.1, .int v0.2.2.2.1.2.2.1, .int v0.2.2.2.1.2.2.2.1, .int v0.2.2.2.1.2.2.2.2.1, .int v0.2.2.2.1.2.2.2.2.2])), (a10, .inr (3, [.ref a11, .int v0.2.2.2.2.1.2.1, .int v0.2.2.2.2.1.2.2.1, .int v0.2.2.2.2.1.2.2.2.1, .int v0.2.2.2.2.1.2.2.2.2.1, .int v0.2.2.2.2.1.2.2.2.2.2.1, .int v0.2.2.2.2.1.2.2.2.2.2.2])), (a11, .inr (4, [.ref a12, .int v0.2.2.2.2.1.1.2.1, .int v0.2.2.2.2.1.1.2.2])), (a13, .inr (4, [.ref a14, .int v0.2.2.2.2.2.1.2.1, .int v0.2.2.2.2.2.1.2.2])), (a15, .inr (6, [.ref a16, .ref a17, .int v0.2.2.2.2.2.2.1.2.2])), (a18, .inr (9, [.ref a19, .int v0.2.2.2.2.2.2.2.1.2.1, .int v0.2.2.2.2.2.2.2.1.2.2.1, .int v0.2.2.2.2.2.2.2.1.2.2.2]))] sz) := by
  refine en (y := yX10_countOf) (wsm := wq_X10_countOf) (av := [.ref a0, .int p1]) (cc := cX10_countOf) (maxL := 2) (ret := (some .int)) (Qf := fun A => (QI D ca r [(a0, .inr (10, [.ref a1, .ref a6, .ref a8, .ref a9, .ref a10, .ref a13, .ref a15, .ref a18, .int v0.2.2.2.2.2.2.2.2.1, .int v0.2.2.2.2.2.2.2.2.2.1, .int v0.2.2.2.2.2.2.2.2.2.2.1, .int v0.2.2.2.2.2.2.2.2.2.2.2.1, .int v0.2.2.2.2.2.2.2.2.2.2.2.2.1, .int v0.2.2.2.2.2.2.2.2.2.2.2.2.2])), (a1, .inr (7, [.ref a2, .ref a3, .ref a4, .ref a5, .int v0.1.2.2.2.2])), (a2, .inl (ca 0, 9, .inl v0.1.1)), (a8, .inr (8, [.int v0.2.2.1.1, .int v0.2.2.1.2.1, .int v0.2.2.1.2.2])), (a9, .inr (1, [.int v0.2.2.2.1.1, .int v0.2.2.2.1.2.1, .int v0.2.2.2.1.2.2.1, .int v0.2.2.2.1.2.2.2.1, .int v0.2.2.2.1.2.2.2.2.1, .int v0.2.2.2.1.2.2.2.2.2])), (a10, .inr (3, [.ref a11, .int v0.2.2.2.2.1.2.1, .int v0.2.2.2.2.1.2.2.1, .int v0.2.2.2.2.1.2.2.2.1, .int v0.2.2.2.2.1.2.2.2.2.1, .int v0.2.2.2.2.1.2.2.2.2.2.1, .int v0.2.2.2.2.1.2.2.2.2.2.2])), (a11, .inr (4, [.ref a12, .int v0.2.2.2.2.1.1.2.1, .int v0.2.2.2.2.1.1.2.2])), (a13, .inr (4, [.ref a14, .int v0.2.2.2.2.2.1.2.1, .int v0.2.2.2.2.2.1.2.2])), (a15, .inr (6, [.ref a16, .ref a17, .int v0.2.2.2.2.2.2.1.2.2])), (a18, .inr (9, [.ref a19, .int v0.2.2.2.2.2.2.2.1.2.1, .int v0.2.2.2.2.2.2.2.1.2.2.1, .int v0.2.2.2.2.2.2.2.1.2.2.2]))] A)) (by decide) rfl (Nat.le_of_ble_eq_true rfl) ?_
  intro p e s m args below meth c A Q ls hx hb hr hml hown hts hlocks hnm hA hN hZ hK hQ hP hD hS hl
  have w0 := hts _ (List.mem_cons_of_mem _ gw_2_71)
  have w1 := hts _ (List.mem_cons_of_mem _ gw_2_85)
  have w2 := hts _ (List.mem_cons_of_mem _ gw_2_87)
  have w3 := hts _ (List.mem_cons_of_mem _ gw_2_88)
  have w4 := hts _ (List.mem_cons_of_mem _ gw_2_89)
  have w5 := hts _ (List.mem_cons_of_mem _ gw_2_75)
  have w6 := hts _ (List.mem_cons_of_mem _ gw_2_91)
  have w7 := hts _ (List.mem_cons_of_mem _ gw_2_92)
  have nw3 := NW.use (args := args) (w := .fieldLinkNest RX10 149 "NoiseWatch$Settings" "stuckCount" "I" "NoiseWatch") hN 3 rfl
  have nw10 := NW.use (args := args) (w := .fieldLinkNest RX10 152 "NoiseWatch$Source" "drawn" "I" "NoiseWatch") hN 10 rfl
  have i10 : ∀ w ∈ u_ws RX10 TX10 14, w ∈ wq_X10_countOf := fun w h => List.mem_cons_of_mem _ (inX10 w h)
  have i7 : ∀ w ∈ u_ws RX7 TX7 5, w ∈ wq_X10_countOf := fun w h => List.mem_cons_of_mem _ (inX7 w h)
  have i8 : ∀ w ∈ u_ws RX8 TX8 3, w ∈ wq_X10_countOf := fun w h => List.mem_cons_of_mem _ (inX8 w h)
  have b19 : ∀ (x1 : Int32), fc_X10_countOf_19 v0 x1 = some r → ∀ (H : Heap) (locs : List Loc) (ls : Array Slot), va_P D vwCl [(a0, .inr (10, [.ref a1, .ref a6, .ref a8, .ref a9, .ref a10, .ref a13, .ref a15, .ref a18, .int v0.2.2.2.2.2.2.2.2.1, .int v0.2.2.2.2.2.2.2.2.2.1, .int v0.2.2.2.2.2.2.2.2.2.2.1, .int v0.2.2.2.2.2.2.2.2.2.2.2.1, .int v0.2.2.2.2.2.2.2.2.2.2.2.2.1, .int v0.2.2.2.2.2.2.2.2.2.2.2.2.2])), (a1, .inr (7, [.ref a2, .ref a3, .ref a4, .ref a5, .int v0.1.2.2.2.2])), (a2, .inl (ca 0, 9, .inl v0.1.1)), (a8, .inr (8, [.int v0.2.2.1.1, .int v0.2.2.1.2.1, .int v0.2.2.1.2.2])), (a9, .inr (1, [.int v0.2.2.2.1.1, .int v0.2.2.2.1.2.1, .int v0.2.2.2.1.2.2.1, .int v0.2.2.2.1.2.2.2.1, .int v0.2.2.2.1.2.2.2.2.1, .int v0.2.2.2.1.2.2.2.2.2])), (a10, .inr (3, [.ref a11, .int v0.2.2.2.2.1.2.1, .int v0.2.2.2.2.1.2.2.1, .int v0.2.2.2.2.1.2.2.2.1, .int v0.2.2.2.2.1.2.2.2.2.1, .int v0.2.2.2.2.1.2.2.2.2.2.1, .int v0.2.2.2.2.1.2.2.2.2.2.2])), (a11, .inr (4, [.ref a12, .int v0.2.2.2.2.1.1.2.1, .int v0.2.2.2.2.1.1.2.2])), (a13, .inr (4, [.ref a14, .int v0.2.2.2.2.2.1.2.1, .int v0.2.2.2.2.2.1.2.2])), (a15, .inr (6, [.ref a16, .ref a17, .int v0.2.2.2.2.2.2.1.2.2])), (a18, .inr (9, [.ref a19, .int v0.2.2.2.2.2.2.2.1.2.1, .int v0.2.2.2.2.2.2.2.1.2.2.1, .int v0.2.2.2.2.2.2.2.1.2.2.2]))] H → va_D A [(a0, .inr (10, [.ref a1, .ref a6, .ref a8, .ref a9, .ref a10, .ref a13, .ref a15, .ref a18, .int v0.2.2.2.2.2.2.2.2.1, .int v0.2.2.2.2.2.2.2.2.2.1, .int v0.2.2.2.2.2.2.2.2.2.2.1, .int v0.2.2.2.2.2.2.2.2.2.2.2.1, .int v0.2.2.2.2.2.2.2.2.2.2.2.2.1, .int v0.2.2.2.2.2.2.2.2.2.2.2.2.2])), (a1, .inr (7, [.ref a2, .ref a3, .ref a4, .ref a5, .int v0.1.2.2.2.2])), (a2, .inl (ca 0, 9, .inl v0.1.1)), (a8, .inr (8, [.int v0.2.2.1.1, .int v0.2.2.1.2.1, .int v0.2.2.1.2.2])), (a9, .inr (1, [.int v0.2.2.2.1.1, .int v0.2.2.2.1.2.1, .int v0.2.2.2.1.2.2.1, .int v0.2.2.2.1.2.2.2.1, .int v0.2.2.2.1.2.2.2.2.1, .int v0.2.2.2.1.2.2.2.2.2])), (a10, .inr (3, [.ref a11, .int v0.2.2.2.2.1.2.1, .int v0.2.2.2.2.1.2.2.1, .int v0.2.2.2.2.1.2.2.2.1, .int v0.2.2.2.2.1.2.2.2.2.1, .int v0.2.2.2.2.1.2.2.2.2.2.1, .int v0.2.2.2.2.1.2.2.2.2.2.2])), (a11, .inr (4, [.ref a12, .int v0.2.2.2.2.1.1.2.1, .int v0.2.2.2.2.1.1.2.2])), (a13, .inr (4, [.ref a14, .int v0.2.2.2.2.2.1.2.1, .int v0.2.2.2.2.2.1.2.2])), (a15, .inr (6, [.ref a16, .ref a17, .int v0.2.2.2.2.2.2.1.2.2])), (a18, .inr (9, [.ref a19, .int v0.2.2.2.2.2.2.2.1.2.1, .int v0.2.2.2.2.2.2.2.1.2.2.1, .int v0.2.2.2.2.2.2.2.1.2.2.2]))] → va_S A s.heap H locs → lv_has ls 2 [(0, .ref a0), (1, .int x1)] → W p l e ({ frames := 1, cells := 0, slots := 0, locals := 21 } : Room) s m args below meth c H locs 0 0 Q (F0 m 19 ls []) := by
    intro x1 hf H locs ls hP hD hS hl
    unfold fc_X10_countOf_19 at hf
    refine lv_iload_n hx hb dX10_countOf_19 rfl (lv_at hl 1 rfl) ?_
    refine lv_bipush (v := 16) hx hb dX10_countOf_20 rfl ?_
    refine xc_lt (tgt := 31) hx hb dX10_countOf_22 (by decide) hf (fun hf => ?_) (fun hf => ?_)
    · refine lv_iload_n hx hb dX10_countOf_31 rfl (lv_at hl 1 rfl) ?_
      by_cases hcs : x1 < (8 : Int32) ∨ (15 : Int32) < x1
      · have hf := ite_t hcs hf
        refine xtabO (tgt := 126) hx hb dX10_countOf_32 (a := 8) (b := 15) rfl rfl hcs (by decide) ?_
        refine lv_iconst (v := -1) hx hb dX10_countOf_126 rfl ?_
        have he := Option.some.inj hf
        have e_r := he
        refine rt_I hx hb hr hlocks hK hP hD hS hQ e_r ?_ dX10_countOf_127
        rfl
      · have hf := ite_f hcs hf
        by_cases hc0 : x1 = (8 : Int32)
        · have hf := ite_t hc0 hf
          refine xtabK (tgt := 80) hx hb dX10_countOf_32 hc0 (by decide) (by decide) rfl (by decide) ?_
          refine lv_aload_n hx hb dX10_countOf_80 rfl (lv_at hl 0 rfl) ?_
          refine va_get (C := RX10) (T := TX10) (N := 14) hx hb hts i10 hown hK hP 0 rfl rfl 0 (Nat.le_of_ble_eq_true rfl) w0 (fun _ h9 => h9) rfl dX10_countOf_81 ?_
          refine va_getN (C := RX7) (T := TX7) (N := 5) hx hb hts i7 hown hK hP 1 rfl rfl 4 (Nat.le_of_ble_eq_true rfl) nw3 (fun _ h9 => h9) rfl dX10_countOf_84 ?_
          have he := Option.some.inj hf
          have e_r := he
          refine rt_I hx hb hr hlocks hK hP hD hS hQ e_r ?_ dX10_countOf_87
          rfl
        have hf := ite_f hc0 hf
        by_cases hc1 : x1 = (9 : Int32)
        · have hf := ite_t hc1 hf
          refine xtabK (tgt := 88) hx hb dX10_countOf_32 hc1 (by decide) (by decide) rfl (by decide) ?_
          refine lv_aload_n hx hb dX10_countOf_88 rfl (lv_at hl 0 rfl) ?_
          refine va_get (C := RX10) (T := TX10) (N := 14) hx hb hts i10 hown hK hP 0 rfl rfl 8 (Nat.le_of_ble_eq_true rfl) w1 (fun _ h9 => h9) rfl dX10_countOf_89 ?_
          have he := Option.some.inj hf
          have e_r := he
          refine rt_I hx hb hr hlocks hK hP hD hS hQ e_r ?_ dX10_countOf_92
          rfl
        have hf := ite_f hc1 hf
        by_cases hc2 : x1 = (10 : Int32)
        · have hf := ite_t hc2 hf
          refine xtabK (tgt := 93) hx hb dX10_countOf_32 hc2 (by decide) (by decide) rfl (by decide) ?_
          refine lv_aload_n hx hb dX10_countOf_93 rfl (lv_at hl 0 rfl) ?_
          refine va_get (C := RX10) (T := TX10) (N := 14) hx hb hts i10 hown hK hP 0 rfl rfl 9 (Nat.le_of_ble_eq_true rfl) w2 (fun _ h9 => h9) rfl dX10_countOf_94 ?_
          have he := Option.some.inj hf
          have e_r := he
          refine rt_I hx hb hr hlocks hK hP hD hS hQ e_r ?_ dX10_countOf_97
          rfl
        have hf := ite_f hc2 hf
        by_cases hc3 : x1 = (11 : Int32)
        · have hf := ite_t hc3 hf
          refine xtabK (tgt := 98) hx hb dX10_countOf_32 hc3 (by decide) (by decide) rfl (by decide) ?_
          refine lv_aload_n hx hb dX10_countOf_98 rfl (lv_at hl 0 rfl) ?_
          refine va_get (C := RX10) (T := TX10) (N := 14) hx hb hts i10 hown hK hP 0 rfl rfl 10 (Nat.le_of_ble_eq_true rfl) w3 (fun _ h9 => h9) rfl dX10_countOf_99 ?_
          have he := Option.some.inj hf
          have e_r := he
          refine rt_I hx hb hr hlocks hK hP hD hS hQ e_r ?_ dX10_countOf_102
          rfl
        have hf := ite_f hc3 hf
        by_cases hc4 : x1 = (12 : Int32)
        · have hf := ite_t hc4 hf
          refine xtabK (tgt := 103) hx hb dX10_countOf_32 hc4 (by decide) (by decide) rfl (by decide) ?_
          refine lv_aload_n hx hb dX10_countOf_103 rfl (lv_at hl 0 rfl) ?_
          refine va_get (C := RX10) (T := TX10) (N := 14) hx hb hts i10 hown hK hP 0 rfl rfl 11 (Nat.le_of_ble_eq_true rfl) w4 (fun _ h9 => h9) rfl dX10_countOf_104 ?_
          have he := Option.some.inj hf
          have e_r := he
          refine rt_I hx hb hr hlocks hK hP hD hS hQ e_r ?_ dX10_countOf_107
          rfl
        have hf := ite_f hc4 hf
        by_cases hc5 : x1 = (13 : Int32)
        · have hf := ite_t hc5 hf
          refine xtabK (tgt := 108) hx hb dX10_countOf_32 hc5 (by decide) (by decide) rfl (by decide) ?_
          refine lv_aload_n hx hb dX10_countOf_108 rfl (lv_at hl 0 rfl) ?_
          refine va_get (C := RX10) (T := TX10) (N := 14) hx hb hts i10 hown hK hP 0 rfl rfl 2 (Nat.le_of_ble_eq_true rfl) w5 (fun _ h9 => h9) rfl dX10_countOf_109 ?_
          refine va_getN (C := RX8) (T := TX8) (N := 3) hx hb hts i8 hown hK hP 3 rfl rfl 1 (Nat.le_of_ble_eq_true rfl) nw10 (fun _ h9 => h9) rfl dX10_countOf_112 ?_
          have he := Option.some.inj hf
          have e_r := he
          refine rt_I hx hb hr hlocks hK hP hD hS hQ e_r ?_ dX10_countOf_115
          rfl
        have hf := ite_f hc5 hf
        by_cases hc6 : x1 = (14 : Int32)
        · have hf := ite_t hc6 hf
          refine xtabK (tgt := 116) hx hb dX10_countOf_32 hc6 (by decide) (by decide) rfl (by decide) ?_
          refine lv_aload_n hx hb dX10_countOf_116 rfl (lv_at hl 0 rfl) ?_
          refine va_get (C := RX10) (T := TX10) (N := 14) hx hb hts i10 hown hK hP 0 rfl rfl 12 (Nat.le_of_ble_eq_true rfl) w6 (fun _ h9 => h9) rfl dX10_countOf_117 ?_
          have he := Option.some.inj hf
          have e_r := he
          refine rt_I hx hb hr hlocks hK hP hD hS hQ e_r ?_ dX10_countOf_120
          rfl
        have hf := ite_f hc6 hf
        by_cases hc7 : x1 = (15 : Int32)
        · have hf := ite_t hc7 hf
          refine xtabK (tgt := 121) hx hb dX10_countOf_32 hc7 (by decide) (by decide) rfl (by decide) ?_
          refine lv_aload_n hx hb dX10_countOf_121 rfl (lv_at hl 0 rfl) ?_
          refine va_get (C := RX10) (T := TX10) (N := 14) hx hb hts i10 hown hK hP 0 rfl rfl 13 (Nat.le_of_ble_eq_true rfl) w7 (fun _ h9 => h9) rfl dX10_countOf_122 ?_
          have he := Option.some.inj hf
          have e_r := he
          refine rt_I hx hb hr hlocks hK hP hD hS hQ e_r ?_ dX10_countOf_125
          rfl
        have hf := ite_f hc7 hf
        exact no_el hf
    · refine lv_aload_n hx hb dX10_countOf_25 rfl (lv_at hl 0 rfl) ?_
      refine lv_iload_n hx hb dX10_countOf_26 rfl (lv_at hl 1 rfl) ?_
      obtain ⟨r_1, hc1, hf⟩ := bnd1_el hf
      refine xV_I (As := [.int x1]) (wx := [(a0, .inr (10, [.ref a1, .ref a6, .ref a8, .ref a9, .ref a10, .ref a13, .ref a15, .ref a18, .int v0.2.2.2.2.2.2.2.2.1, .int v0.2.2.2.2.2.2.2.2.2.1, .int v0.2.2.2.2.2.2.2.2.2.2.1, .int v0.2.2.2.2.2.2.2.2.2.2.2.1, .int v0.2.2.2.2.2.2.2.2.2.2.2.2.1, .int v0.2.2.2.2.2.2.2.2.2.2.2.2.2])), (a1, .inr (7, [.ref a2, .ref a3, .ref a4, .ref a5, .int v0.1.2.2.2.2])), (a2, .inl (ca 0, 9, .inl v0.1.1)), (a8, .inr (8, [.int v0.2.2.1.1, .int v0.2.2.1.2.1, .int v0.2.2.1.2.2])), (a9, .inr (1, [.int v0.2.2.2.1.1, .int v0.2.2.2.1.2.1, .int v0.2.2.2.1.2.2.1, .int v0.2.2.2.1.2.2.2.1, .int v0.2.2.2.1.2.2.2.2.1, .int v0.2.2.2.1.2.2.2.2.2])), (a10, .inr (3, [.ref a11, .int v0.2.2.2.2.1.2.1, .int v0.2.2.2.2.1.2.2.1, .int v0.2.2.2.2.1.2.2.2.1, .int v0.2.2.2.2.1.2.2.2.2.1, .int v0.2.2.2.2.1.2.2.2.2.2.1, .int v0.2.2.2.2.1.2.2.2.2.2.2])), (a11, .inr (4, [.ref a12, .int v0.2.2.2.2.1.1.2.1, .int v0.2.2.2.2.1.1.2.2])), (a13, .inr (4, [.ref a14, .int v0.2.2.2.2.2.1.2.1, .int v0.2.2.2.2.2.1.2.2])), (a15, .inr (6, [.ref a16, .ref a17, .int v0.2.2.2.2.2.2.1.2.2])), (a18, .inr (9, [.ref a19, .int v0.2.2.2.2.2.2.2.1.2.1, .int v0.2.2.2.2.2.2.2.1.2.2.1, .int v0.2.2.2.2.2.2.2.1.2.2.2]))]) ⟨hx, hb, hml, hown, hts⟩ (c_X10_countOfParts l D ca zz a0 a1 a6 a8 a9 a10 a11 a12 a13 a14 a15 a16 a17 a18 a19 _ v0 x1 r_1 hc1) (cwV 1 hts (gV gw_4_10 gw_4_12 gw_s_1_11 gw_1_2 gw_4_13) rfl rfl rfl (by decide +kernel) ⟨(Nat.le_of_ble_eq_true rfl), (Nat.le_of_ble_eq_true rfl)⟩) hK hN hZ hA hP hD hS [0, 4, 5, 6, 7, 8, 9] [some 0, none, none, none, some 1, some 2, some 3, some 4, some 5, some 6] (by decide +kernel) rfl rfl rfl rfl 0 rfl rfl hl.1 rfl (Nat.le_of_ble_eq_true rfl) dX10_countOf_27 ⟨Nat.zero_le _, Nat.zero_le _⟩ rfl (fun H locs hP hD hS => ?_)
      have he := Option.some.inj hf
      have e_r := he
      refine rt_I hx hb hr hlocks hK hP hD hS hQ e_r ?_ dX10_countOf_30
      rfl
  unfold f_X10_countOf at hf
  refine lv_iload_n hx hb dX10_countOf_0 rfl (lv_at hl 1 rfl) ?_
  refine xi_lt (tgt := 19) hx hb dX10_countOf_1 (by decide) hf (fun hf => ?_) (fun hf => ?_)
  · exact b19 p1 hf _ _ _ hP hD hS (lv_sub hl [0, 1] rfl)
  · refine lv_iload_n hx hb dX10_countOf_4 rfl (lv_at hl 1 rfl) ?_
    refine lv_bipush (v := 7) hx hb dX10_countOf_5 rfl ?_
    refine xc_gt (tgt := 19) hx hb dX10_countOf_7 (by decide) hf (fun hf => ?_) (fun hf => ?_)
    · exact b19 p1 hf _ _ _ hP hD hS (lv_sub hl [0, 1] rfl)
    · refine lv_aload_n hx hb dX10_countOf_10 rfl (lv_at hl 0 rfl) ?_
      refine va_get (C := RX10) (T := TX10) (N := 14) hx hb hts i10 hown hK hP 0 rfl rfl 0 (Nat.le_of_ble_eq_true rfl) w0 (fun _ h9 => h9) rfl dX10_countOf_11 ?_
      refine lv_iload_n hx hb dX10_countOf_14 rfl (lv_at hl 1 rfl) ?_
      obtain ⟨r_2, hc2, hf⟩ := bnd1_el hf
      refine xV_I (As := [.int p1]) (wx := [(a0, .inr (10, [.ref a1, .ref a6, .ref a8, .ref a9, .ref a10, .ref a13, .ref a15, .ref a18, .int v0.2.2.2.2.2.2.2.2.1, .int v0.2.2.2.2.2.2.2.2.2.1, .int v0.2.2.2.2.2.2.2.2.2.2.1, .int v0.2.2.2.2.2.2.2.2.2.2.2.1, .int v0.2.2.2.2.2.2.2.2.2.2.2.2.1, .int v0.2.2.2.2.2.2.2.2.2.2.2.2.2])), (a1, .inr (7, [.ref a2, .ref a3, .ref a4, .ref a5, .int v0.1.2.2.2.2])), (a2, .inl (ca 0, 9, .inl v0.1.1)), (a8, .inr (8, [.int v0.2.2.1.1, .int v0.2.2.1.2.1, .int v0.2.2.1.2.2])), (a9, .inr (1, [.int v0.2.2.2.1.1, .int v0.2.2.2.1.2.1, .int v0.2.2.2.1.2.2.1, .int v0.2.2.2.1.2.2.2.1, .int v0.2.2.2.1.2.2.2.2.1, .int v0.2.2.2.1.2.2.2.2.2])), (a10, .inr (3, [.ref a11, .int v0.2.2.2.2.1.2.1, .int v0.2.2.2.2.1.2.2.1, .int v0.2.2.2.2.1.2.2.2.1, .int v0.2.2.2.2.1.2.2.2.2.1, .int v0.2.2.2.2.1.2.2.2.2.2.1, .int v0.2.2.2.2.1.2.2.2.2.2.2])), (a11, .inr (4, [.ref a12, .int v0.2.2.2.2.1.1.2.1, .int v0.2.2.2.2.1.1.2.2])), (a13, .inr (4, [.ref a14, .int v0.2.2.2.2.2.1.2.1, .int v0.2.2.2.2.2.1.2.2])), (a15, .inr (6, [.ref a16, .ref a17, .int v0.2.2.2.2.2.2.1.2.2])), (a18, .inr (9, [.ref a19, .int v0.2.2.2.2.2.2.2.1.2.1, .int v0.2.2.2.2.2.2.2.1.2.2.1, .int v0.2.2.2.2.2.2.2.1.2.2.2]))]) ⟨hx, hb, hml, hown, hts⟩ (c_X7_valueOf l D ca zz a1 a2 a3 a4 a5 _ v0.1 p1 r_2 hc2) (cwV 1 hts (gV gw_2_14 gw_2_15 gw_2_16 gw_1_3 gw_2_17) rfl rfl rfl (by decide +kernel) ⟨(Nat.le_of_ble_eq_true rfl), (Nat.le_of_ble_eq_true rfl)⟩) hK hN hZ hA hP hD hS [1, 2] [none, some 0, some 1, none, none, none, none, none, none, none] (by decide +kernel) rfl rfl rfl rfl 1 rfl rfl hl.1 rfl (Nat.le_of_ble_eq_true rfl) dX10_countOf_15 ⟨Nat.zero_le _, Nat.zero_le _⟩ rfl (fun H locs hP hD hS => ?_)
      have he := Option.some.inj hf
      have e_r := he
      refine rt_I hx hb hr hlocks hK hP hD hS hQ e_r ?_ dX10_countOf_18
      rfl
