abbrev wq_X11_echo : List Cond := Cond.code yX11_echo cX11_echo 6 (some .int) :: GL
set_option maxHeartbeats 4000000 in
set_option maxRecDepth 100000 in
theorem c_X11_echo (l : Launch) (D : va_G) (ca : Nat → ClassId) (zz : Nat → Nat) (a0 a1 a2 a3 a4 a5 a6 a7 a8 a9 a10 a11 a12 a13 a14 a15 a16 a17 a18 a19 a20 a21 a41 a42 a49 a50 a51 a52 a54 a55 : Nat) (sz : Nat) (v0 : V11) (p1 : Int32) (r : Int32) (v0' : V11) (hf : f_X11_echo v0 p1 = some (r, v0')) : Met l yX11_echo wq_X11_echo ({ frames := 3, cells := 0, slots := 0, locals := 67 } : Room) (PR D ca zz [.ref a0, .int p1] sz [(a0, .inr (11, [.ref a1, .ref a21, .ref a41, .ref a42, .ref a49, .ref a52, .ref a54, .ref a55])), (a1, .inr (10, [.ref a2, .ref a7, .ref a9, .ref a10, .ref a11, .ref a14, .ref a16, .ref a19, .int v0.1.2.2.2.2.2.2.2.2.1, .int v0.1.2.2.2.2.2.2.2.2.2.1, .int v0.1.2.2.2.2.2.2.2.2.2.2.1, .int v0.1.2.2.2.2.2.2.2.2.2.2.2.1, .int v0.1.2.2.2.2.2.2.2.2.2.2.2.2.1, .int v0.1.2.2.2.2.2.2.2.2.2.2.2.2.2])), (a2, .inr (7, [.ref a3, .ref a4, .ref a5, .ref a6, .int v0.1.1.2.2.2.2])), (a3, .inl (ca 0, 9, .inl v0.1.1.1)), (a4, .inl (ca 0, 4, .inl v0.1.1.2.1)), (a5, .inl (ca 0, 4, .inl v0.1.1.2.2.1)), (a6, .inl (ca 0, 4, .inl v0.1.1.2.2.2.1)), (a7, .inr (2, [.ref a8, .int v0.1.2.1.2.1, .int v0.1.2.1.2.2.1, .int v0.1.2.1.2.2.2.1, .int v0.1.2.1.2.2.2.2])), (a8, .inl (ca 1, 17, .inr (.inl v0.1.2.1.1))), (a9, .inr (8, [.int v0.1.2.2.1.1, .int v0.1.2.2.1.2.1, .int v0.1.2.2.1.2.2])), (a10, .inr (1, [.int v0.1.2.2.2.1.1, .int v0.1.2.2.2.1.2.1, .int v0.1.2.2.2.1.2.2.1, .int v0.1.2.2.2.1.2.2.2.1, .int v0.1.2.2.2.1.2.2.2.2.1, .int v0.1.2.2.2.1.2.2.2.2.2])), (a11, .inr (3, [.ref a12, .int v0.1.2.2.2.2.1.2.1, .int v0.1.2.2.2.2.1.2.2.1, .int v0.1.2.2.2.2.1.2.2.2.1, .int v0.1.2.2.2.2.1.2.2.2.2.1, .int v0.1.2.2.2.2.1.2.2.2.2.2.1, .int v0.1.2.2.2.2.1.2.2.2.2.2.2])), (a12, .inr (4, [.ref a13, .int v0.1.2.2.2.2.1.1.2.1, .int v0.1.2.2.2.2.1.1.2.2])), (a13, .inl (ca 0, 512, .inl v0.1.2.2.2.2.1.1.1)), (a14, .inr (4, [.ref a15, .int v0.1.2.2.2.2.2.1.2.1, .int v0.1.2.2.2.2.2.1.2.2])), (a15, .inl (ca 0, 512, .inl v0.1.2.2.2.2.2.1.1)), (a16, .inr (6, [.ref a17, .ref a18, .int v0.1.2.2.2.2.2.2.1.2.2])), (a17, .inl (ca 0, 15, .inl v0.1.2.2.2.2.2.2.1.1)), (a18, .inl (ca 0, 15, .inl v0.1.2.2.2.2.2.2.1.2.1)), (a19, .inr (9, [.ref a20, .int v0.1.2.2.2.2.2.2.2.1.2.1, .int v0.1.2.2.2.2.2.2.2.1.2.2.1, .int v0.1.2.2.2.2.2.2.2.1.2.2.2])), (a20, .inl (ca 0, 300, .inl v0.1.2.2.2.2.2.2.2.1.1)), (a49, .inr (0, [.ref a50, .ref a51, .int v0.2.2.2.2.1.2.2.1, .int v0.2.2.2.2.1.2.2.2.1, .int v0.2.2.2.2.1.2.2.2.2])), (a50, .inl (ca 0, 400, .inl v0.2.2.2.2.1.1)), (a51, .inl (ca 0, 256, .inl v0.2.2.2.2.1.2.1))]) (QI D ca r [(a0, .inr (11, [.ref a1, .ref a21, .ref a41, .ref a42, .ref a49, .ref a52, .ref a54, .ref a55])), (a1, .inr (10, [.ref a2, .ref a7, .ref a9, .ref a10, .ref a11, .ref a14, .ref a16, .ref a19, .int v0'.1.2.2.2.2.2.2.2.2.1, .int v0'.1.2.2.2.2.2.2.2.2.2.1, .int v0'.1.2.2.2.2.2.2.2.2.2.2.1, .int v0'.1.2.2.2.2.2.2.2.2.2.2.2.1, .int v0'.1.2.2.2.2.2.2.2.2.2.2.2.2.1, .int v0'.1.2.2.2.2.2.2.2.2.2.2.2.2.2])), (a2, .inr (7, [.ref a3, .ref a4, .ref a5, .ref a6, .int v0'.1.1.2.2.2.2])), (a3, .inl (ca 0, 9, .inl v0'.1.1.1)), (a4, .inl (ca 0, 4, .inl v0'.1.1.2.1)), (a5, .inl (ca 0, 4, .inl v0'.1.1.2.2.1)), (a6, .inl (ca 0, 4, .inl v0'.1.1.2.2.2.1)), (a7, .inr (2, [.ref a8, .int v0'.1.2.1.2.1, .int v0'.1.2.1.2.2.1, .int v0'.1.2.1.2.2.2.1, .int v0'.1.2.1.2.2.2.2])), (a8, .inl (ca 1, 17, .inr (.inl v0'.1.2.1.1))), (a9, .inr (8, [.int v0'.1.2.2.1.1, .int v0'.1.2.2.1.2.1, .int v0'.1.2.2.1.2.2])), (a10, .inr (1, [.int v0'.1.2.2.2.1.1, .int v0'.1.2.2.2.1.2.1, .int v0'.1.2.2.2.1.2.2.1, .int v0'.1.2.2.2.1.2.2.2.1, .int v0'.1.2.2.2.1.2.2.2.2.1, .int v0'.1.2.2.2.1.2.2.2.2.2])), (a11, .inr (3, [.ref a12, .int v0'.1.2.2.2.2.1.2.1, .int v0'.1.2.2.2.2.1.2.2.1, .int v0'.1.2.2.2.2.1.2.2.2.1, .int v0'.1.2.2.2.2.1.2.2.2.2.1, .int v0'.1.2.2.2.2.1.2.2.2.2.2.1, .int v0'.1.2.2.2.2.1.2.2.2.2.2.2])), (a12, .inr (4, [.ref a13, .int v0'.1.2.2.2.2.1.1.2.1, .int v0'.1.2.2.2.2.1.1.2.2])), (a13, .inl (ca 0, 512, .inl v0'.1.2.2.2.2.1.1.1)), (a14, .inr (4, [.ref a15, .int v0'.1.2.2.2.2.2.1.2.1, .int v0'.1.2.2.2.2.2.1.2.2])), (a15, .inl (ca 0, 512, .inl v0'.1.2.2.2.2.2.1.1)), (a16, .inr (6, [.ref a17, .ref a18, .int v0'.1.2.2.2.2.2.2.1.2.2])), (a17, .inl (ca 0, 15, .inl v0'.1.2.2.2.2.2.2.1.1)), (a18, .inl (ca 0, 15, .inl v0'.1.2.2.2.2.2.2.1.2.1)), (a19, .inr (9, [.ref a20, .int v0'.1.2.2.2.2.2.2.2.1.2.1, .int v0'.1.2.2.2.2.2.2.2.1.2.2.1, .int v0'.1.2.2.2.2.2.2.2.1.2.2.2])), (a20, .inl (ca 0, 300, .inl v0'.1.2.2.2.2.2.2.2.1.1)), (a49, .inr (0, [.ref a50, .ref a51, .int v0'.2.2.2.2.1.2.2.1, .int v0'.2.2.2.2.1.2.2.2.1, .int v0'.2.2.2.2.1.2.2.2.2])), (a50, .inl (ca 0, 400, .inl v0'.2.2.2.2.1.1)), (a51, .inl (ca 0, 256, .inl v0'.2.2.2.2.1.2.1))] (va_A [(a0, .inr (11, [.ref a1, .ref a21, .ref a41, .ref a42, .ref a49, .ref a52, .ref a54, .ref a55])), (a1, .inr (10, [.ref a2, .ref a7, .ref a9, .ref a10, .ref a11, .ref a14, .ref a16, .ref a19, .int v0.1.2.2.2.2.2.2.2.2.1, .int v0.1.2.2.2.2.2.2.2.2.2.1, .int v0.1.2.2.2.2.2.2.2.2.2.2.1, .int v0.1.2.2.2.2.2.2.2.2.2.2.2.1, .int v0.1.2.2.2.2.2.2.2.2.2.2.2.2.1, .int v0.1.2.2.2.2.2.2.2.2.2.2.2.2.2])), (a2, .inr (7, [.ref a3, .ref a4, .ref a5, .ref a6, .int v0.1.1.2.2.2.2])), (a3, .inl (ca 0, 9, .inl v0.1.1.1)), (a4, .inl (ca 0, 4, .inl v0.1.1.2.1)), (a5, .inl (ca 0, 4, .inl v0.1.1.2.2.1)), (a6, .inl (ca 0, 4, .inl v0.1.1.2.2.2.1)), (a7, .inr (2, [.ref a8, .int v0.1.2.1.2.1, .int v0.1.2.1.2.2.1, .int v0.1.2.1.2.2.2.1, .int v0.1.2.1.2.2.2.2])), (a8, .inl (ca 1, 17, .inr (.inl v0.1.2.1.1))), (a9, .inr (8, [.int v0.1.2.2.1.1, .int v0.1.2.2.1.2.1, .int v0.1.2.2.1.2.2])), (a10, .inr (1, [.int v0.1.2.2.2.1.1, .int v0.1.2.2.2.1.2.1, .int v0.1.2.2.2.1.2.2.1, .int v0.1.2.2.2.1.2.2.2.1, .int v0.1.2.2.2.1.2.2.2.2.1, .int v0.1.2.2.2.1.2.2.2.2.2])), (a11, .inr (3, [.ref a12, .int v0.1.2.2.2.2.1.2.1, .int v0.1.2.2.2.2.1.2.2.1, .int v0.1.2.2.2.2.1.2.2.2.1, .int v0.1.2.2.2.2.1.2.2.2.2.1, .int v0.1.2.2.2.2.1.2.2.2.2.2.1, .int v0.1.2.2.2.2.1.2.2.2.2.2.2])), (a12, .inr (4, [.ref a13, .int v0.1.2.2.2.2.1.1.2.1, .int v0.1.2.2.2.2.1.1.2.2])), (a13, .inl (ca 0, 512, .inl v0.1.2.2.2.2.1.1.1)), (a14, .inr (4, [.ref a15, .int v0.1.2.2.2.2.2.1.2.1, .int v0.1.2.2.2.2.2.1.2.2])), (a15, .inl (ca 0, 512, .inl v0.1.2.2.2.2.2.1.1)), (a16, .inr (6, [.ref a17, .ref a18, .int v0.1.2.2.2.2.2.2.1.2.2])), (a17, .inl (ca 0, 15, .inl v0.1.2.2.2.2.2.2.1.1)), (a18, .inl (ca 0, 15, .inl v0.1.2.2.2.2.2.2.1.2.1)), (a19, .inr (9, [.ref a20, .int v0.1.2.2.2.2.2.2.2.1.2.1, .int v0.1.2.2.2.2.2.2.2.1.2.2.1, .int v0.1.2.2.2.2.2.2.2.1.2.2.2])), (a20, .inl (ca 0, 300, .inl v0.1.2.2.2.2.2.2.2.1.1)), (a49, .inr (0, [.ref a50, .ref a51, .int v0.2.2.2.2.1.2.2.1, .int v0.2.2.2.2.1.2.2.2.1, .int v0.2.2.2.2.1.2.2.2.2])), (a50, .inl (ca 0, 400, .inl v0.2.2.2.2.1.1)), (a51, .inl (ca 0, 256, .inl v0.2.2.2.2.1.2.1))] sz)) 0 0 (va_A [(a0, .inr (11, [.ref a1, .ref a21, .ref a41, .ref a42, .ref a49, .ref a52, .ref a54, .ref a55])), (a1, .inr (10, [.ref a2, .ref a7, .ref a9, .ref a10, .ref a11, .ref a14, .ref a16, .ref a19, .int v0.1.2.2.2.2.2.2.2.2.1, .int v0.1.2.2.2.2.2.2.2.2.2.1, .int v0.1.2.2.2.2.2.2.2.2.2.2.1, .int v0.1.2.2.2.2.2.2.2.2.2.2.2.1, .int v0.1.2.2.2.2.2.2.2.2.2.2.2.2.1, .int v0.1.2.2.2.2.2.2.2.2.2.2.2.2.2])), (a2, .inr (7, [.ref a3, .ref a4, .ref a5, .ref a6, .int v0.1.1.2.2.2.2])), (a3, .inl (ca 0, 9, .inl v0.1.1.1)), (a4, .inl (ca 0, 4, .inl v0.1.1.2.1)), (a5, .inl (ca 0, 4, .inl v0.1.1.2.2.1)), (a6, .inl (ca 0, 4, .inl v0.1.1.2.2.2.1)), (a7, .inr (2, [.ref a8, .int v0.1.2.1.2.1, .int v0.1.2.1.2.2.1, .int v0.1.2.1.2.2.2.1, .int v0.1.2.1.2.2.2.2])), (a8, .inl (ca 1, 17, .inr (.inl v0.1.2.1.1))), (a9, .inr (8, [.int v0.1.2.2.1.1, .int v0.1.2.2.1.2.1, .int v0.1.2.2.1.2.2])), (a10, .inr (1, [.int v0.1.2.2.2.1.1, .int v0.1.2.2.2.1.2.1, .int v0.1.2.2.2.1.2.2.1, .int v0.1.2.2.2.1.2.2.2.1, .int v0.1.2.2.2.1.2.2.2.2.1, .int v0.1.2.2.2.1.2.2.2.2.2])), (a11, .inr (3, [.ref a12, .int v0.1.2.2.2.2.1.2.1, .int v0.1.2.2.2.2.1.2.2.1, .int v0.1.2.2.2.2.1.2.2.2.1, .int v0.1.2.2.2.2.1.2.2.2.2.1, .int v0.1.2.2.2.2.1.2.2.2.2.2.1, .int v0.1.2.2.2.2.1.2.2.2.2.2.2])), (a12, .inr (4, [.ref a13, .int v0.1.2.2.2.2.1.1.2.1, .int v0.1.2.2.2.2.1.1.2.2])), (a13, .inl (ca 0, 512, .inl v0.1.2.2.2.2.1.1.1)), (a14, .inr (4, [.ref a15, .int v0.1.2.2.2.2.2.1.2.1, .int v0.1.2.2.2.2.2.1.2.2])), (a15, .inl (ca 0, 512, .inl v0.1.2.2.2.2.2.1.1)), (a16, .inr (6, [.ref a17, .ref a18, .int v0.1.2.2.2.2.2.2.1.2.2])), (a17, .inl (ca 0, 15, .inl v0.1.2.2.2.2.2.2.1.1)), (a18, .inl (ca 0, 15, .inl v0.1.2.2.2.2.2.2.1.2.1)), (a19, .inr (9, [.ref a20, .int v0.1.2.2.2.2.2.2.2.1.2.1, .int v0.1.2.2.2.2.2.2.2.1.2.2.1, .int v0.1.2.2.2.2.2.2.2.1.2.2.2])), (a20, .inl (ca 0, 300, .inl v0.1.2.2.2.2.2.2.2.1.1)), (a49, .inr (0, [.ref a50, .ref a51, .int v0.2.2.2.2.1.2.2.1, .int v0.2.2.2.2.1.2.2.2.1, .int v0.2.2.2.2.1.2.2.2.2])), (a50, .inl (ca 0, 400, .inl v0.2.2.2.2.1.1)), (a51, .inl (ca 0, 256, .inl v0.2.2.2.2.1.2.1))] sz) := by
  refine en (y := yX11_echo) (wsm := wq_X11_echo) (av := [.ref a0, .int p1]) (cc := cX11_echo) (maxL := 6) (ret := (some .int)) (Qf := fun A => (QI D ca r [(a0, .inr (11, [.ref a1, .ref a21, .ref a41, .ref a42, .ref a49, .ref a52, .ref a54, .ref a55])), (a1, .inr (10, [.ref a2, .ref a7, .ref a9, .ref a10, .ref a11, .ref a14, .ref a16, .ref a19, .int v0'.1.2.2.2.2.2.2.2.2.1, .int v0'.1.2.2.2.2.2.2.2.2.2.1, .int v0'.1.2.2.2.2.2.2.2.2.2.2.1, .int v0'.1.2.2.2.2.2.2.2.2.2.2.2.1, .int v0'.1.2.2.2.2.2.2.2.2.2.2.2.2.1, .int v0'.1.2.2.2.2.2.2.2.2.2.2.2.2.2])), (a2, .inr (7, [.ref a3, .ref a4, .ref a5, .ref a6, .int v0'.1.1.2.2.2.2])), (a3, .inl (ca 0, 9, .inl v0'.1.1.1)), (a4, .inl (ca 0, 4, .inl v0'.1.1.2.1)), (a5, .inl (ca 0, 4, .inl v0'.1.1.2.2.1)), (a6, .inl (ca 0, 4, .inl v0'.1.1.2.2.2.1)), (a7, .inr (2, [.ref a8, .int v0'.1.2.1.2.1, .int v0'.1.2.1.2.2.1, .int v0'.1.2.1.2.2.2.1, .int v0'.1.2.1.2.2.2.2])), (a8, .inl (ca 1, 17, .inr (.inl v0'.1.2.1.1))), (a9, .inr (8, [.int v0'.1.2.2.1.1, .int v0'.1.2.2.1.2.1, .int v0'.1.2.2.1.2.2])), (a10, .inr (1, [.int v0'.1.2.2.2.1.1, .int v0'.1.2.2.2.1.2.1, .int v0'.1.2.2.2.1.2.2.1, .int v0'.1.2.2.2.1.2.2.2.1, .int v0'.1.2.2.2.1.2.2.2.2.1, .int v0'.1.2.2.2.1.2.2.2.2.2])), (a11, .inr (3, [.ref a12, .int v0'.1.2.2.2.2.1.2.1, .int v0'.1.2.2.2.2.1.2.2.1, .int v0'.1.2.2.2.2.1.2.2.2.1, .int v0'.1.2.2.2.2.1.2.2.2.2.1, .int v0'.1.2.2.2.2.1.2.2.2.2.2.1, .int v0'.1.2.2.2.2.1.2.2.2.2.2.2])), (a12, .inr (4, [.ref a13, .int v0'.1.2.2.2.2.1.1.2.1, .int v0'.1.2.2.2.2.1.1.2.2])), (a13, .inl (ca 0, 512, .inl v0'.1.2.2.2.2.1.1.1)), (a14, .inr (4, [.ref a15, .int v0'.1.2.2.2.2.2.1.2.1, .int v0'.1.2.2.2.2.2.1.2.2])), (a15, .inl (ca 0, 512, .inl v0'.1.2.2.2.2.2.1.1)), (a16, .inr (6, [.ref a17, .ref a18, .int v0'.1.2.2.2.2.2.2.1.2.2])), (a17, .inl (ca 0, 15, .inl v0'.1.2.2.2.2.2.2.1.1)), (a18, .inl (ca 0, 15, .inl v0'.1.2.2.2.2.2.2.1.2.1)), (a19, .inr (9, [.ref a20, .int v0'.1.2.2.2.2.2.2.2.1.2.1, .int v0'.1.2.2.2.2.2.2.2.1.2.2.1, .int v0'.1.2.2.2.2.2.2.2.1.2.2.2])), (a20, .inl (ca 0, 300, .inl v0'.1.2.2.2.2.2.2.2.1.1)), (a49, .inr (0, [.ref a50, .ref a51, .int v0'.2.2.2.2.1.2.2.1, .int v0'.2.2.2.2.1.2.2.2.1, .int v0'.2.2.2.2.1.2.2.2.2])), (a50, .inl (ca 0, 400, .inl v0'.2.2.2.2.1.1)), (a51, .inl (ca 0, 256, .inl v0'.2.2.2.2.1.2.1))] A)) (by decide) rfl (Nat.le_of_ble_eq_true rfl) ?_
  intro p e s m args below meth c A Q ls hx hb hr hml hown hts hlocks hnm hA hN hZ hK hQ hP hD hS hl
  have w0 := hts _ (List.mem_cons_of_mem _ gw_2_191)
  have i11 : ∀ w ∈ u_ws RX11 TX11 8, w ∈ wq_X11_echo := fun w h => List.mem_cons_of_mem _ (inX11 w h)
  have bl25 : ∀ (k25 : V11 → Int32 → Int32 → Int32 → Int32 → Option (Int32 × V11)) (q25 : ∀ (v0 : V11) (x1 : Int32) (x2 : Int32) (x3 : Int32) (x4 : Int32), k25 v0 x1 x2 x3 x4 = some (r, v0') → ∀ (H : Heap) (locs : List Loc) (ls : Array Slot), va_P D vwCl [(a0, .inr (11, [.ref a1, .ref a21, .ref a41, .ref a42, .ref a49, .ref a52, .ref a54, .ref a55])), (a1, .inr (10, [.ref a2, .ref a7, .ref a9, .ref a10, .ref a11, .ref a14, .ref a16, .ref a19, .int v0.1.2.2.2.2.2.2.2.2.1, .int v0.1.2.2.2.2.2.2.2.2.2.1, .int v0.1.2.2.2.2.2.2.2.2.2.2.1, .int v0.1.2.2.2.2.2.2.2.2.2.2.2.1, .int v0.1.2.2.2.2.2.2.2.2.2.2.2.2.1, .int v0.1.2.2.2.2.2.2.2.2.2.2.2.2.2])), (a2, .inr (7, [.ref a3, .ref a4, .ref a5, .ref a6, .int v0.1.1.2.2.2.2])), (a3, .inl (ca 0, 9, .inl v0.1.1.1)), (a4, .inl (ca 0, 4, .inl v0.1.1.2.1)), (a5, .inl (ca 0, 4, .inl v0.1.1.2.2.1)), (a6, .inl (ca 0, 4, .inl v0.1.1.2.2.2.1)), (a7, .inr (2, [.ref a8, .int v0.1.2.1.2.1, .int v0.1.2.1.2.2.1, .int v0.1.2.1.2.2.2.1, .int v0.1.2.1.2.2.2.2])), (a8, .inl (ca 1, 17, .inr (.inl v0.1.2.1.1))), (a9, .inr (8, [.int v0.1.2.2.1.1, .int v0.1.2.2.1.2.1, .int v0.1.2.2.1.2.2])), (a10, .inr (1, [.int v0.1.2.2.2.1.1, .int v0.1.2.2.2.1.2.1, .int v0.1.2.2.2.1.2.2.1, .int v0.1.2.2.2.1.2.2.2.1, .int v0.1.2.2.2.1.2.2.2.2.1, .int v0.1.2.2.2.1.2.2.2.2.2])), (a11, .inr (3, [.ref a12, .int v0.1.2.2.2.2.1.2.1, .int v0.1.2.2.2.2.1.2.2.1, .int v0.1.2.2.2.2.1.2.2.2.1, .int v0.1.2.2.2.2.1.2.2.2.2.1, .int v0.1.2.2.2.2.1.2.2.2.2.2.1, .int v0.1.2.2.2.2.1.2.2.2.2.2.2])), (a12, .inr (4, [.ref a13, .int v0.1.2.2.2.2.1.1.2.1, .int v0.1.2.2.2.2.1.1.2.2])), (a13, .inl (ca 0, 512, .inl v0.1.2.2.2.2.1.1.1)), (a14, .inr (4, [.ref a15, .int v0.1.2.2.2.2.2.1.2.1, .int v0.1.2.2.2.2.2.1.2.2])), (a15, .inl (ca 0, 512, .inl v0.1.2.2.2.2.2.1.1)), (a16, .inr (6, [.ref a17, .ref a18, .int v0.1.2.2.2.2.2.2.1.2.2])), (a17, .inl (ca 0, 15, .inl v0.1.2.2.2.2.2.2.1.1)), (a18, .inl (ca 0, 15, .inl v0.1.2.2.2.2.2.2.1.2.1)), (a19, .inr (9, [.ref a20, .int v0.1.2.2.2.2.2.2.2.1.2.1, .int v0.1.2.2.2.2.2.2.2.1.2.2.1, .int v0.1.2.2.2.2.2.2.2.1.2.2.2])), (a20, .inl (ca 0, 300, .inl v0.1.2.2.2.2.2.2.2.1.1)), (a49, .inr (0, [.ref a50, .ref a51, .int v0.2.2.2.2.1.2.2.1, .int v0.2.2.2.2.1.2.2.2.1, .int v0.2.2.2.2.1.2.2.2.2])), (a50, .inl (ca 0, 400, .inl v0.2.2.2.2.1.1)), (a51, .inl (ca 0, 256, .inl v0.2.2.2.2.1.2.1))] H → va_D A [(a0, .inr (11, [.ref a1, .ref a21, .ref a41, .ref a42, .ref a49, .ref a52, .ref a54, .ref a55])), (a1, .inr (10, [.ref a2, .ref a7, .ref a9, .ref a10, .ref a11, .ref a14, .ref a16, .ref a19, .int v0.1.2.2.2.2.2.2.2.2.1, .int v0.1.2.2.2.2.2.2.2.2.2.1, .int v0.1.2.2.2.2.2.2.2.2.2.2.1, .int v0.1.2.2.2.2.2.2.2.2.2.2.2.1, .int v0.1.2.2.2.2.2.2.2.2.2.2.2.2.1, .int v0.1.2.2.2.2.2.2.2.2.2.2.2.2.2])), (a2, .inr (7, [.ref a3, .ref a4, .ref a5, .ref a6, .int v0.1.1.2.2.2.2])), (a3, .inl (ca 0, 9, .inl v0.1.1.1)), (a4, .inl (ca 0, 4, .inl v0.1.1.2.1)), (a5, .inl (ca 0, 4, .inl v0.1.1.2.2.1)), (a6, .inl (ca 0, 4, .inl v0.1.1.2.2.2.1)), (a7, .inr (2, [.ref a8, .int v0.1.2.1.2.1, .int v0.1.2.1.2.2.1, .int v0.1.2.1.2.2.2.1, .int v0.1.2.1.2.2.2.2])), (a8, .inl (ca 1, 17, .inr (.inl v0.1.2.1.1))), (a9, .inr (8, [.int v0.1.2.2.1.1, .int v0.1.2.2.1.2.1, .int v0.1.2.2.1.2.2])), (a10, .inr (1, [.int v0.1.2.2.2.1.1, .int v0.1.2.2.2.1.2.1, .int v0.1.2.2.2.1.2.2.1, .int v0.1.2.2.2.1.2.2.2.1, .int v0.1.2.2.2.1.2.2.2.2.1, .int v0.1.2.2.2.1.2.2.2.2.2])), (a11, .inr (3, [.ref a12, .int v0.1.2.2.2.2.1.2.1, .int v0.1.2.2.2.2.1.2.2.1, .int v0.1.2.2.2.2.1.2.2.2.1, .int v0.1.2.2.2.2.1.2.2.2.2.1, .int v0.1.2.2.2.2.1.2.2.2.2.2.1, .int v0.1.2.2.2.2.1.2.2.2.2.2.2])), (a12, .inr (4, [.ref a13, .int v0.1.2.2.2.2.1.1.2.1, .int v0.1.2.2.2.2.1.1.2.2])), (a13, .inl (ca 0, 512, .inl v0.1.2.2.2.2.1.1.1)), (a14, .inr (4, [.ref a15, .int v0.1.2.2.2.2.2.1.2.1, .int v0.1.2.2.2.2.2.1.2.2])), (a15, .inl (ca 0, 512, .inl v0.1.2.2.2.2.2.1.1)), (a16, .inr (6, [.ref a17, .ref a18, .int v0.1.2.2.2.2.2.2.1.2.2])), (a17, .inl (ca 0, 15, .inl v0.1.2.2.2.2.2.2.1.1)), (a18, .inl (ca 0, 15, .inl v0.1.2.2.2.2.2.2.1.2.1)), (a19, .inr (9, [.ref a20, .int v0.1.2.2.2.2.2.2.2.1.2.1, .int v0.1.2.2.2.2.2.2.2.1.2.2.1, .int v0.1.2.2.2.2.2.2.2.1.2.2.2])), (a20, .inl (ca 0, 300, .inl v0.1.2.2.2.2.2.2.2.1.1)), (a49, .inr (0, [.ref a50, .ref a51, .int v0.2.2.2.2.1.2.2.1, .int v0.2.2.2.2.1.2.2.2.1, .int v0.2.2.2.2.1.2.2.2.2])), (a50, .inl (ca 0, 400, .inl v0.2.2.2.2.1.1)), (a51, .inl (ca 0, 256, .inl v0.2.2.2.2.1.2.1))] → va_S A s.heap H locs → lv_has ls 6 [(0, .ref a0), (1, .int x1), (2, .int x2), (3, .int x3), (4, .int x4)] → W p l e ({ frames := 3, cells := 0, slots := 0, locals := 67 } : Room) s m args below meth c H locs 0 0 Q (F0 m 25 ls [])) (v0 : V11) (x1 : Int32) (x2 : Int32) (x3 : Int32) (x4 : Int32), fl_X11_echo_25 k25 v0 x1 x2 x3 x4 = some (r, v0') → ∀ (H : Heap) (locs : List Loc) (ls : Array Slot), va_P D vwCl [(a0, .inr (11, [.ref a1, .ref a21, .ref a41, .ref a42, .ref a49, .ref a52, .ref a54, .ref a55])), (a1, .inr (10, [.ref a2, .ref a7, .ref a9, .ref a10, .ref a11, .ref a14, .ref a16, .ref a19, .int v0.1.2.2.2.2.2.2.2.2.1, .int v0.1.2.2.2.2.2.2.2.2.2.1, .int v0.1.2.2.2.2.2.2.2.2.2.2.1, .int v0.1.2.2.2.2.2.2.2.2.2.2.2.1, .int v0.1.2.2.2.2.2.2.2.2.2.2.2.2.1, .int v0.1.2.2.2.2.2.2.2.2.2.2.2.2.2])), (a2, .inr (7, [.ref a3, .ref a4, .ref a5, .ref a6, .int v0.1.1.2.2.2.2])), (a3, .inl (ca 0, 9, .inl v0.1.1.1)), (a4, .inl (ca 0, 4, .inl v0.1.1.2.1)), (a5, .inl (ca 0, 4, .inl v0.1.1.2.2.1)), (a6, .inl (ca 0, 4, .inl v0.1.1.2.2.2.1)), (a7, .inr (2, [.ref a8, .int v0.1.2.1.2.1, .int v0.1.2.1.2.2.1, .int v0.1.2.1.2.2.2.1, .int v0.1.2.1.2.2.2.2])), (a8, .inl (ca 1, 17, .inr (.inl v0.1.2.1.1))), (a9, .inr (8, [.int v0.1.2.2.1.1, .int v0.1.2.2.1.2.1, .int v0.1.2.2.1.2.2])), (a10, .inr (1, [.int v0.1.2.2.2.1.1, .int v0.1.2.2.2.1.2.1, .int v0.1.2.2.2.1.2.2.1, .int v0.1.2.2.2.1.2.2.2.1, .int v0.1.2.2.2.1.2.2.2.2.1, .int v0.1.2.2.2.1.2.2.2.2.2])), (a11, .inr (3, [.ref a12, .int v0.1.2.2.2.2.1.2.1, .int v0.1.2.2.2.2.1.2.2.1, .int v0.1.2.2.2.2.1.2.2.2.1, .int v0.1.2.2.2.2.1.2.2.2.2.1, .int v0.1.2.2.2.2.1.2.2.2.2.2.1, .int v0.1.2.2.2.2.1.2.2.2.2.2.2])), (a12, .inr (4, [.ref a13, .int v0.1.2.2.2.2.1.1.2.1, .int v0.1.2.2.2.2.1.1.2.2])), (a13, .inl (ca 0, 512, .inl v0.1.2.2.2.2.1.1.1)), (a14, .inr (4, [.ref a15, .int v0.1.2.2.2.2.2.1.2.1, .int v0.1.2.2.2.2.2.1.2.2])), (a15, .inl (ca 0, 512, .inl v0.1.2.2.2.2.2.1.1)), (a16, .inr (6, [.ref a17, .ref a18, .int v0.1.2.2.2.2.2.2.1.2.2])), (a17, .inl (ca 0, 15, .inl v0.1.2.2.2.2.2.2.1.1)), (a18, .inl (ca 0, 15, .inl v0.1.2.2.2.2.2.2.1.2.1)), (a19, .inr (9, [.ref a20, .int v0.1.2.2.2.2.2.2.2.1.2.1, .int v0.1.2.2.2.2.2.2.2.1.2.2.1, .int v0.1.2.2.2.2.2.2.2.1.2.2.2])), (a20, .inl (ca 0, 300, .inl v0.1.2.2.2.2.2.2.2.1.1)), (a49, .inr (0, [.ref a50, .ref a51, .int v0.2.2.2.2.1.2.2.1, .int v0.2.2.2.2.1.2.2.2.1, .int v0.2.2.2.2.1.2.2.2.2])), (a50, .inl (ca 0, 400, .inl v0.2.2.2.2.1.1)), (a51, .inl (ca 0, 256, .inl v0.2.2.2.2.1.2.1))] H → va_D A [(a0, .inr (11, [.ref a1, .ref a21, .ref a41, .ref a42, .ref a49, .ref a52, .ref a54, .ref a55])), (a1, .inr (10, [.ref a2, .ref a7, .ref a9, .ref a10, .ref a11, .ref a14, .ref a16, .ref a19, .int v0.1.2.2.2.2.2.2.2.2.1, .int v0.1.2.2.2.2.2.2.2.2.2.1, .int v0.1.2.2.2.2.2.2.2.2.2.2.1, .int v0.1.2.2.2.2.2.2.2.2.2.2.2.1, .int v0.1.2.2.2.2.2.2.2.2.2.2.2.2.1, .int v0.1.2.2.2.2.2.2.2.2.2.2.2.2.2])), (a2, .inr (7, [.ref a3, .ref a4, .ref a5, .ref a6, .int v0.1.1.2.2.2.2])), (a3, .inl (ca 0, 9, .inl v0.1.1.1)), (a4, .inl (ca 0, 4, .inl v0.1.1.2.1)), (a5, .inl (ca 0, 4, .inl v0.1.1.2.2.1)), (a6, .inl (ca 0, 4, .inl v0.1.1.2.2.2.1)), (a7, .inr (2, [.ref a8, .int v0.1.2.1.2.1, .int v0.1.2.1.2.2.1, .int v0.1.2.1.2.2.2.1, .int v0.1.2.1.2.2.2.2])), (a8, .inl (ca 1, 17, .inr (.inl v0.1.2.1.1))), (a9, .inr (8, [.int v0.1.2.2.1.1, .int v0.1.2.2.1.2.1, .int v0.1.2.2.1.2.2])), (a10, .inr (1, [.int v0.1.2.2.2.1.1, .int v0.1.2.2.2.1.2.1, .int v0.1.2.2.2.1.2.2.1, .int v0.1.2.2.2.1.2.2.2.1, .int v0.1.2.2.2.1.2.2.2.2.1, .int v0.1.2.2.2.1.2.2.2.2.2])), (a11, .inr (3, [.ref a12, .int v0.1.2.2.2.2.1.2.1, .int v0.1.2.2.2.2.1.2.2.1, .int v0.1.2.2.2.2.1.2.2.2.1, .int v0.1.2.2.2.2.1.2.2.2.2.1, .int v0.1.2.2.2.2.1.2.2.2.2.2.1, .int v0.1.2.2.2.2.1.2.2.2.2.2.2])), (a12, .inr (4, [.ref a13, .int v0.1.2.2.2.2.1.1.2.1, .int v0.1.2.2.2.2.1.1.2.2])), (a13, .inl (ca 0, 512, .inl v0.1.2.2.2.2.1.1.1)), (a14, .inr (4, [.ref a15, .int v0.1.2.2.2.2.2.1.2.1, .int v0.1.2.2.2.2.2.1.2.2])), (a15, .inl (ca 0, 512, .inl v0.1.2.2.2.2.2.1.1)), (a16, .inr (6, [.ref a17, .ref a18, .int v0.1.2.2.2.2.2.2.1.2.2])), (a17, .inl (ca 0, 15, .inl v0.1.2.2.2.2.2.2.1.1)), (a18, .inl (ca 0, 15, .inl v0.1.2.2.2.2.2.2.1.2.1)), (a19, .inr (9, [.ref a20, .int v0.1.2.2.2.2.2.2.2.1.2.1, .int v0.1.2.2.2.2.2.2.2.1.2.2.1, .int v0.1.2.2.2.2.2.2.2.1.2.2.2])), (a20, .inl (ca 0, 300, .inl v0.1.2.2.2.2.2.2.2.1.1)), (a49, .inr (0, [.ref a50, .ref a51, .int v0.2.2.2.2.1.2.2.1, .int v0.2.2.2.2.1.2.2.2.1, .int v0.2.2.2.2.1.2.2.2.2])), (a50, .inl (ca 0, 400, .inl v0.2.2.2.2.1.1)), (a51, .inl (ca 0, 256, .inl v0.2.2.2.2.1.2.1))] → va_S A s.heap H locs → lv_has ls 6 [(0, .ref a0), (1, .int x1), (2, .int x2), (3, .int x3), (4, .int x4)] → W p l e ({ frames := 3, cells := 0, slots := 0, locals := 67 } : Room) s m args below meth c H locs 0 0 Q (F0 m 25 ls []) := by
    intro k25 q25 v0 x1 x2 x3 x4 hf H locs ls hP hD hS hl
    unfold fl_X11_echo_25 at hf
    refine lv_iload hx hb dX11_echo_25 (lv_at hl 4 rfl) ?_
    refine lv_bipush (v := 32) hx hb dX11_echo_27 rfl ?_
    refine xc_gt (tgt := 76) hx hb dX11_echo_29 (by decide) hf (fun hf => ?_) (fun hf => ?_)
    · refine lv_iload_n hx hb dX11_echo_76 rfl (lv_at hl 2 rfl) ?_
      have he := Option.some.inj hf
      obtain ⟨e_r, he⟩ := Prod.mk.inj he
      have e_v0 := he
      refine rt_I hx hb hr hlocks hK hP hD hS hQ e_r ?_ dX11_echo_77
      simp only [← e_v0]
    · refine lv_iload hx hb dX11_echo_32 (lv_at hl 4 rfl) ?_
      refine lv_iload_n hx hb dX11_echo_34 rfl (lv_at hl 1 rfl) ?_
      refine xc_ge (tgt := 76) hx hb dX11_echo_35 (by decide) hf (fun hf => ?_) (fun hf => ?_)
      · refine lv_iload_n hx hb dX11_echo_76 rfl (lv_at hl 2 rfl) ?_
        have he := Option.some.inj hf
        obtain ⟨e_r, he⟩ := Prod.mk.inj he
        have e_v0 := he
        refine rt_I hx hb hr hlocks hK hP hD hS hQ e_r ?_ dX11_echo_77
        simp only [← e_v0]
      · refine lv_aload_n hx hb dX11_echo_38 rfl (lv_at hl 0 rfl) ?_
        refine va_get (C := RX11) (T := TX11) (N := 8) hx hb hts i11 hown hK hP 0 rfl rfl 4 (Nat.le_of_ble_eq_true rfl) w0 (fun _ h9 => h9) rfl dX11_echo_39 ?_
        refine lv_iload hx hb dX11_echo_42 (lv_at hl 4 rfl) ?_
        obtain ⟨r_4, hc4, hf⟩ := bnd1_el hf
        refine xV_I (As := [.int x4]) (wx := [(a0, .inr (11, [.ref a1, .ref a21, .ref a41, .ref a42, .ref a49, .ref a52, .ref a54, .ref a55])), (a1, .inr (10, [.ref a2, .ref a7, .ref a9, .ref a10, .ref a11, .ref a14, .ref a16, .ref a19, .int v0.1.2.2.2.2.2.2.2.2.1, .int v0.1.2.2.2.2.2.2.2.2.2.1, .int v0.1.2.2.2.2.2.2.2.2.2.2.1, .int v0.1.2.2.2.2.2.2.2.2.2.2.2.1, .int v0.1.2.2.2.2.2.2.2.2.2.2.2.2.1, .int v0.1.2.2.2.2.2.2.2.2.2.2.2.2.2])), (a2, .inr (7, [.ref a3, .ref a4, .ref a5, .ref a6, .int v0.1.1.2.2.2.2])), (a3, .inl (ca 0, 9, .inl v0.1.1.1)), (a4, .inl (ca 0, 4, .inl v0.1.1.2.1)), (a5, .inl (ca 0, 4, .inl v0.1.1.2.2.1)), (a6, .inl (ca 0, 4, .inl v0.1.1.2.2.2.1)), (a7, .inr (2, [.ref a8, .int v0.1.2.1.2.1, .int v0.1.2.1.2.2.1, .int v0.1.2.1.2.2.2.1, .int v0.1.2.1.2.2.2.2])), (a8, .inl (ca 1, 17, .inr (.inl v0.1.2.1.1))), (a9, .inr (8, [.int v0.1.2.2.1.1, .int v0.1.2.2.1.2.1, .int v0.1.2.2.1.2.2])), (a10, .inr (1, [.int v0.1.2.2.2.1.1, .int v0.1.2.2.2.1.2.1, .int v0.1.2.2.2.1.2.2.1, .int v0.1.2.2.2.1.2.2.2.1, .int v0.1.2.2.2.1.2.2.2.2.1, .int v0.1.2.2.2.1.2.2.2.2.2])), (a11, .inr (3, [.ref a12, .int v0.1.2.2.2.2.1.2.1, .int v0.1.2.2.2.2.1.2.2.1, .int v0.1.2.2.2.2.1.2.2.2.1, .int v0.1.2.2.2.2.1.2.2.2.2.1, .int v0.1.2.2.2.2.1.2.2.2.2.2.1, .int v0.1.2.2.2.2.1.2.2.2.2.2.2])), (a12, .inr (4, [.ref a13, .int v0.1.2.2.2.2.1.1.2.1, .int v0.1.2.2.2.2.1.1.2.2])), (a13, .inl (ca 0, 512, .inl v0.1.2.2.2.2.1.1.1)), (a14, .inr (4, [.ref a15, .int v0.1.2.2.2.2.2.1.2.1, .int v0.1.2.2.2.2.2.1.2.2])), (a15, .inl (ca 0, 512, .inl v0.1.2.2.2.2.2.1.1)), (a16, .inr (6, [.ref a17, .ref a18, .int v0.1.2.2.2.2.2.2.1.2.2])), (a17, .inl (ca 0, 15, .inl v0.1.2.2.2.2.2.2.1.1)), (a18, .inl (ca 0, 15, .inl v0.1.2.2.2.2.2.2.1.2.1)), (a19, .inr (9, [.ref a20, .int v0.1.2.2.2.2.2.2.2.1.2.1, .int v0.1.2.2.2.2.2.2.2.1.2.2.1, .int v0.1.2.2.2.2.2.2.2.1.2.2.2])), (a20, .inl (ca 0, 300, .inl v0.1.2.2.2.2.2.2.2.1.1)), (a49, .inr (0, [.ref a50, .ref a51, .int v0.2.2.2.2.1.2.2.1, .int v0.2.2.2.2.1.2.2.2.1, .int v0.2.2.2.2.1.2.2.2.2])), (a50, .inl (ca 0, 400, .inl v0.2.2.2.2.1.1)), (a51, .inl (ca 0, 256, .inl v0.2.2.2.2.1.2.1))]) ⟨hx, hb, hml, hown, hts⟩ (c_X0_alikeAt l D ca zz a49 a50 a51 _ v0.2.2.2.2.1 x4 r_4 hc4) (cwV 1 hts (gV gw_4_125 gw_4_126 gw_4_127 gw_1_14 gw_4_128) rfl rfl rfl (by decide +kernel) ⟨(Nat.le_of_ble_eq_true rfl), (Nat.le_of_ble_eq_true rfl)⟩) hK hN hZ hA hP hD hS [21, 22] [none, none, none, none, none, none, none, none, none, none, none, none, none, none, none, none, none, none, none, none, none, some 0, some 1, none] (by decide +kernel) rfl rfl rfl rfl 21 rfl rfl hl.1 rfl (Nat.le_of_ble_eq_true rfl) dX11_echo_44 ⟨Nat.zero_le _, Nat.zero_le _⟩ rfl (fun H locs hP hD hS => ?_)
        refine lv_istore (lv' := [(5, .int r_4), (0, .ref a0), (1, .int x1), (2, .int x2), (3, .int x3), (4, .int x4)]) hx hb dX11_echo_47 hl (Nat.le_of_ble_eq_true rfl) rfl (fun ls hl => ?_)
        refine lv_iload hx hb dX11_echo_49 (lv_at hl 0 rfl) ?_
        refine lv_iload_n hx hb dX11_echo_51 rfl (lv_at hl 2 rfl) ?_
        refine lv_iload_n hx hb dX11_echo_52 rfl (lv_at hl 3 rfl) ?_
        refine lv_isub hx hb dX11_echo_53 ?_
        refine lv_imul hx hb dX11_echo_54 ?_
        refine lv_iload_n hx hb dX11_echo_55 rfl (lv_at hl 4 rfl) ?_
        refine lv_iload_n hx hb dX11_echo_56 rfl (lv_at hl 2 rfl) ?_
        refine lv_iload hx hb dX11_echo_57 (lv_at hl 5 rfl) ?_
        refine lv_isub hx hb dX11_echo_59 ?_
        refine lv_imul hx hb dX11_echo_60 ?_
        refine xc_le (tgt := 70) hx hb dX11_echo_61 (by decide) hf (fun hf => ?_) (fun hf => ?_)
        · obtain ⟨x_5, ex_5, hf⟩ := bnd_el hf
          refine lv_iinc (v := x_5) (lv' := [(4, .int x_5), (5, .int r_4), (0, .ref a0), (1, .int x1), (2, .int x2), (3, .int x3)]) hx hb dX11_echo_70 hl (k := 5) rfl (by rw [ex_5]; rfl) (Nat.le_of_ble_eq_true rfl) rfl (fun ls hl => ?_)
          refine lv_goto (tgt := 25) hx hb dX11_echo_73 (by decide) ?_
          exact q25 v0 x1 x2 x3 x_5 hf _ _ _ hP hD hS (lv_sub hl [2, 3, 4, 5, 0] rfl)
        · refine lv_iload hx hb dX11_echo_64 (lv_at hl 5 rfl) ?_
          refine lv_istore_n (lv' := [(2, .int x4), (5, .int r_4), (0, .ref a0), (1, .int x1), (3, .int x3), (4, .int x4)]) hx hb dX11_echo_66 rfl hl (Nat.le_of_ble_eq_true rfl) rfl (fun ls hl => ?_)
          refine lv_iload hx hb dX11_echo_67 (lv_at hl 1 rfl) ?_
          refine lv_istore_n (lv' := [(3, .int r_4), (2, .int x4), (5, .int r_4), (0, .ref a0), (1, .int x1), (4, .int x4)]) hx hb dX11_echo_69 rfl hl (Nat.le_of_ble_eq_true rfl) rfl (fun ls hl => ?_)
          obtain ⟨x_6, ex_6, hf⟩ := bnd_el hf
          refine lv_iinc (v := x_6) (lv' := [(4, .int x_6), (3, .int r_4), (2, .int x4), (5, .int r_4), (0, .ref a0), (1, .int x1)]) hx hb dX11_echo_70 hl (k := 5) rfl (by rw [ex_6]; rfl) (Nat.le_of_ble_eq_true rfl) rfl (fun ls hl => ?_)
          refine lv_goto (tgt := 25) hx hb dX11_echo_73 (by decide) ?_
          exact q25 v0 x1 x4 r_4 x_6 hf _ _ _ hP hD hS (lv_sub hl [4, 5, 2, 1, 0] rfl)
  have b25 : ∀ (n : Nat) (v0 : V11) (x1 : Int32) (x2 : Int32) (x3 : Int32) (x4 : Int32), fb_X11_echo_25 n v0 x1 x2 x3 x4 = some (r, v0') → ∀ (H : Heap) (locs : List Loc) (ls : Array Slot), va_P D vwCl [(a0, .inr (11, [.ref a1, .ref a21, .ref a41, .ref a42, .ref a49, .ref a52, .ref a54, .ref a55])), (a1, .inr (10, [.ref a2, .ref a7, .ref a9, .ref a10, .ref a11, .ref a14, .ref a16, .ref a19, .int v0.1.2.2.2.2.2.2.2.2.1, .int v0.1.2.2.2.2.2.2.2.2.2.1, .int v0.1.2.2.2.2.2.2.2.2.2.2.1, .int v0.1.2.2.2.2.2.2.2.2.2.2.2.1, .int v0.1.2.2.2.2.2.2.2.2.2.2.2.2.1, .int v0.1.2.2.2.2.2.2.2.2.2.2.2.2.2])), (a2, .inr (7, [.ref a3, .ref a4, .ref a5, .ref a6, .int v0.1.1.2.2.2.2])), (a3, .inl (ca 0, 9, .inl v0.1.1.1)), (a4, .inl (ca 0, 4, .inl v0.1.1.2.1)), (a5, .inl (ca 0, 4, .inl v0.1.1.2.2.1)), (a6, .inl (ca 0, 4, .inl v0.1.1.2.2.2.1)), (a7, .inr (2, [.ref a8, .int v0.1.2.1.2.1, .int v0.1.2.1.2.2.1, .int v0.1.2.1.2.2.2.1, .int v0.1.2.1.2.2.2.2])), (a8, .inl (ca 1, 17, .inr (.inl v0.1.2.1.1))), (a9, .inr (8, [.int v0.1.2.2.1.1, .int v0.1.2.2.1.2.1, .int v0.1.2.2.1.2.2])), (a10, .inr (1, [.int v0.1.2.2.2.1.1, .int v0.1.2.2.2.1.2.1, .int v0.1.2.2.2.1.2.2.1, .int v0.1.2.2.2.1.2.2.2.1, .int v0.1.2.2.2.1.2.2.2.2.1, .int v0.1.2.2.2.1.2.2.2.2.2])), (a11, .inr (3, [.ref a12, .int v0.1.2.2.2.2.1.2.1, .int v0.1.2.2.2.2.1.2.2.1, .int v0.1.2.2.2.2.1.2.2.2.1, .int v0.1.2.2.2.2.1.2.2.2.2.1, .int v0.1.2.2.2.2.1.2.2.2.2.2.1, .int v0.1.2.2.2.2.1.2.2.2.2.2.2])), (a12, .inr (4, [.ref a13, .int v0.1.2.2.2.2.1.1.2.1, .int v0.1.2.2.2.2.1.1.2.2])), (a13, .inl (ca 0, 512, .inl v0.1.2.2.2.2.1.1.1)), (a14, .inr (4, [.ref a15, .int v0.1.2.2.2.2.2.1.2.1, .int v0.1.2.2.2.2.2.1.2.2])), (a15, .inl (ca 0, 512, .inl v0.1.2.2.2.2.2.1.1)), (a16, .inr (6, [.ref a17, .ref a18, .int v0.1.2.2.2.2.2.2.1.2.2])), (a17, .inl (ca 0, 15, .inl v0.1.2.2.2.2.2.2.1.1)), (a18, .inl (ca 0, 15, .inl v0.1.2.2.2.2.2.2.1.2.1)), (a19, .inr (9, [.ref a20, .int v0.1.2.2.2.2.2.2.2.1.2.1, .int v0.1.2.2.2.2.2.2.2.1.2.2.1, .int v0.1.2.2.2.2.2.2.2.1.2.2.2])), (a20, .inl (ca 0, 300, .inl v0.1.2.2.2.2.2.2.2.1.1)), (a49, .inr (0, [.ref a50, .ref a51, .int v0.2.2.2.2.1.2.2.1, .int v0.2.2.2.2.1.2.2.2.1, .int v0.2.2.2.2.1.2.2.2.2])), (a50, .inl (ca 0, 400, .inl v0.2.2.2.2.1.1)), (a51, .inl (ca 0, 256, .inl v0.2.2.2.2.1.2.1))] H → va_D A [(a0, .inr (11, [.ref a1, .ref a21, .ref a41, .ref a42, .ref a49, .ref a52, .ref a54, .ref a55])), (a1, .inr (10, [.ref a2, .ref a7, .ref a9, .ref a10, .ref a11, .ref a14, .ref a16, .ref a19, .int v0.1.2.2.2.2.2.2.2.2.1, .int v0.1.2.2.2.2.2.2.2.2.2.1, .int v0.1.2.2.2.2.2.2.2.2.2.2.1, .int v0.1.2.2.2.2.2.2.2.2.2.2.2.1, .int v0.1.2.2.2.2.2.2.2.2.2.2.2.2.1, .int v0.1.2.2.2.2.2.2.2.2.2.2.2.2.2])), (a2, .inr (7, [.ref a3, .ref a4, .ref a5, .ref a6, .int v0.1.1.2.2.2.2])), (a3, .inl (ca 0, 9, .inl v0.1.1.1)), (a4, .inl (ca 0, 4, .inl v0.1.1.2.1)), (a5, .inl (ca 0, 4, .inl v0.1.1.2.2.1)), (a6, .inl (ca 0, 4, .inl v0.1.1.2.2.2.1)), (a7, .inr (2, [.ref a8, .int v0.1.2.1.2.1, .int v0.1.2.1.2.2.1, .int v0.1.2.1.2.2.2.1, .int v0.1.2.1.2.2.2.2])), (a8, .inl (ca 1, 17, .inr (.inl v0.1.2.1.1))), (a9, .inr (8, [.int v0.1.2.2.1.1, .int v0.1.2.2.1.2.1, .int v0.1.2.2.1.2.2])), (a10, .inr (1, [.int v0.1.2.2.2.1.1, .int v0.1.2.2.2.1.2.1, .int v0.1.2.2.2.1.2.2.1, .int v0.1.2.2.2.1.2.2.2.1, .int v0.1.2.2.2.1.2.2.2.2.1, .int v0.1.2.2.2.1.2.2.2.2.2])), (a11, .inr (3, [.ref a12, .int v0.1.2.2.2.2.1.2.1, .int v0.1.2.2.2.2.1.2.2.1, .int v0.1.2.2.2.2.1.2.2.2.1, .int v0.1.2.2.2.2.1.2.2.2.2.1, .int v0.1.2.2.2.2.1.2.2.2.2.2.1, .int v0.1.2.2.2.2.1.2.2.2.2.2.2])), (a12, .inr (4, [.ref a13, .int v0.1.2.2.2.2.1.1.2.1, .int v0.1.2.2.2.2.1.1.2.2])), (a13, .inl (ca 0, 512, .inl v0.1.2.2.2.2.1.1.1)), (a14, .inr (4, [.ref a15, .int v0.1.2.2.2.2.2.1.2.1, .int v0.1.2.2.2.2.2.1.2.2])), (a15, .inl (ca 0, 512, .inl v0.1.2.2.2.2.2.1.1)), (a16, .inr (6, [.ref a17, .ref a18, .int v0.1.2.2.2.2.2.2.1.2.2])), (a17, .inl (ca 0, 15, .inl v0.1.2.2.2.2.2.2.1.1)), (a18, .inl (ca 0, 15, .inl v0.1.2.2.2.2.2.2.1.2.1)), (a19, .inr (9, [.ref a20, .int v0.1.2.2.2.2.2.2.2.1.2.1, .int v0.1.2.2.2.2.2.2.2.1.2.2.1, .int v0.1.2.2.2.2.2.2.2.1.2.2.2])), (a20, .inl (ca 0, 300, .inl v0.1.2.2.2.2.2.2.2.1.1)), (a49, .inr (0, [.ref a50, .ref a51, .int v0.2.2.2.2.1.2.2.1, .int v0.2.2.2.2.1.2.2.2.1, .int v0.2.2.2.2.1.2.2.2.2])), (a50, .inl (ca 0, 400, .inl v0.2.2.2.2.1.1)), (a51, .inl (ca 0, 256, .inl v0.2.2.2.2.1.2.1))] → va_S A s.heap H locs → lv_has ls 6 [(0, .ref a0), (1, .int x1), (2, .int x2), (3, .int x3), (4, .int x4)] → W p l e ({ frames := 3, cells := 0, slots := 0, locals := 67 } : Room) s m args below meth c H locs 0 0 Q (F0 m 25 ls []) := by
    intro n
    induction n with
    | zero => intro v0 x1 x2 x3 x4 hf; exact no_el hf
    | succ n ih => exact bl25 (fb_X11_echo_25 n) ih
  unfold f_X11_echo at hf
  refine lv_aload_n hx hb dX11_echo_0 rfl (lv_at hl 0 rfl) ?_
  refine lv_iload_n hx hb dX11_echo_1 rfl (lv_at hl 1 rfl) ?_
  refine lv_iconst (v := 2) hx hb dX11_echo_2 rfl ?_
  obtain ⟨r_1, u_2, hc2, hf⟩ := bnd2_el hf
  refine xV_I (As := [.int p1, .int (2 : Int32)]) (wx := [(a0, .inr (11, [.ref a1, .ref a21, .ref a41, .ref a42, .ref a49, .ref a52, .ref a54, .ref a55])), (a1, .inr (10, [.ref a2, .ref a7, .ref a9, .ref a10, .ref a11, .ref a14, .ref a16, .ref a19, .int u_2.1.2.2.2.2.2.2.2.2.1, .int u_2.1.2.2.2.2.2.2.2.2.2.1, .int u_2.1.2.2.2.2.2.2.2.2.2.2.1, .int u_2.1.2.2.2.2.2.2.2.2.2.2.2.1, .int u_2.1.2.2.2.2.2.2.2.2.2.2.2.2.1, .int u_2.1.2.2.2.2.2.2.2.2.2.2.2.2.2])), (a2, .inr (7, [.ref a3, .ref a4, .ref a5, .ref a6, .int u_2.1.1.2.2.2.2])), (a3, .inl (ca 0, 9, .inl u_2.1.1.1)), (a4, .inl (ca 0, 4, .inl u_2.1.1.2.1)), (a5, .inl (ca 0, 4, .inl u_2.1.1.2.2.1)), (a6, .inl (ca 0, 4, .inl u_2.1.1.2.2.2.1)), (a7, .inr (2, [.ref a8, .int u_2.1.2.1.2.1, .int u_2.1.2.1.2.2.1, .int u_2.1.2.1.2.2.2.1, .int u_2.1.2.1.2.2.2.2])), (a8, .inl (ca 1, 17, .inr (.inl u_2.1.2.1.1))), (a9, .inr (8, [.int u_2.1.2.2.1.1, .int u_2.1.2.2.1.2.1, .int u_2.1.2.2.1.2.2])), (a10, .inr (1, [.int u_2.1.2.2.2.1.1, .int u_2.1.2.2.2.1.2.1, .int u_2.1.2.2.2.1.2.2.1, .int u_2.1.2.2.2.1.2.2.2.1, .int u_2.1.2.2.2.1.2.2.2.2.1, .int u_2.1.2.2.2.1.2.2.2.2.2])), (a11, .inr (3, [.ref a12, .int u_2.1.2.2.2.2.1.2.1, .int u_2.1.2.2.2.2.1.2.2.1, .int u_2.1.2.2.2.2.1.2.2.2.1, .int u_2.1.2.2.2.2.1.2.2.2.2.1, .int u_2.1.2.2.2.2.1.2.2.2.2.2.1, .int u_2.1.2.2.2.2.1.2.2.2.2.2.2])), (a12, .inr (4, [.ref a13, .int u_2.1.2.2.2.2.1.1.2.1, .int u_2.1.2.2.2.2.1.1.2.2])), (a13, .inl (ca 0, 512, .inl u_2.1.2.2.2.2.1.1.1)), (a14, .inr (4, [.ref a15, .int u_2.1.2.2.2.2.2.1.2.1, .int u_2.1.2.2.2.2.2.1.2.2])), (a15, .inl (ca 0, 512, .inl u_2.1.2.2.2.2.2.1.1)), (a16, .inr (6, [.ref a17, .ref a18, .int u_2.1.2.2.2.2.2.2.1.2.2])), (a17, .inl (ca 0, 15, .inl u_2.1.2.2.2.2.2.2.1.1)), (a18, .inl (ca 0, 15, .inl u_2.1.2.2.2.2.2.2.1.2.1)), (a19, .inr (9, [.ref a20, .int u_2.1.2.2.2.2.2.2.2.1.2.1, .int u_2.1.2.2.2.2.2.2.2.1.2.2.1, .int u_2.1.2.2.2.2.2.2.2.1.2.2.2])), (a20, .inl (ca 0, 300, .inl u_2.1.2.2.2.2.2.2.2.1.1)), (a49, .inr (0, [.ref a50, .ref a51, .int u_2.2.2.2.2.1.2.2.1, .int u_2.2.2.2.2.1.2.2.2.1, .int u_2.2.2.2.2.1.2.2.2.2])), (a50, .inl (ca 0, 400, .inl u_2.2.2.2.2.1.1)), (a51, .inl (ca 0, 256, .inl u_2.2.2.2.2.1.2.1))]) ⟨hx, hb, hml, hown, hts⟩ (c_X11_loadLatest l D ca zz a0 a1 a2 a3 a4 a5 a6 a7 a8 a9 a10 a11 a12 a13 a14 a15 a16 a17 a18 a19 a20 a21 a41 a42 a49 a50 a51 a52 a54 a55 _ v0 p1 (2 : Int32) r_1 u_2 hc2) (cwV 2 hts (gV gw_4_57 gw_4_59 gw_s_1_13 gw_1_1 gw_4_60) rfl rfl rfl (by decide +kernel) ⟨(Nat.le_of_ble_eq_true rfl), (Nat.le_of_ble_eq_true rfl)⟩) hK hN hZ hA hP hD hS [0, 1, 2, 3, 4, 5, 6, 7, 8, 9, 10, 11, 12, 13, 14, 15, 16, 17, 18, 19, 20, 21, 22, 23] [some 0, some 1, some 2, some 3, some 4, some 5, some 6, some 7, some 8, some 9, some 10, some 11, some 12, some 13, some 14, some 15, some 16, some 17, some 18, some 19, some 20, some 21, some 22, some 23] (by decide +kernel) rfl rfl rfl rfl 0 rfl rfl hl.1 rfl (Nat.le_of_ble_eq_true rfl) dX11_echo_3 ⟨Nat.zero_le _, Nat.zero_le _⟩ rfl (fun H locs hP hD hS => ?_)
  refine xi_ne (tgt := 11) hx hb dX11_echo_6 (by decide) hf (fun hf => ?_) (fun hf => ?_)
  · refine lv_iconst (v := 1) hx hb dX11_echo_11 rfl ?_
    refine lv_istore_n (lv' := [(2, .int (1 : Int32)), (0, .ref a0), (1, .int p1)]) hx hb dX11_echo_12 rfl hl (Nat.le_of_ble_eq_true rfl) rfl (fun ls hl => ?_)
    refine lv_aload_n hx hb dX11_echo_13 rfl (lv_at hl 1 rfl) ?_
    refine va_get (C := RX11) (T := TX11) (N := 8) hx hb hts i11 hown hK hP 0 rfl rfl 4 (Nat.le_of_ble_eq_true rfl) w0 (fun _ h9 => h9) rfl dX11_echo_14 ?_
    refine lv_iconst (v := 1) hx hb dX11_echo_17 rfl ?_
    obtain ⟨r_3, hc3, hf⟩ := bnd1_el hf
    refine xV_I (As := [.int (1 : Int32)]) (wx := [(a0, .inr (11, [.ref a1, .ref a21, .ref a41, .ref a42, .ref a49, .ref a52, .ref a54, .ref a55])), (a1, .inr (10, [.ref a2, .ref a7, .ref a9, .ref a10, .ref a11, .ref a14, .ref a16, .ref a19, .int u_2.1.2.2.2.2.2.2.2.2.1, .int u_2.1.2.2.2.2.2.2.2.2.2.1, .int u_2.1.2.2.2.2.2.2.2.2.2.2.1, .int u_2.1.2.2.2.2.2.2.2.2.2.2.2.1, .int u_2.1.2.2.2.2.2.2.2.2.2.2.2.2.1, .int u_2.1.2.2.2.2.2.2.2.2.2.2.2.2.2])), (a2, .inr (7, [.ref a3, .ref a4, .ref a5, .ref a6, .int u_2.1.1.2.2.2.2])), (a3, .inl (ca 0, 9, .inl u_2.1.1.1)), (a4, .inl (ca 0, 4, .inl u_2.1.1.2.1)), (a5, .inl (ca 0, 4, .inl u_2.1.1.2.2.1)), (a6, .inl (ca 0, 4, .inl u_2.1.1.2.2.2.1)), (a7, .inr (2, [.ref a8, .int u_2.1.2.1.2.1, .int u_2.1.2.1.2.2.1, .int u_2.1.2.1.2.2.2.1, .int u_2.1.2.1.2.2.2.2])), (a8, .inl (ca 1, 17, .inr (.inl u_2.1.2.1.1))), (a9, .inr (8, [.int u_2.1.2.2.1.1, .int u_2.1.2.2.1.2.1, .int u_2.1.2.2.1.2.2])), (a10, .inr (1, [.int u_2.1.2.2.2.1.1, .int u_2.1.2.2.2.1.2.1, .int u_2.1.2.2.2.1.2.2.1, .int u_2.1.2.2.2.1.2.2.2.1, .int u_2.1.2.2.2.1.2.2.2.2.1, .int u_2.1.2.2.2.1.2.2.2.2.2])), (a11, .inr (3, [.ref a12, .int u_2.1.2.2.2.2.1.2.1, .int u_2.1.2.2.2.2.1.2.2.1, .int u_2.1.2.2.2.2.1.2.2.2.1, .int u_2.1.2.2.2.2.1.2.2.2.2.1, .int u_2.1.2.2.2.2.1.2.2.2.2.2.1, .int u_2.1.2.2.2.2.1.2.2.2.2.2.2])), (a12, .inr (4, [.ref a13, .int u_2.1.2.2.2.2.1.1.2.1, .int u_2.1.2.2.2.2.1.1.2.2])), (a13, .inl (ca 0, 512, .inl u_2.1.2.2.2.2.1.1.1)), (a14, .inr (4, [.ref a15, .int u_2.1.2.2.2.2.2.1.2.1, .int u_2.1.2.2.2.2.2.1.2.2])), (a15, .inl (ca 0, 512, .inl u_2.1.2.2.2.2.2.1.1)), (a16, .inr (6, [.ref a17, .ref a18, .int u_2.1.2.2.2.2.2.2.1.2.2])), (a17, .inl (ca 0, 15, .inl u_2.1.2.2.2.2.2.2.1.1)), (a18, .inl (ca 0, 15, .inl u_2.1.2.2.2.2.2.2.1.2.1)), (a19, .inr (9, [.ref a20, .int u_2.1.2.2.2.2.2.2.2.1.2.1, .int u_2.1.2.2.2.2.2.2.2.1.2.2.1, .int u_2.1.2.2.2.2.2.2.2.1.2.2.2])), (a20, .inl (ca 0, 300, .inl u_2.1.2.2.2.2.2.2.2.1.1)), (a49, .inr (0, [.ref a50, .ref a51, .int u_2.2.2.2.2.1.2.2.1, .int u_2.2.2.2.2.1.2.2.2.1, .int u_2.2.2.2.2.1.2.2.2.2])), (a50, .inl (ca 0, 400, .inl u_2.2.2.2.2.1.1)), (a51, .inl (ca 0, 256, .inl u_2.2.2.2.2.1.2.1))]) ⟨hx, hb, hml, hown, hts⟩ (c_X0_alikeAt l D ca zz a49 a50 a51 _ u_2.2.2.2.2.1 (1 : Int32) r_3 hc3) (cwV 1 hts (gV gw_4_125 gw_4_126 gw_4_127 gw_1_14 gw_4_128) rfl rfl rfl (by decide +kernel) ⟨(Nat.le_of_ble_eq_true rfl), (Nat.le_of_ble_eq_true rfl)⟩) hK hN hZ hA hP hD hS [21, 22] [none, none, none, none, none, none, none, none, none, none, none, none, none, none, none, none, none, none, none, none, none, some 0, some 1, none] (by decide +kernel) rfl rfl rfl rfl 21 rfl rfl hl.1 rfl (Nat.le_of_ble_eq_true rfl) dX11_echo_18 ⟨Nat.zero_le _, Nat.zero_le _⟩ rfl (fun H locs hP hD hS => ?_)
    refine lv_istore_n (lv' := [(3, .int r_3), (2, .int (1 : Int32)), (0, .ref a0), (1, .int p1)]) hx hb dX11_echo_21 rfl hl (Nat.le_of_ble_eq_true rfl) rfl (fun ls hl => ?_)
    refine lv_iconst (v := 2) hx hb dX11_echo_22 rfl ?_
    refine lv_istore (lv' := [(4, .int (2 : Int32)), (3, .int r_3), (2, .int (1 : Int32)), (0, .ref a0), (1, .int p1)]) hx hb dX11_echo_23 hl (Nat.le_of_ble_eq_true rfl) rfl (fun ls hl => ?_)
    have jb := b25 FU ((u_2.1, v0.2.1, v0.2.2.1, v0.2.2.2.1, u_2.2.2.2.2.1, v0.2.2.2.2.2.1, v0.2.2.2.2.2.2.1, v0.2.2.2.2.2.2.2)) p1 (1 : Int32) r_3 (2 : Int32)
    dsimp only at jb
    exact jb hf _ _ _ hP hD hS (lv_sub hl [3, 4, 2, 1, 0] rfl)
  · refine lv_iconst (v := -1) hx hb dX11_echo_9 rfl ?_
    have he := Option.some.inj hf
    obtain ⟨e_r, he⟩ := Prod.mk.inj he
    have e_v0 := he
    refine rt_I hx hb hr hlocks hK hP hD hS hQ e_r ?_ dX11_echo_10
    simp only [← e_v0]
abbrev wq_X6_isFull : List Cond := Cond.code yX6_isFull cX6_isFull 2 (some .boolean) :: GL
set_option maxHeartbeats 4000000 in
set_option maxRecDepth 100000 in
theorem c_X6_isFull (l : Launch) (D : va_G) (ca : Nat → ClassId) (zz : Nat → Nat) (a0 a1 a2 : Nat) (sz : Nat) (v0 : V6) (p1 : Int32) (r : Int32) (hf : f_X6_isFull v0 p1 = some r) : Met l yX6_isFull wq_X6_isFull ({ frames := 2, cells := 0, slots := 0, locals := 42 } : Room) (PR D ca zz [.ref a0, .int p1] sz [(a0, .inr (6, [.ref a1, .ref a2, .int v0.2.2])), (a2, .inl (ca 0, 15, .inl v0.2.1))]) (QI D ca r [(a0, .inr (6, [.ref a1, .ref a2, .int v0.2.2])), (a2, .inl (ca 0, 15, .inl v0.2.1))] (va_A [(a0, .inr (6, [.ref a1, .ref a2, .int v0.2.2])), (a2, .inl (ca 0, 15, .inl v0.2.1))] sz)) 0 0 (va_A [(a0, .inr (6, [.ref a1, .ref a2, .int v0.2.2])), (a2, .inl (ca 0, 15, .inl v0.2.1))] sz) := by
  refine en (y := yX6_isFull) (wsm := wq_X6_isFull) (av := [.ref a0, .int p1]) (cc := cX6_isFull) (maxL := 2) (ret := (some .boolean)) (Qf := fun A => (QI D ca r [(a0, .inr (6, [.ref a1, .ref a2, .int v0.2.2])), (a2, .inl (ca 0, 15, .inl v0.2.1))] A)) (by decide) rfl (Nat.le_of_ble_eq_true rfl) ?_
  intro p e s m args below meth c A Q ls hx hb hr hml hown hts hlocks hnm hA hN hZ hK hQ hP hD hS hl
  unfold f_X6_isFull at hf
  refine lv_aload_n hx hb dX6_isFull_0 rfl (lv_at hl 0 rfl) ?_
  refine lv_iload_n hx hb dX6_isFull_1 rfl (lv_at hl 1 rfl) ?_
  obtain ⟨r_1, hc1, hf⟩ := bnd1_el hf
  refine xV_I (As := [.int p1]) (wx := [(a0, .inr (6, [.ref a1, .ref a2, .int v0.2.2])), (a2, .inl (ca 0, 15, .inl v0.2.1))]) ⟨hx, hb, hml, hown, hts⟩ (c_X6_lengthOf l D ca zz a0 a1 a2 _ v0 p1 r_1 hc1) (cwV 1 hts (gV gw_4_145 gw_4_42 gw_4_43 gw_1_9 gw_4_44) rfl rfl rfl (by decide +kernel) ⟨(Nat.le_of_ble_eq_true rfl), (Nat.le_of_ble_eq_true rfl)⟩) hK hN hZ hA hP hD hS [0, 1] [some 0, some 1] (by decide +kernel) rfl rfl rfl rfl 0 rfl rfl hl.1 rfl (Nat.le_of_ble_eq_true rfl) dX6_isFull_2 ⟨Nat.zero_le _, Nat.zero_le _⟩ rfl (fun H locs hP hD hS => ?_)
  refine lv_bipush (v := 15) hx hb dX6_isFull_5 rfl ?_
  refine xc_ne (tgt := 14) hx hb dX6_isFull_7 (by decide) hf (fun hf => ?_) (fun hf => ?_)
  · refine lv_iconst (v := 0) hx hb dX6_isFull_14 rfl ?_
    have he := Option.some.inj hf
    have e_r := he
    refine rt_Z hx hb hr hlocks hK hP hD hS hQ (Or.inl rfl) e_r ?_ dX6_isFull_15
    rfl
  · refine lv_iconst (v := 1) hx hb dX6_isFull_10 rfl ?_
    refine lv_goto (tgt := 15) hx hb dX6_isFull_11 (by decide) ?_
    have he := Option.some.inj hf
    have e_r := he
    refine rt_Z hx hb hr hlocks hK hP hD hS hQ (Or.inr rfl) e_r ?_ dX6_isFull_15
    rfl
abbrev wq_X6_full : List Cond := Cond.code yX6_full cX6_full 3 (some .int) :: GL
set_option maxHeartbeats 4000000 in
set_option maxRecDepth 100000 in
theorem c_X6_full (l : Launch) (D : va_G) (ca : Nat → ClassId) (zz : Nat → Nat) (a0 a1 a2 : Nat) (sz : Nat) (v0 : V6) (r : Int32) (hf : f_X6_full v0 = some r) : Met l yX6_full wq_X6_full ({ frames := 3, cells := 0, slots := 0, locals := 63 } : Room) (PR D ca zz [.ref a0] sz [(a0, .inr (6, [.ref a1, .ref a2, .int v0.2.2])), (a2, .inl (ca 0, 15, .inl v0.2.1))]) (QI D ca r [(a0, .inr (6, [.ref a1, .ref a2, .int v0.2.2])), (a2, .inl (ca 0, 15, .inl v0.2.1))] (va_A [(a0, .inr (6, [.ref a1, .ref a2, .int v0.2.2])), (a2, .inl (ca 0, 15, .inl v0.2.1))] sz)) 0 0 (va_A [(a0, .inr (6, [.ref a1, .ref a2, .int v0.2.2])), (a2, .inl (ca 0, 15, .inl v0.2.1))] sz) := by
  refine en (y := yX6_full) (wsm := wq_X6_full) (av := [.ref a0]) (cc := cX6_full) (maxL := 3) (ret := (some .int)) (Qf := fun A => (QI D ca r [(a0, .inr (6, [.ref a1, .ref a2, .int v0.2.2])), (a2, .inl (ca 0, 15, .inl v0.2.1))] A)) (by decide) rfl (Nat.le_of_ble_eq_true rfl) ?_
  intro p e s m args below meth c A Q ls hx hb hr hml hown hts hlocks hnm hA hN hZ hK hQ hP hD hS hl
  have bl4 : ∀ (k4 : Int32 → Int32 → Option (Int32)) (q4 : ∀ (x1 : Int32) (x2 : Int32), k4 x1 x2 = some r → ∀ (H : Heap) (locs : List Loc) (ls : Array Slot), va_P D vwCl [(a0, .inr (6, [.ref a1, .ref a2, .int v0.2.2])), (a2, .inl (ca 0, 15, .inl v0.2.1))] H → va_D A [(a0, .inr (6, [.ref a1, .ref a2, .int v0.2.2])), (a2, .inl (ca 0, 15, .inl v0.2.1))] → va_S A s.heap H locs → lv_has ls 3 [(0, .ref a0), (1, .int x1), (2, .int x2)] → W p l e ({ frames := 3, cells := 0, slots := 0, locals := 63 } : Room) s m args below meth c H locs 0 0 Q (F0 m 4 ls [])) (x1 : Int32) (x2 : Int32), fl_X6_full_4 v0 k4 x1 x2 = some r → ∀ (H : Heap) (locs : List Loc) (ls : Array Slot), va_P D vwCl [(a0, .inr (6, [.ref a1, .ref a2, .int v0.2.2])), (a2, .inl (ca 0, 15, .inl v0.2.1))] H → va_D A [(a0, .inr (6, [.ref a1, .ref a2, .int v0.2.2])), (a2, .inl (ca 0, 15, .inl v0.2.1))] → va_S A s.heap H locs → lv_has ls 3 [(0, .ref a0), (1, .int x1), (2, .int x2)] → W p l e ({ frames := 3, cells := 0, slots := 0, locals := 63 } : Room) s m args below meth c H locs 0 0 Q (F0 m 4 ls []) := by
    intro k4 q4 x1 x2 hf H locs ls hP hD hS hl
    unfold fl_X6_full_4 at hf
    refine lv_iload_n hx hb dX6_full_4 rfl (lv_at hl 2 rfl) ?_
    refine lv_bipush (v := 15) hx hb dX6_full_5 rfl ?_
    refine xc_ge (tgt := 27) hx hb dX6_full_7 (by decide) hf (fun hf => ?_) (fun hf => ?_)
    · refine lv_iload_n hx hb dX6_full_27 rfl (lv_at hl 1 rfl) ?_
      have he := Option.some.inj hf
      have e_r := he
      refine rt_I hx hb hr hlocks hK hP hD hS hQ e_r ?_ dX6_full_28
      rfl
    · refine lv_aload_n hx hb dX6_full_10 rfl (lv_at hl 0 rfl) ?_
      refine lv_iload_n hx hb dX6_full_11 rfl (lv_at hl 2 rfl) ?_
      obtain ⟨r_1, hc1, hf⟩ := bnd1_el hf
      refine xV_I (As := [.int x2]) (wx := [(a0, .inr (6, [.ref a1, .ref a2, .int v0.2.2])), (a2, .inl (ca 0, 15, .inl v0.2.1))]) ⟨hx, hb, hml, hown, hts⟩ (c_X6_isFull l D ca zz a0 a1 a2 _ v0 x2 r_1 hc1) (cwV 1 hts (gV gw_4_141 gw_4_143 gw_s_2_3 gw_1_9 gw_4_144) rfl rfl rfl (by decide +kernel) ⟨(Nat.le_of_ble_eq_true rfl), (Nat.le_of_ble_eq_true rfl)⟩) hK hN hZ hA hP hD hS [0, 1] [some 0, some 1] (by decide +kernel) rfl rfl rfl rfl 0 rfl rfl hl.1 rfl (Nat.le_of_ble_eq_true rfl) dX6_full_12 ⟨Nat.zero_le _, Nat.zero_le _⟩ rfl (fun H locs hP hD hS => ?_)
      refine xi_eq (tgt := 21) hx hb dX6_full_15 (by decide) hf (fun hf => ?_) (fun hf => ?_)
      · obtain ⟨x_2, ex_2, hf⟩ := bnd_el hf
        refine lv_iinc (v := x_2) (lv' := [(2, .int x_2), (0, .ref a0), (1, .int x1)]) hx hb dX6_full_21 hl (k := 2) rfl (by rw [ex_2]; rfl) (Nat.le_of_ble_eq_true rfl) rfl (fun ls hl => ?_)
        refine lv_goto (tgt := 4) hx hb dX6_full_24 (by decide) ?_
        exact q4 x1 x_2 hf _ _ _ hP hD hS (lv_sub hl [1, 2, 0] rfl)
      · obtain ⟨x_3, ex_3, hf⟩ := bnd_el hf
        refine lv_iinc (v := x_3) (lv' := [(1, .int x_3), (0, .ref a0), (2, .int x2)]) hx hb dX6_full_18 hl (k := 1) rfl (by rw [ex_3]; rfl) (Nat.le_of_ble_eq_true rfl) rfl (fun ls hl => ?_)
        obtain ⟨x_4, ex_4, hf⟩ := bnd_el hf
        refine lv_iinc (v := x_4) (lv' := [(2, .int x_4), (1, .int x_3), (0, .ref a0)]) hx hb dX6_full_21 hl (k := 2) rfl (by rw [ex_4]; rfl) (Nat.le_of_ble_eq_true rfl) rfl (fun ls hl => ?_)
        refine lv_goto (tgt := 4) hx hb dX6_full_24 (by decide) ?_
        exact q4 x_3 x_4 hf _ _ _ hP hD hS (lv_sub hl [2, 1, 0] rfl)
  have b4 : ∀ (n : Nat) (x1 : Int32) (x2 : Int32), fb_X6_full_4 v0 n x1 x2 = some r → ∀ (H : Heap) (locs : List Loc) (ls : Array Slot), va_P D vwCl [(a0, .inr (6, [.ref a1, .ref a2, .int v0.2.2])), (a2, .inl (ca 0, 15, .inl v0.2.1))] H → va_D A [(a0, .inr (6, [.ref a1, .ref a2, .int v0.2.2])), (a2, .inl (ca 0, 15, .inl v0.2.1))] → va_S A s.heap H locs → lv_has ls 3 [(0, .ref a0), (1, .int x1), (2, .int x2)] → W p l e ({ frames := 3, cells := 0, slots := 0, locals := 63 } : Room) s m args below meth c H locs 0 0 Q (F0 m 4 ls []) := by
    intro n
    induction n with
    | zero => intro x1 x2 hf; exact no_el hf
    | succ n ih => exact bl4 (fb_X6_full_4 v0 n) ih
  unfold f_X6_full at hf
  refine lv_iconst (v := 0) hx hb dX6_full_0 rfl ?_
  refine lv_istore_n (lv' := [(1, .int (0 : Int32)), (0, .ref a0)]) hx hb dX6_full_1 rfl hl (Nat.le_of_ble_eq_true rfl) rfl (fun ls hl => ?_)
  refine lv_iconst (v := 0) hx hb dX6_full_2 rfl ?_
  refine lv_istore_n (lv' := [(2, .int (0 : Int32)), (1, .int (0 : Int32)), (0, .ref a0)]) hx hb dX6_full_3 rfl hl (Nat.le_of_ble_eq_true rfl) rfl (fun ls hl => ?_)
  exact b4 FU (0 : Int32) (0 : Int32) hf _ _ _ hP hD hS (lv_sub hl [2, 1, 0] rfl)
abbrev wq_J6_bitCount_0f7a4 : List Cond := Cond.code yJ6_bitCount_0f7a4 cJ6_bitCount_0f7a4 1 (some .int) :: GL
set_option maxHeartbeats 4000000 in
set_option maxRecDepth 100000 in
theorem c_J6_bitCount_0f7a4 (l : Launch) (D : va_G) (ca : Nat → ClassId) (zz : Nat → Nat) (sz : Nat) (p0 : Int32) (r : Int32) (hf : f_J6_bitCount_0f7a4 p0 = some r) : Met l yJ6_bitCount_0f7a4 wq_J6_bitCount_0f7a4 ({ frames := 0, cells := 0, slots := 0, locals := 0 } : Room) (PR D ca zz [.int p0] sz []) (QI D ca r [] (va_A [] sz)) 0 0 (va_A [] sz) := by
  refine en (y := yJ6_bitCount_0f7a4) (wsm := wq_J6_bitCount_0f7a4) (av := [.int p0]) (cc := cJ6_bitCount_0f7a4) (maxL := 1) (ret := (some .int)) (Qf := fun A => (QI D ca r [] A)) (by decide) rfl (Nat.le_of_ble_eq_true rfl) ?_
  intro p e s m args below meth c A Q ls hx hb hr hml hown hts hlocks hnm hA hN hZ hK hQ hP hD hS hl
  have w0 := hts _ (List.mem_cons_of_mem _ gw_4_157)
  have w1 := hts _ (List.mem_cons_of_mem _ gw_4_158)
  have w2 := hts _ (List.mem_cons_of_mem _ gw_4_159)
  unfold f_J6_bitCount_0f7a4 at hf
  refine lv_iload_n hx hb dJ6_bitCount_0f7a4_0 rfl (lv_at hl 0 rfl) ?_
  refine lv_iload_n hx hb dJ6_bitCount_0f7a4_1 rfl (lv_at hl 0 rfl) ?_
  refine lv_iconst (v := 1) hx hb dJ6_bitCount_0f7a4_2 rfl ?_
  refine lv_iushr (v := jushr p0 (1 : Int32)) hx hb dJ6_bitCount_0f7a4_3 rfl ?_
  refine lv_ldcw hx hb hown w0 dJ6_bitCount_0f7a4_4 ?_
  refine lv_iand hx hb dJ6_bitCount_0f7a4_7 ?_
  refine lv_isub hx hb dJ6_bitCount_0f7a4_8 ?_
  refine xnm hf (fun x_1 hf => ?_)
  refine lv_istore_n (lv' := [(0, .int x_1)]) hx hb dJ6_bitCount_0f7a4_9 rfl hl (Nat.le_of_ble_eq_true rfl) rfl (fun ls hl => ?_)
  refine lv_iload_n hx hb dJ6_bitCount_0f7a4_10 rfl (lv_at hl 0 rfl) ?_
  refine lv_ldcw hx hb hown w1 dJ6_bitCount_0f7a4_11 ?_
  refine lv_iand hx hb dJ6_bitCount_0f7a4_14 ?_
  refine lv_iload_n hx hb dJ6_bitCount_0f7a4_15 rfl (lv_at hl 0 rfl) ?_
  refine lv_iconst (v := 2) hx hb dJ6_bitCount_0f7a4_16 rfl ?_
  refine lv_iushr (v := jushr x_1 (2 : Int32)) hx hb dJ6_bitCount_0f7a4_17 rfl ?_
  refine lv_ldcw hx hb hown w1 dJ6_bitCount_0f7a4_18 ?_
  refine lv_iand hx hb dJ6_bitCount_0f7a4_21 ?_
  refine lv_iadd hx hb dJ6_bitCount_0f7a4_22 ?_
  refine xnm hf (fun x_2 hf => ?_)
  refine lv_istore_n (lv' := [(0, .int x_2)]) hx hb dJ6_bitCount_0f7a4_23 rfl hl (Nat.le_of_ble_eq_true rfl) rfl (fun ls hl => ?_)
  refine lv_iload_n hx hb dJ6_bitCount_0f7a4_24 rfl (lv_at hl 0 rfl) ?_
  refine lv_iload_n hx hb dJ6_bitCount_0f7a4_25 rfl (lv_at hl 0 rfl) ?_
  refine lv_iconst (v := 4) hx hb dJ6_bitCount_0f7a4_26 rfl ?_
  refine lv_iushr (v := jushr x_2 (4 : Int32)) hx hb dJ6_bitCount_0f7a4_27 rfl ?_
  refine lv_iadd hx hb dJ6_bitCount_0f7a4_28 ?_
  refine lv_ldcw hx hb hown w2 dJ6_bitCount_0f7a4_29 ?_
  refine lv_iand hx hb dJ6_bitCount_0f7a4_32 ?_
  refine xnm hf (fun x_3 hf => ?_)
  refine lv_istore_n (lv' := [(0, .int x_3)]) hx hb dJ6_bitCount_0f7a4_33 rfl hl (Nat.le_of_ble_eq_true rfl) rfl (fun ls hl => ?_)
  refine lv_iload_n hx hb dJ6_bitCount_0f7a4_34 rfl (lv_at hl 0 rfl) ?_
  refine lv_iload_n hx hb dJ6_bitCount_0f7a4_35 rfl (lv_at hl 0 rfl) ?_
  refine lv_bipush (v := 8) hx hb dJ6_bitCount_0f7a4_36 rfl ?_
  refine lv_iushr (v := jushr x_3 (8 : Int32)) hx hb dJ6_bitCount_0f7a4_38 rfl ?_
  refine lv_iadd hx hb dJ6_bitCount_0f7a4_39 ?_
  refine xnm hf (fun x_4 hf => ?_)
  refine lv_istore_n (lv' := [(0, .int x_4)]) hx hb dJ6_bitCount_0f7a4_40 rfl hl (Nat.le_of_ble_eq_true rfl) rfl (fun ls hl => ?_)
  refine lv_iload_n hx hb dJ6_bitCount_0f7a4_41 rfl (lv_at hl 0 rfl) ?_
  refine lv_iload_n hx hb dJ6_bitCount_0f7a4_42 rfl (lv_at hl 0 rfl) ?_
  refine lv_bipush (v := 16) hx hb dJ6_bitCount_0f7a4_43 rfl ?_
  refine lv_iushr (v := jushr x_4 (16 : Int32)) hx hb dJ6_bitCount_0f7a4_45 rfl ?_
  refine lv_iadd hx hb dJ6_bitCount_0f7a4_46 ?_
  refine xnm hf (fun x_5 hf => ?_)
  refine lv_istore_n (lv' := [(0, .int x_5)]) hx hb dJ6_bitCount_0f7a4_47 rfl hl (Nat.le_of_ble_eq_true rfl) rfl (fun ls hl => ?_)
  refine lv_iload_n hx hb dJ6_bitCount_0f7a4_48 rfl (lv_at hl 0 rfl) ?_
  refine lv_bipush (v := 63) hx hb dJ6_bitCount_0f7a4_49 rfl ?_
  refine lv_iand hx hb dJ6_bitCount_0f7a4_51 ?_
  have he := Option.some.inj hf
  have e_r := he
  refine rt_I hx hb hr hlocks hK hP hD hS hQ e_r ?_ dJ6_bitCount_0f7a4_52
  rfl
abbrev wq_X6_moreOfRow : List Cond := Cond.code yX6_moreOfRow cX6_moreOfRow 3 (some .int) :: GL
set_option maxHeartbeats 4000000 in
set_option maxRecDepth 100000 in
theorem c_X6_moreOfRow (l : Launch) (D : va_G) (ca : Nat → ClassId) (zz : Nat → Nat) (a0 a1 a2 : Nat) (sz : Nat) (v0 : V6) (p1 : Int32) (r : Int32) (hf : f_X6_moreOfRow v0 p1 = some r) : Met l yX6_moreOfRow wq_X6_moreOfRow ({ frames := 3, cells := 0, slots := 0, locals := 63 } : Room) (PR D ca zz [.ref a0, .int p1] sz [(a0, .inr (6, [.ref a1, .ref a2, .int v0.2.2])), (a1, .inl (ca 0, 15, .inl v0.1)), (a2, .inl (ca 0, 15, .inl v0.2.1))]) (QI D ca r [(a0, .inr (6, [.ref a1, .ref a2, .int v0.2.2])), (a1, .inl (ca 0, 15, .inl v0.1)), (a2, .inl (ca 0, 15, .inl v0.2.1))] (va_A [(a0, .inr (6, [.ref a1, .ref a2, .int v0.2.2])), (a1, .inl (ca 0, 15, .inl v0.1)), (a2, .inl (ca 0, 15, .inl v0.2.1))] sz)) 0 0 (va_A [(a0, .inr (6, [.ref a1, .ref a2, .int v0.2.2])), (a1, .inl (ca 0, 15, .inl v0.1)), (a2, .inl (ca 0, 15, .inl v0.2.1))] sz) := by
  refine en (y := yX6_moreOfRow) (wsm := wq_X6_moreOfRow) (av := [.ref a0, .int p1]) (cc := cX6_moreOfRow) (maxL := 3) (ret := (some .int)) (Qf := fun A => (QI D ca r [(a0, .inr (6, [.ref a1, .ref a2, .int v0.2.2])), (a1, .inl (ca 0, 15, .inl v0.1)), (a2, .inl (ca 0, 15, .inl v0.2.1))] A)) (by decide) rfl (Nat.le_of_ble_eq_true rfl) ?_
  intro p e s m args below meth c A Q ls hx hb hr hml hown hts hlocks hnm hA hN hZ hK hQ hP hD hS hl
  have w0 := hts _ (List.mem_cons_of_mem _ gw_1_216)
  have w1 := hts _ (List.mem_cons_of_mem _ gw_4_160)
  have w2 := hts _ (List.mem_cons_of_mem _ gw_2_33)
  have w3 := hts _ (List.mem_cons_of_mem _ gw_1_11)
  have w4 := hts _ (List.mem_cons_of_mem _ gw_2_34)
  have i6 : ∀ w ∈ u_ws RX6 TX6 3, w ∈ wq_X6_moreOfRow := fun w h => List.mem_cons_of_mem _ (inX6 w h)
  unfold f_X6_moreOfRow at hf
  refine lv_aload_n hx hb dX6_moreOfRow_0 rfl (lv_at hl 0 rfl) ?_
  refine lv_iload_n hx hb dX6_moreOfRow_1 rfl (lv_at hl 1 rfl) ?_
  obtain ⟨r_1, hc1, hf⟩ := bnd1_el hf
  refine xV_I (As := [.int p1]) (wx := [(a0, .inr (6, [.ref a1, .ref a2, .int v0.2.2])), (a1, .inl (ca 0, 15, .inl v0.1)), (a2, .inl (ca 0, 15, .inl v0.2.1))]) ⟨hx, hb, hml, hown, hts⟩ (c_X6_has l D ca zz a0 a1 a2 _ v0 p1 r_1 hc1) (cwV 1 hts (gV gw_4_45 gw_4_47 gw_s_1_12 gw_1_9 gw_4_48) rfl rfl rfl (by decide +kernel) ⟨(Nat.le_of_ble_eq_true rfl), (Nat.le_of_ble_eq_true rfl)⟩) hK hN hZ hA hP hD hS [0] [some 0, none, none] (by decide +kernel) rfl rfl rfl rfl 0 rfl rfl hl.1 rfl (Nat.le_of_ble_eq_true rfl) dX6_moreOfRow_2 ⟨Nat.zero_le _, Nat.zero_le _⟩ rfl (fun H locs hP hD hS => ?_)
  refine xi_eq (tgt := 16) hx hb dX6_moreOfRow_5 (by decide) hf (fun hf => ?_) (fun hf => ?_)
  · refine lv_iconst (v := 0) hx hb dX6_moreOfRow_16 rfl ?_
    have he := Option.some.inj hf
    have e_r := he
    refine rt_I hx hb hr hlocks hK hP hD hS hQ e_r ?_ dX6_moreOfRow_17
    rfl
  · refine lv_aload_n hx hb dX6_moreOfRow_8 rfl (lv_at hl 0 rfl) ?_
    refine lv_iload_n hx hb dX6_moreOfRow_9 rfl (lv_at hl 1 rfl) ?_
    obtain ⟨r_2, hc2, hf⟩ := bnd1_el hf
    refine xV_I (As := [.int p1]) (wx := [(a0, .inr (6, [.ref a1, .ref a2, .int v0.2.2])), (a1, .inl (ca 0, 15, .inl v0.1)), (a2, .inl (ca 0, 15, .inl v0.2.1))]) ⟨hx, hb, hml, hown, hts⟩ (c_X6_isFull l D ca zz a0 a1 a2 _ v0 p1 r_2 hc2) (cwV 1 hts (gV gw_4_141 gw_4_143 gw_s_2_3 gw_1_9 gw_4_144) rfl rfl rfl (by decide +kernel) ⟨(Nat.le_of_ble_eq_true rfl), (Nat.le_of_ble_eq_true rfl)⟩) hK hN hZ hA hP hD hS [0, 2] [some 0, none, some 1] (by decide +kernel) rfl rfl rfl rfl 0 rfl rfl hl.1 rfl (Nat.le_of_ble_eq_true rfl) dX6_moreOfRow_10 ⟨Nat.zero_le _, Nat.zero_le _⟩ rfl (fun H locs hP hD hS => ?_)
    refine xi_ne (tgt := 18) hx hb dX6_moreOfRow_13 (by decide) hf (fun hf => ?_) (fun hf => ?_)
    · refine lv_aload_n hx hb dX6_moreOfRow_18 rfl (lv_at hl 0 rfl) ?_
      refine va_get (C := RX6) (T := TX6) (N := 3) hx hb hts i6 hown hK hP 0 rfl rfl 0 (Nat.le_of_ble_eq_true rfl) w0 (fun _ h9 => h9) rfl dX6_moreOfRow_19 ?_
      refine lv_iload_n hx hb dX6_moreOfRow_22 rfl (lv_at hl 1 rfl) ?_
      refine xiald hx hb hK hP 1 rfl hf dX6_moreOfRow_23 (fun hf => ?_)
      obtain ⟨r_3, hc3, hf⟩ := bnd1_el hf
      refine xS_I (As := [.int (v0.1 (p1).toNatClampNeg)]) (wx := [(a0, .inr (6, [.ref a1, .ref a2, .int v0.2.2])), (a1, .inl (ca 0, 15, .inl v0.1)), (a2, .inl (ca 0, 15, .inl v0.2.1))]) ⟨hx, hb, hml, hown, hts⟩ (c_J6_bitCount_0f7a4 l D ca zz  _ (v0.1 (p1).toNatClampNeg) r_3 hc3) (va_cwS 1 hts (gS gw_4_154 gw_4_155 gw_1_25 gw_4_156) rfl rfl rfl (by decide +kernel) ⟨(Nat.le_of_ble_eq_true rfl), (Nat.le_of_ble_eq_true rfl)⟩) hK hN hZ hA hP hD hS [] [none, none, none] (by decide +kernel) rfl rfl rfl rfl hl.1 rfl (Nat.le_of_ble_eq_true rfl) dX6_moreOfRow_24 ⟨Nat.zero_le _, Nat.zero_le _⟩ rfl (fun H locs hP hD hS => ?_)
      refine lv_istore_n (lv' := [(2, .int r_3), (0, .ref a0), (1, .int p1)]) hx hb dX6_moreOfRow_27 rfl hl (Nat.le_of_ble_eq_true rfl) rfl (fun ls hl => ?_)
      refine lv_iload_n hx hb dX6_moreOfRow_28 rfl (lv_at hl 0 rfl) ?_
      refine lv_bipush (v := 15) hx hb dX6_moreOfRow_29 rfl ?_
      refine lv_iload_n hx hb dX6_moreOfRow_31 rfl (lv_at hl 0 rfl) ?_
      refine lv_isub hx hb dX6_moreOfRow_32 ?_
      refine va_mmax hx hb (hml.trans hl.1.symm) hown w1 w2 w3 w4 (Nat.le_of_ble_eq_true rfl) (Nat.le_of_ble_eq_true rfl) (Nat.zero_le _) (Nat.zero_le _) dX6_moreOfRow_33 ?_
      refine xnm hf (fun x_4 hf => ?_)
      have he := Option.some.inj hf
      have e_r := he
      refine rt_I hx hb hr hlocks hK hP hD hS hQ e_r ?_ dX6_moreOfRow_36
      rfl
    · refine lv_iconst (v := 0) hx hb dX6_moreOfRow_16 rfl ?_
      have he := Option.some.inj hf
      have e_r := he
      refine rt_I hx hb hr hlocks hK hP hD hS hQ e_r ?_ dX6_moreOfRow_17
      rfl
abbrev wq_X6_greatestRow : List Cond := Cond.code yX6_greatestRow cX6_greatestRow 3 (some .int) :: GL
set_option maxHeartbeats 4000000 in
set_option maxRecDepth 100000 in
theorem c_X6_greatestRow (l : Launch) (D : va_G) (ca : Nat → ClassId) (zz : Nat → Nat) (a0 a1 a2 : Nat) (sz : Nat) (v0 : V6) (r : Int32) (hf : f_X6_greatestRow v0 = some r) : Met l yX6_greatestRow wq_X6_greatestRow ({ frames := 4, cells := 0, slots := 0, locals := 85 } : Room) (PR D ca zz [.ref a0] sz [(a0, .inr (6, [.ref a1, .ref a2, .int v0.2.2])), (a1, .inl (ca 0, 15, .inl v0.1)), (a2, .inl (ca 0, 15, .inl v0.2.1))]) (QI D ca r [(a0, .inr (6, [.ref a1, .ref a2, .int v0.2.2])), (a1, .inl (ca 0, 15, .inl v0.1)), (a2, .inl (ca 0, 15, .inl v0.2.1))] (va_A [(a0, .inr (6, [.ref a1, .ref a2, .int v0.2.2])), (a1, .inl (ca 0, 15, .inl v0.1)), (a2, .inl (ca 0, 15, .inl v0.2.1))] sz)) 0 0 (va_A [(a0, .inr (6, [.ref a1, .ref a2, .int v0.2.2])), (a1, .inl (ca 0, 15, .inl v0.1)), (a2, .inl (ca 0, 15, .inl v0.2.1))] sz) := by
  refine en (y := yX6_greatestRow) (wsm := wq_X6_greatestRow) (av := [.ref a0]) (cc := cX6_greatestRow) (maxL := 3) (ret := (some .int)) (Qf := fun A => (QI D ca r [(a0, .inr (6, [.ref a1, .ref a2, .int v0.2.2])), (a1, .inl (ca 0, 15, .inl v0.1)), (a2, .inl (ca 0, 15, .inl v0.2.1))] A)) (by decide) rfl (Nat.le_of_ble_eq_true rfl) ?_
  intro p e s m args below meth c A Q ls hx hb hr hml hown hts hlocks hnm hA hN hZ hK hQ hP hD hS hl
  have w0 := hts _ (List.mem_cons_of_mem _ gw_4_160)
  have w1 := hts _ (List.mem_cons_of_mem _ gw_2_33)
  have w2 := hts _ (List.mem_cons_of_mem _ gw_1_11)
  have w3 := hts _ (List.mem_cons_of_mem _ gw_2_34)
  have bl4 : ∀ (k4 : Int32 → Int32 → Option (Int32)) (q4 : ∀ (x1 : Int32) (x2 : Int32), k4 x1 x2 = some r → ∀ (H : Heap) (locs : List Loc) (ls : Array Slot), va_P D vwCl [(a0, .inr (6, [.ref a1, .ref a2, .int v0.2.2])), (a1, .inl (ca 0, 15, .inl v0.1)), (a2, .inl (ca 0, 15, .inl v0.2.1))] H → va_D A [(a0, .inr (6, [.ref a1, .ref a2, .int v0.2.2])), (a1, .inl (ca 0, 15, .inl v0.1)), (a2, .inl (ca 0, 15, .inl v0.2.1))] → va_S A s.heap H locs → lv_has ls 3 [(0, .ref a0), (1, .int x1), (2, .int x2)] → W p l e ({ frames := 4, cells := 0, slots := 0, locals := 85 } : Room) s m args below meth c H locs 0 0 Q (F0 m 4 ls [])) (x1 : Int32) (x2 : Int32), fl_X6_greatestRow_4 v0 k4 x1 x2 = some r → ∀ (H : Heap) (locs : List Loc) (ls : Array Slot), va_P D vwCl [(a0, .inr (6, [.ref a1, .ref a2, .int v0.2.2])), (a1, .inl (ca 0, 15, .inl v0.1)), (a2, .inl (ca 0, 15, .inl v0.2.1))] H → va_D A [(a0, .inr (6, [.ref a1, .ref a2, .int v0.2.2])), (a1, .inl (ca 0, 15, .inl v0.1)), (a2, .inl (ca 0, 15, .inl v0.2.1))] → va_S A s.heap H locs → lv_has ls 3 [(0, .ref a0), (1, .int x1), (2, .int x2)] → W p l e ({ frames := 4, cells := 0, slots := 0, locals := 85 } : Room) s m args below meth c H locs 0 0 Q (F0 m 4 ls []) := by
    intro k4 q4 x1 x2 hf H locs ls hP hD hS hl
    unfold fl_X6_greatestRow_4 at hf
    refine lv_iload_n hx hb dX6_greatestRow_4 rfl (lv_at hl 2 rfl) ?_
    refine lv_bipush (v := 15) hx hb dX6_greatestRow_5 rfl ?_
    refine xc_ge (tgt := 26) hx hb dX6_greatestRow_7 (by decide) hf (fun hf => ?_) (fun hf => ?_)
    · refine lv_iload_n hx hb dX6_greatestRow_26 rfl (lv_at hl 1 rfl) ?_
      have he := Option.some.inj hf
      have e_r := he
      refine rt_I hx hb hr hlocks hK hP hD hS hQ e_r ?_ dX6_greatestRow_27
      rfl
    · refine lv_iload_n hx hb dX6_greatestRow_10 rfl (lv_at hl 1 rfl) ?_
      refine lv_aload_n hx hb dX6_greatestRow_11 rfl (lv_at hl 0 rfl) ?_
      refine lv_iload_n hx hb dX6_greatestRow_12 rfl (lv_at hl 2 rfl) ?_
      obtain ⟨r_1, hc1, hf⟩ := bnd1_el hf
      refine xV_I (As := [.int x2]) (wx := [(a0, .inr (6, [.ref a1, .ref a2, .int v0.2.2])), (a1, .inl (ca 0, 15, .inl v0.1)), (a2, .inl (ca 0, 15, .inl v0.2.1))]) ⟨hx, hb, hml, hown, hts⟩ (c_X6_moreOfRow l D ca zz a0 a1 a2 _ v0 x2 r_1 hc1) (cwV 1 hts (gV gw_4_150 gw_4_152 gw_s_2_4 gw_1_9 gw_4_153) rfl rfl rfl (by decide +kernel) ⟨(Nat.le_of_ble_eq_true rfl), (Nat.le_of_ble_eq_true rfl)⟩) hK hN hZ hA hP hD hS [0, 1, 2] [some 0, some 1, some 2] (by decide +kernel) rfl rfl rfl rfl 0 rfl rfl hl.1 rfl (Nat.le_of_ble_eq_true rfl) dX6_greatestRow_13 ⟨Nat.zero_le _, Nat.zero_le _⟩ rfl (fun H locs hP hD hS => ?_)
      refine va_mmax hx hb (hml.trans hl.1.symm) hown w0 w1 w2 w3 (Nat.le_of_ble_eq_true rfl) (Nat.le_of_ble_eq_true rfl) (Nat.zero_le _) (Nat.zero_le _) dX6_greatestRow_16 ?_
      refine xnm hf (fun x_2 hf => ?_)
      refine lv_istore_n (lv' := [(1, .int x_2), (0, .ref a0), (2, .int x2)]) hx hb dX6_greatestRow_19 rfl hl (Nat.le_of_ble_eq_true rfl) rfl (fun ls hl => ?_)
      obtain ⟨x_3, ex_3, hf⟩ := bnd_el hf
      refine lv_iinc (v := x_3) (lv' := [(2, .int x_3), (1, .int x_2), (0, .ref a0)]) hx hb dX6_greatestRow_20 hl (k := 2) rfl (by rw [ex_3]; rfl) (Nat.le_of_ble_eq_true rfl) rfl (fun ls hl => ?_)
      refine lv_goto (tgt := 4) hx hb dX6_greatestRow_23 (by decide) ?_
      exact q4 x_2 x_3 hf _ _ _ hP hD hS (lv_sub hl [2, 1, 0] rfl)
  have b4 : ∀ (n : Nat) (x1 : Int32) (x2 : Int32), fb_X6_greatestRow_4 v0 n x1 x2 = some r → ∀ (H : Heap) (locs : List Loc) (ls : Array Slot), va_P D vwCl [(a0, .inr (6, [.ref a1, .ref a2, .int v0.2.2])), (a1, .inl (ca 0, 15, .inl v0.1)), (a2, .inl (ca 0, 15, .inl v0.2.1))] H → va_D A [(a0, .inr (6, [.ref a1, .ref a2, .int v0.2.2])), (a1, .inl (ca 0, 15, .inl v0.1)), (a2, .inl (ca 0, 15, .inl v0.2.1))] → va_S A s.heap H locs → lv_has ls 3 [(0, .ref a0), (1, .int x1), (2, .int x2)] → W p l e ({ frames := 4, cells := 0, slots := 0, locals := 85 } : Room) s m args below meth c H locs 0 0 Q (F0 m 4 ls []) := by
    intro n
    induction n with
    | zero => intro x1 x2 hf; exact no_el hf
    | succ n ih => exact bl4 (fb_X6_greatestRow_4 v0 n) ih
  unfold f_X6_greatestRow at hf
  refine lv_iconst (v := 0) hx hb dX6_greatestRow_0 rfl ?_
  refine lv_istore_n (lv' := [(1, .int (0 : Int32)), (0, .ref a0)]) hx hb dX6_greatestRow_1 rfl hl (Nat.le_of_ble_eq_true rfl) rfl (fun ls hl => ?_)
  refine lv_iconst (v := 0) hx hb dX6_greatestRow_2 rfl ?_
  refine lv_istore_n (lv' := [(2, .int (0 : Int32)), (1, .int (0 : Int32)), (0, .ref a0)]) hx hb dX6_greatestRow_3 rfl hl (Nat.le_of_ble_eq_true rfl) rfl (fun ls hl => ?_)
  exact b4 FU (0 : Int32) (0 : Int32) hf _ _ _ hP hD hS (lv_sub hl [2, 1, 0] rfl)
abbrev wq_X6_moreOfColumn : List Cond := Cond.code yX6_moreOfColumn cX6_moreOfColumn 5 (some .int) :: GL
set_option maxHeartbeats 4000000 in
set_option maxRecDepth 100000 in
theorem c_X6_moreOfColumn (l : Launch) (D : va_G) (ca : Nat → ClassId) (zz : Nat → Nat) (a0 a1 a2 : Nat) (sz : Nat) (v0 : V6) (p1 : Int32) (r : Int32) (hf : f_X6_moreOfColumn v0 p1 = some r) : Met l yX6_moreOfColumn wq_X6_moreOfColumn ({ frames := 3, cells := 0, slots := 0, locals := 63 } : Room) (PR D ca zz [.ref a0, .int p1] sz [(a0, .inr (6, [.ref a1, .ref a2, .int v0.2.2])), (a1, .inl (ca 0, 15, .inl v0.1)), (a2, .inl (ca 0, 15, .inl v0.2.1))]) (QI D ca r [(a0, .inr (6, [.ref a1, .ref a2, .int v0.2.2])), (a1, .inl (ca 0, 15, .inl v0.1)), (a2, .inl (ca 0, 15, .inl v0.2.1))] (va_A [(a0, .inr (6, [.ref a1, .ref a2, .int v0.2.2])), (a1, .inl (ca 0, 15, .inl v0.1)), (a2, .inl (ca 0, 15, .inl v0.2.1))] sz)) 0 0 (va_A [(a0, .inr (6, [.ref a1, .ref a2, .int v0.2.2])), (a1, .inl (ca 0, 15, .inl v0.1)), (a2, .inl (ca 0, 15, .inl v0.2.1))] sz) := by
  refine en (y := yX6_moreOfColumn) (wsm := wq_X6_moreOfColumn) (av := [.ref a0, .int p1]) (cc := cX6_moreOfColumn) (maxL := 5) (ret := (some .int)) (Qf := fun A => (QI D ca r [(a0, .inr (6, [.ref a1, .ref a2, .int v0.2.2])), (a1, .inl (ca 0, 15, .inl v0.1)), (a2, .inl (ca 0, 15, .inl v0.2.1))] A)) (by decide) rfl (Nat.le_of_ble_eq_true rfl) ?_
  intro p e s m args below meth c A Q ls hx hb hr hml hown hts hlocks hnm hA hN hZ hK hQ hP hD hS hl
  have w0 := hts _ (List.mem_cons_of_mem _ gw_4_160)
  have w1 := hts _ (List.mem_cons_of_mem _ gw_2_33)
  have w2 := hts _ (List.mem_cons_of_mem _ gw_1_11)
  have w3 := hts _ (List.mem_cons_of_mem _ gw_2_34)
  have bl7 : ∀ (k7 : Int32 → Int32 → Int32 → Int32 → Option (Int32)) (q7 : ∀ (x1 : Int32) (x2 : Int32) (x3 : Int32) (x4 : Int32), k7 x1 x2 x3 x4 = some r → ∀ (H : Heap) (locs : List Loc) (ls : Array Slot), va_P D vwCl [(a0, .inr (6, [.ref a1, .ref a2, .int v0.2.2])), (a1, .inl (ca 0, 15, .inl v0.1)), (a2, .inl (ca 0, 15, .inl v0.2.1))] H → va_D A [(a0, .inr (6, [.ref a1, .ref a2, .int v0.2.2])), (a1, .inl (ca 0, 15, .inl v0.1)), (a2, .inl (ca 0, 15, .inl v0.2.1))] → va_S A s.heap H locs → lv_has ls 5 [(0, .ref a0), (1, .int x1), (2, .int x2), (3, .int x3), (4, .int x4)] → W p l e ({ frames := 3, cells := 0, slots := 0, locals := 63 } : Room) s m args below meth c H locs 0 0 Q (F0 m 7 ls [])) (x1 : Int32) (x2 : Int32) (x3 : Int32) (x4 : Int32), fl_X6_moreOfColumn_7 v0 k7 x1 x2 x3 x4 = some r → ∀ (H : Heap) (locs : List Loc) (ls : Array Slot), va_P D vwCl [(a0, .inr (6, [.ref a1, .ref a2, .int v0.2.2])), (a1, .inl (ca 0, 15, .inl v0.1)), (a2, .inl (ca 0, 15, .inl v0.2.1))] H → va_D A [(a0, .inr (6, [.ref a1, .ref a2, .int v0.2.2])), (a1, .inl (ca 0, 15, .inl v0.1)), (a2, .inl (ca 0, 15, .inl v0.2.1))] → va_S A s.heap H locs → lv_has ls 5 [(0, .ref a0), (1, .int x1), (2, .int x2), (3, .int x3), (4, .int x4)] → W p l e ({ frames := 3, cells := 0, slots := 0, locals := 63 } : Room) s m args below meth c H locs 0 0 Q (F0 m 7 ls []) := by
    intro k7 q7 x1 x2 x3 x4 hf H locs ls hP hD hS hl
    unfold fl_X6_moreOfColumn_7 at hf
    refine lv_iload hx hb dX6_moreOfColumn_7 (lv_at hl 4 rfl) ?_
    refine lv_bipush (v := 15) hx hb dX6_moreOfColumn_9 rfl ?_
    refine xc_ge (tgt := 42) hx hb dX6_moreOfColumn_11 (by decide) hf (fun hf => ?_) (fun hf => ?_)
    · refine lv_iload_n hx hb dX6_moreOfColumn_42 rfl (lv_at hl 3 rfl) ?_
      refine lv_iconst (v := 2) hx hb dX6_moreOfColumn_43 rfl ?_
      refine xc_ge (tgt := 51) hx hb dX6_moreOfColumn_44 (by decide) hf (fun hf => ?_) (fun hf => ?_)
      · refine lv_iload_n hx hb dX6_moreOfColumn_51 rfl (lv_at hl 2 rfl) ?_
        refine lv_iload_n hx hb dX6_moreOfColumn_52 rfl (lv_at hl 3 rfl) ?_
        refine lv_iload_n hx hb dX6_moreOfColumn_53 rfl (lv_at hl 2 rfl) ?_
        refine lv_isub hx hb dX6_moreOfColumn_54 ?_
        refine va_mmax hx hb (hml.trans hl.1.symm) hown w0 w1 w2 w3 (Nat.le_of_ble_eq_true rfl) (Nat.le_of_ble_eq_true rfl) (Nat.zero_le _) (Nat.zero_le _) dX6_moreOfColumn_55 ?_
        refine xnm hf (fun x_1 hf => ?_)
        have he := Option.some.inj hf
        have e_r := he
        refine rt_I hx hb hr hlocks hK hP hD hS hQ e_r ?_ dX6_moreOfColumn_58
        rfl
      · refine lv_iconst (v := 0) hx hb dX6_moreOfColumn_47 rfl ?_
        refine lv_goto (tgt := 58) hx hb dX6_moreOfColumn_48 (by decide) ?_
        have he := Option.some.inj hf
        have e_r := he
        refine rt_I hx hb hr hlocks hK hP hD hS hQ e_r ?_ dX6_moreOfColumn_58
        rfl
    · refine lv_aload_n hx hb dX6_moreOfColumn_14 rfl (lv_at hl 0 rfl) ?_
      refine lv_iload hx hb dX6_moreOfColumn_15 (lv_at hl 4 rfl) ?_
      obtain ⟨r_2, hc2, hf⟩ := bnd1_el hf
      refine xV_I (As := [.int x4]) (wx := [(a0, .inr (6, [.ref a1, .ref a2, .int v0.2.2])), (a1, .inl (ca 0, 15, .inl v0.1)), (a2, .inl (ca 0, 15, .inl v0.2.1))]) ⟨hx, hb, hml, hown, hts⟩ (c_X6_isFull l D ca zz a0 a1 a2 _ v0 x4 r_2 hc2) (cwV 1 hts (gV gw_4_141 gw_4_143 gw_s_2_3 gw_1_9 gw_4_144) rfl rfl rfl (by decide +kernel) ⟨(Nat.le_of_ble_eq_true rfl), (Nat.le_of_ble_eq_true rfl)⟩) hK hN hZ hA hP hD hS [0, 2] [some 0, none, some 1] (by decide +kernel) rfl rfl rfl rfl 0 rfl rfl hl.1 rfl (Nat.le_of_ble_eq_true rfl) dX6_moreOfColumn_17 ⟨Nat.zero_le _, Nat.zero_le _⟩ rfl (fun H locs hP hD hS => ?_)
      refine xi_eq (tgt := 36) hx hb dX6_moreOfColumn_20 (by decide) hf (fun hf => ?_) (fun hf => ?_)
      · obtain ⟨x_3, ex_3, hf⟩ := bnd_el hf
        refine lv_iinc (v := x_3) (lv' := [(4, .int x_3), (0, .ref a0), (1, .int x1), (2, .int x2), (3, .int x3)]) hx hb dX6_moreOfColumn_36 hl (k := 4) rfl (by rw [ex_3]; rfl) (Nat.le_of_ble_eq_true rfl) rfl (fun ls hl => ?_)
        refine lv_goto (tgt := 7) hx hb dX6_moreOfColumn_39 (by decide) ?_
        exact q7 x1 x2 x3 x_3 hf _ _ _ hP hD hS (lv_sub hl [1, 2, 3, 4, 0] rfl)
      · obtain ⟨x_4, ex_4, hf⟩ := bnd_el hf
        refine lv_iinc (v := x_4) (lv' := [(3, .int x_4), (0, .ref a0), (1, .int x1), (2, .int x2), (4, .int x4)]) hx hb dX6_moreOfColumn_23 hl (k := 3) rfl (by rw [ex_4]; rfl) (Nat.le_of_ble_eq_true rfl) rfl (fun ls hl => ?_)
        refine lv_iload_n hx hb dX6_moreOfColumn_26 rfl (lv_at hl 3 rfl) ?_
        refine lv_aload_n hx hb dX6_moreOfColumn_27 rfl (lv_at hl 1 rfl) ?_
        refine lv_iload hx hb dX6_moreOfColumn_28 (lv_at hl 4 rfl) ?_
        refine lv_iload_n hx hb dX6_moreOfColumn_30 rfl (lv_at hl 2 rfl) ?_
        obtain ⟨r_5, hc5, hf⟩ := bnd1_el hf
        refine xV_I (As := [.int x4, .int x1]) (wx := [(a0, .inr (6, [.ref a1, .ref a2, .int v0.2.2])), (a1, .inl (ca 0, 15, .inl v0.1)), (a2, .inl (ca 0, 15, .inl v0.2.1))]) ⟨hx, hb, hml, hown, hts⟩ (c_X6_sampleOf l D ca zz a0 a1 a2 _ v0 x4 x1 r_5 hc5) (cwV 2 hts (gV gw_4_169 gw_4_50 gw_4_51 gw_1_9 gw_4_52) rfl rfl rfl (by decide +kernel) ⟨(Nat.le_of_ble_eq_true rfl), (Nat.le_of_ble_eq_true rfl)⟩) hK hN hZ hA hP hD hS [0, 1, 2] [some 0, some 1, some 2] (by decide +kernel) rfl rfl rfl rfl 0 rfl rfl hl.1 rfl (Nat.le_of_ble_eq_true rfl) dX6_moreOfColumn_31 ⟨Nat.zero_le _, Nat.zero_le _⟩ rfl (fun H locs hP hD hS => ?_)
        refine lv_iadd hx hb dX6_moreOfColumn_34 ?_
        refine xnm hf (fun x_6 hf => ?_)
        refine lv_istore_n (lv' := [(2, .int x_6), (3, .int x_4), (0, .ref a0), (1, .int x1), (4, .int x4)]) hx hb dX6_moreOfColumn_35 rfl hl (Nat.le_of_ble_eq_true rfl) rfl (fun ls hl => ?_)
        obtain ⟨x_7, ex_7, hf⟩ := bnd_el hf
        refine lv_iinc (v := x_7) (lv' := [(4, .int x_7), (2, .int x_6), (3, .int x_4), (0, .ref a0), (1, .int x1)]) hx hb dX6_moreOfColumn_36 hl (k := 4) rfl (by rw [ex_7]; rfl) (Nat.le_of_ble_eq_true rfl) rfl (fun ls hl => ?_)
        refine lv_goto (tgt := 7) hx hb dX6_moreOfColumn_39 (by decide) ?_
        exact q7 x1 x_6 x_4 x_7 hf _ _ _ hP hD hS (lv_sub hl [3, 4, 1, 2, 0] rfl)
  have b7 : ∀ (n : Nat) (x1 : Int32) (x2 : Int32) (x3 : Int32) (x4 : Int32), fb_X6_moreOfColumn_7 v0 n x1 x2 x3 x4 = some r → ∀ (H : Heap) (locs : List Loc) (ls : Array Slot), va_P D vwCl [(a0, .inr (6, [.ref a1, .ref a2, .int v0.2.2])), (a1, .inl (ca 0, 15, .inl v0.1)), (a2, .inl (ca 0, 15, .inl v0.2.1))] H → va_D A [(a0, .inr (6, [.ref a1, .ref a2, .int v0.2.2])), (a1, .inl (ca 0, 15, .inl v0.1)), (a2, .inl (ca 0, 15, .inl v0.2.1))] → va_S A s.heap H locs → lv_has ls 5 [(0, .ref a0), (1, .int x1), (2, .int x2), (3, .int x3), (4, .int x4)] → W p l e ({ frames := 3, cells := 0, slots := 0, locals := 63 } : Room) s m args below meth c H locs 0 0 Q (F0 m 7 ls []) := by
    intro n
    induction n with
    | zero => intro x1 x2 x3 x4 hf; exact no_el hf
    | succ n ih => exact bl7 (fb_X6_moreOfColumn_7 v0 n) ih
  unfold f_X6_moreOfColumn at hf
  refine lv_iconst (v := 0) hx hb dX6_moreOfColumn_0 rfl ?_
  refine lv_istore_n (lv' := [(2, .int (0 : Int32)), (0, .ref a0), (1, .int p1)]) hx hb dX6_moreOfColumn_1 rfl hl (Nat.le_of_ble_eq_true rfl) rfl (fun ls hl => ?_)
  refine lv_iconst (v := 0) hx hb dX6_moreOfColumn_2 rfl ?_
  refine lv_istore_n (lv' := [(3, .int (0 : Int32)), (2, .int (0 : Int32)), (0, .ref a0), (1, .int p1)]) hx hb dX6_moreOfColumn_3 rfl hl (Nat.le_of_ble_eq_true rfl) rfl (fun ls hl => ?_)
  refine lv_iconst (v := 0) hx hb dX6_moreOfColumn_4 rfl ?_
  refine lv_istore (lv' := [(4, .int (0 : Int32)), (3, .int (0 : Int32)), (2, .int (0 : Int32)), (0, .ref a0), (1, .int p1)]) hx hb dX6_moreOfColumn_5 hl (Nat.le_of_ble_eq_true rfl) rfl (fun ls hl => ?_)
  exact b7 FU p1 (0 : Int32) (0 : Int32) (0 : Int32) hf _ _ _ hP hD hS (lv_sub hl [3, 4, 2, 1, 0] rfl)
abbrev wq_X6_greatestColumn : List Cond := Cond.code yX6_greatestColumn cX6_greatestColumn 3 (some .int) :: GL
set_option maxHeartbeats 4000000 in
set_option maxRecDepth 100000 in
theorem c_X6_greatestColumn (l : Launch) (D : va_G) (ca : Nat → ClassId) (zz : Nat → Nat) (a0 a1 a2 : Nat) (sz : Nat) (v0 : V6) (r : Int32) (hf : f_X6_greatestColumn v0 = some r) : Met l yX6_greatestColumn wq_X6_greatestColumn ({ frames := 4, cells := 0, slots := 0, locals := 87 } : Room) (PR D ca zz [.ref a0] sz [(a0, .inr (6, [.ref a1, .ref a2, .int v0.2.2])), (a1, .inl (ca 0, 15, .inl v0.1)), (a2, .inl (ca 0, 15, .inl v0.2.1))]) (QI D ca r [(a0, .inr (6, [.ref a1, .ref a2, .int v0.2.2])), (a1, .inl (ca 0, 15, .inl v0.1)), (a2, .inl (ca 0, 15, .inl v0.2.1))] (va_A [(a0, .inr (6, [.ref a1, .ref a2, .int v0.2.2])), (a1, .inl (ca 0, 15, .inl v0.1)), (a2, .inl (ca 0, 15, .inl v0.2.1))] sz)) 0 0 (va_A [(a0, .inr (6, [.ref a1, .ref a2, .int v0.2.2])), (a1, .inl (ca 0, 15, .inl v0.1)), (a2, .inl (ca 0, 15, .inl v0.2.1))] sz) := by
  refine en (y := yX6_greatestColumn) (wsm := wq_X6_greatestColumn) (av := [.ref a0]) (cc := cX6_greatestColumn) (maxL := 3) (ret := (some .int)) (Qf := fun A => (QI D ca r [(a0, .inr (6, [.ref a1, .ref a2, .int v0.2.2])), (a1, .inl (ca 0, 15, .inl v0.1)), (a2, .inl (ca 0, 15, .inl v0.2.1))] A)) (by decide) rfl (Nat.le_of_ble_eq_true rfl) ?_
  intro p e s m args below meth c A Q ls hx hb hr hml hown hts hlocks hnm hA hN hZ hK hQ hP hD hS hl
  have w0 := hts _ (List.mem_cons_of_mem _ gw_4_160)
  have w1 := hts _ (List.mem_cons_of_mem _ gw_2_33)
  have w2 := hts _ (List.mem_cons_of_mem _ gw_1_11)
  have w3 := hts _ (List.mem_cons_of_mem _ gw_2_34)
  have bl4 : ∀ (k4 : Int32 → Int32 → Option (Int32)) (q4 : ∀ (x1 : Int32) (x2 : Int32), k4 x1 x2 = some r → ∀ (H : Heap) (locs : List Loc) (ls : Array Slot), va_P D vwCl [(a0, .inr (6, [.ref a1, .ref a2, .int v0.2.2])), (a1, .inl (ca 0, 15, .inl v0.1)), (a2, .inl (ca 0, 15, .inl v0.2.1))] H → va_D A [(a0, .inr (6, [.ref a1, .ref a2, .int v0.2.2])), (a1, .inl (ca 0, 15, .inl v0.1)), (a2, .inl (ca 0, 15, .inl v0.2.1))] → va_S A s.heap H locs → lv_has ls 3 [(0, .ref a0), (1, .int x1), (2, .int x2)] → W p l e ({ frames := 4, cells := 0, slots := 0, locals := 87 } : Room) s m args below meth c H locs 0 0 Q (F0 m 4 ls [])) (x1 : Int32) (x2 : Int32), fl_X6_greatestColumn_4 v0 k4 x1 x2 = some r → ∀ (H : Heap) (locs : List Loc) (ls : Array Slot), va_P D vwCl [(a0, .inr (6, [.ref a1, .ref a2, .int v0.2.2])), (a1, .inl (ca 0, 15, .inl v0.1)), (a2, .inl (ca 0, 15, .inl v0.2.1))] H → va_D A [(a0, .inr (6, [.ref a1, .ref a2, .int v0.2.2])), (a1, .inl (ca 0, 15, .inl v0.1)), (a2, .inl (ca 0, 15, .inl v0.2.1))] → va_S A s.heap H locs → lv_has ls 3 [(0, .ref a0), (1, .int x1), (2, .int x2)] → W p l e ({ frames := 4, cells := 0, slots := 0, locals := 87 } : Room) s m args below meth c H locs 0 0 Q (F0 m 4 ls []) := by
    intro k4 q4 x1 x2 hf H locs ls hP hD hS hl
    unfold fl_X6_greatestColumn_4 at hf
    refine lv_iload_n hx hb dX6_greatestColumn_4 rfl (lv_at hl 2 rfl) ?_
    refine lv_bipush (v := 15) hx hb dX6_greatestColumn_5 rfl ?_
    refine xc_ge (tgt := 26) hx hb dX6_greatestColumn_7 (by decide) hf (fun hf => ?_) (fun hf => ?_)
    · refine lv_iload_n hx hb dX6_greatestColumn_26 rfl (lv_at hl 1 rfl) ?_
      have he := Option.some.inj hf
      have e_r := he
      refine rt_I hx hb hr hlocks hK hP hD hS hQ e_r ?_ dX6_greatestColumn_27
      rfl
    · refine lv_iload_n hx hb dX6_greatestColumn_10 rfl (lv_at hl 1 rfl) ?_
      refine lv_aload_n hx hb dX6_greatestColumn_11 rfl (lv_at hl 0 rfl) ?_
      refine lv_iload_n hx hb dX6_greatestColumn_12 rfl (lv_at hl 2 rfl) ?_
      obtain ⟨r_1, hc1, hf⟩ := bnd1_el hf
      refine xV_I (As := [.int x2]) (wx := [(a0, .inr (6, [.ref a1, .ref a2, .int v0.2.2])), (a1, .inl (ca 0, 15, .inl v0.1)), (a2, .inl (ca 0, 15, .inl v0.2.1))]) ⟨hx, hb, hml, hown, hts⟩ (c_X6_moreOfColumn l D ca zz a0 a1 a2 _ v0 x2 r_1 hc1) (cwV 1 hts (gV gw_4_165 gw_4_167 gw_s_2_5 gw_1_9 gw_4_168) rfl rfl rfl (by decide +kernel) ⟨(Nat.le_of_ble_eq_true rfl), (Nat.le_of_ble_eq_true rfl)⟩) hK hN hZ hA hP hD hS [0, 1, 2] [some 0, some 1, some 2] (by decide +kernel) rfl rfl rfl rfl 0 rfl rfl hl.1 rfl (Nat.le_of_ble_eq_true rfl) dX6_greatestColumn_13 ⟨Nat.zero_le _, Nat.zero_le _⟩ rfl (fun H locs hP hD hS => ?_)
      refine va_mmax hx hb (hml.trans hl.1.symm) hown w0 w1 w2 w3 (Nat.le_of_ble_eq_true rfl) (Nat.le_of_ble_eq_true rfl) (Nat.zero_le _) (Nat.zero_le _) dX6_greatestColumn_16 ?_
      refine xnm hf (fun x_2 hf => ?_)
      refine lv_istore_n (lv' := [(1, .int x_2), (0, .ref a0), (2, .int x2)]) hx hb dX6_greatestColumn_19 rfl hl (Nat.le_of_ble_eq_true rfl) rfl (fun ls hl => ?_)
      obtain ⟨x_3, ex_3, hf⟩ := bnd_el hf
      refine lv_iinc (v := x_3) (lv' := [(2, .int x_3), (1, .int x_2), (0, .ref a0)]) hx hb dX6_greatestColumn_20 hl (k := 2) rfl (by rw [ex_3]; rfl) (Nat.le_of_ble_eq_true rfl) rfl (fun ls hl => ?_)
      refine lv_goto (tgt := 4) hx hb dX6_greatestColumn_23 (by decide) ?_
      exact q4 x_2 x_3 hf _ _ _ hP hD hS (lv_sub hl [2, 1, 0] rfl)
  have b4 : ∀ (n : Nat) (x1 : Int32) (x2 : Int32), fb_X6_greatestColumn_4 v0 n x1 x2 = some r → ∀ (H : Heap) (locs : List Loc) (ls : Array Slot), va_P D vwCl [(a0, .inr (6, [.ref a1, .ref a2, .int v0.2.2])), (a1, .inl (ca 0, 15, .inl v0.1)), (a2, .inl (ca 0, 15, .inl v0.2.1))] H → va_D A [(a0, .inr (6, [.ref a1, .ref a2, .int v0.2.2])), (a1, .inl (ca 0, 15, .inl v0.1)), (a2, .inl (ca 0, 15, .inl v0.2.1))] → va_S A s.heap H locs → lv_has ls 3 [(0, .ref a0), (1, .int x1), (2, .int x2)] → W p l e ({ frames := 4, cells := 0, slots := 0, locals := 87 } : Room) s m args below meth c H locs 0 0 Q (F0 m 4 ls []) := by
    intro n
    induction n with
    | zero => intro x1 x2 hf; exact no_el hf
    | succ n ih => exact bl4 (fb_X6_greatestColumn_4 v0 n) ih
  unfold f_X6_greatestColumn at hf
  refine lv_iconst (v := 0) hx hb dX6_greatestColumn_0 rfl ?_
  refine lv_istore_n (lv' := [(1, .int (0 : Int32)), (0, .ref a0)]) hx hb dX6_greatestColumn_1 rfl hl (Nat.le_of_ble_eq_true rfl) rfl (fun ls hl => ?_)
  refine lv_iconst (v := 0) hx hb dX6_greatestColumn_2 rfl ?_
  refine lv_istore_n (lv' := [(2, .int (0 : Int32)), (1, .int (0 : Int32)), (0, .ref a0)]) hx hb dX6_greatestColumn_3 rfl hl (Nat.le_of_ble_eq_true rfl) rfl (fun ls hl => ?_)
  exact b4 FU (0 : Int32) (0 : Int32) hf _ _ _ hP hD hS (lv_sub hl [2, 1, 0] rfl)
abbrev wq_X6_rowsAbove : List Cond := Cond.code yX6_rowsAbove cX6_rowsAbove 4 (some .int) :: GL
set_option maxHeartbeats 4000000 in
set_option maxRecDepth 100000 in
theorem c_X6_rowsAbove (l : Launch) (D : va_G) (ca : Nat → ClassId) (zz : Nat → Nat) (a0 a1 a2 : Nat) (sz : Nat) (v0 : V6) (p1 : Int32) (r : Int32) (hf : f_X6_rowsAbove v0 p1 = some r) : Met l yX6_rowsAbove wq_X6_rowsAbove ({ frames := 4, cells := 0, slots := 0, locals := 85 } : Room) (PR D ca zz [.ref a0, .int p1] sz [(a0, .inr (6, [.ref a1, .ref a2, .int v0.2.2])), (a1, .inl (ca 0, 15, .inl v0.1)), (a2, .inl (ca 0, 15, .inl v0.2.1))]) (QI D ca r [(a0, .inr (6, [.ref a1, .ref a2, .int v0.2.2])), (a1, .inl (ca 0, 15, .inl v0.1)), (a2, .inl (ca 0, 15, .inl v0.2.1))] (va_A [(a0, .inr (6, [.ref a1, .ref a2, .int v0.2.2])), (a1, .inl (ca 0, 15, .inl v0.1)), (a2, .inl (ca 0, 15, .inl v0.2.1))] sz)) 0 0 (va_A [(a0, .inr (6, [.ref a1, .ref a2, .int v0.2.2])), (a1, .inl (ca 0, 15, .inl v0.1)), (a2, .inl (ca 0, 15, .inl v0.2.1))] sz) := by
  refine en (y := yX6_rowsAbove) (wsm := wq_X6_rowsAbove) (av := [.ref a0, .int p1]) (cc := cX6_rowsAbove) (maxL := 4) (ret := (some .int)) (Qf := fun A => (QI D ca r [(a0, .inr (6, [.ref a1, .ref a2, .int v0.2.2])), (a1, .inl (ca 0, 15, .inl v0.1)), (a2, .inl (ca 0, 15, .inl v0.2.1))] A)) (by decide) rfl (Nat.le_of_ble_eq_true rfl) ?_
  intro p e s m args below meth c A Q ls hx hb hr hml hown hts hlocks hnm hA hN hZ hK hQ hP hD hS hl
  have bl4 : ∀ (k4 : Int32 → Int32 → Int32 → Option (Int32)) (q4 : ∀ (x1 : Int32) (x2 : Int32) (x3 : Int32), k4 x1 x2 x3 = some r → ∀ (H : Heap) (locs : List Loc) (ls : Array Slot), va_P D vwCl [(a0, .inr (6, [.ref a1, .ref a2, .int v0.2.2])), (a1, .inl (ca 0, 15, .inl v0.1)), (a2, .inl (ca 0, 15, .inl v0.2.1))] H → va_D A [(a0, .inr (6, [.ref a1, .ref a2, .int v0.2.2])), (a1, .inl (ca 0, 15, .inl v0.1)), (a2, .inl (ca 0, 15, .inl v0.2.1))] → va_S A s.heap H locs → lv_has ls 4 [(0, .ref a0), (1, .int x1), (2, .int x2), (3, .int x3)] → W p l e ({ frames := 4, cells := 0, slots := 0, locals := 85 } : Room) s m args below meth c H locs 0 0 Q (F0 m 4 ls [])) (x1 : Int32) (x2 : Int32) (x3 : Int32), fl_X6_rowsAbove_4 v0 k4 x1 x2 x3 = some r → ∀ (H : Heap) (locs : List Loc) (ls : Array Slot), va_P D vwCl [(a0, .inr (6, [.ref a1, .ref a2, .int v0.2.2])), (a1, .inl (ca 0, 15, .inl v0.1)), (a2, .inl (ca 0, 15, .inl v0.2.1))] H → va_D A [(a0, .inr (6, [.ref a1, .ref a2, .int v0.2.2])), (a1, .inl (ca 0, 15, .inl v0.1)), (a2, .inl (ca 0, 15, .inl v0.2.1))] → va_S A s.heap H locs → lv_has ls 4 [(0, .ref a0), (1, .int x1), (2, .int x2), (3, .int x3)] → W p l e ({ frames := 4, cells := 0, slots := 0, locals := 85 } : Room) s m args below meth c H locs 0 0 Q (F0 m 4 ls []) := by
    intro k4 q4 x1 x2 x3 hf H locs ls hP hD hS hl
    unfold fl_X6_rowsAbove_4 at hf
    refine lv_iload_n hx hb dX6_rowsAbove_4 rfl (lv_at hl 3 rfl) ?_
    refine lv_bipush (v := 15) hx hb dX6_rowsAbove_5 rfl ?_
    refine xc_ge (tgt := 31) hx hb dX6_rowsAbove_7 (by decide) hf (fun hf => ?_) (fun hf => ?_)
    · refine lv_iload_n hx hb dX6_rowsAbove_31 rfl (lv_at hl 2 rfl) ?_
      have he := Option.some.inj hf
      have e_r := he
      refine rt_I hx hb hr hlocks hK hP hD hS hQ e_r ?_ dX6_rowsAbove_32
      rfl
    · refine lv_aload_n hx hb dX6_rowsAbove_10 rfl (lv_at hl 0 rfl) ?_
      refine lv_iload_n hx hb dX6_rowsAbove_11 rfl (lv_at hl 3 rfl) ?_
      obtain ⟨r_1, hc1, hf⟩ := bnd1_el hf
      refine xV_I (As := [.int x3]) (wx := [(a0, .inr (6, [.ref a1, .ref a2, .int v0.2.2])), (a1, .inl (ca 0, 15, .inl v0.1)), (a2, .inl (ca 0, 15, .inl v0.2.1))]) ⟨hx, hb, hml, hown, hts⟩ (c_X6_moreOfRow l D ca zz a0 a1 a2 _ v0 x3 r_1 hc1) (cwV 1 hts (gV gw_4_150 gw_4_152 gw_s_2_4 gw_1_9 gw_4_153) rfl rfl rfl (by decide +kernel) ⟨(Nat.le_of_ble_eq_true rfl), (Nat.le_of_ble_eq_true rfl)⟩) hK hN hZ hA hP hD hS [0, 1, 2] [some 0, some 1, some 2] (by decide +kernel) rfl rfl rfl rfl 0 rfl rfl hl.1 rfl (Nat.le_of_ble_eq_true rfl) dX6_rowsAbove_12 ⟨Nat.zero_le _, Nat.zero_le _⟩ rfl (fun H locs hP hD hS => ?_)
      refine lv_iload_n hx hb dX6_rowsAbove_15 rfl (lv_at hl 1 rfl) ?_
      refine xc_le (tgt := 25) hx hb dX6_rowsAbove_16 (by decide) hf (fun hf => ?_) (fun hf => ?_)
      · obtain ⟨x_2, ex_2, hf⟩ := bnd_el hf
        refine lv_iinc (v := x_2) (lv' := [(3, .int x_2), (0, .ref a0), (1, .int x1), (2, .int x2)]) hx hb dX6_rowsAbove_25 hl (k := 3) rfl (by rw [ex_2]; rfl) (Nat.le_of_ble_eq_true rfl) rfl (fun ls hl => ?_)
        refine lv_goto (tgt := 4) hx hb dX6_rowsAbove_28 (by decide) ?_
        exact q4 x1 x2 x_2 hf _ _ _ hP hD hS (lv_sub hl [1, 2, 3, 0] rfl)
      · refine lv_iload_n hx hb dX6_rowsAbove_19 rfl (lv_at hl 2 rfl) ?_
        refine lv_iconst (v := 1) hx hb dX6_rowsAbove_20 rfl ?_
        refine lv_iload_n hx hb dX6_rowsAbove_21 rfl (lv_at hl 3 rfl) ?_
        refine lv_ishl hx hb dX6_rowsAbove_22 ?_
        refine lv_ior hx hb dX6_rowsAbove_23 ?_
        refine xnm hf (fun x_3 hf => ?_)
        refine lv_istore_n (lv' := [(2, .int x_3), (0, .ref a0), (1, .int x1), (3, .int x3)]) hx hb dX6_rowsAbove_24 rfl hl (Nat.le_of_ble_eq_true rfl) rfl (fun ls hl => ?_)
        obtain ⟨x_4, ex_4, hf⟩ := bnd_el hf
        refine lv_iinc (v := x_4) (lv' := [(3, .int x_4), (2, .int x_3), (0, .ref a0), (1, .int x1)]) hx hb dX6_rowsAbove_25 hl (k := 3) rfl (by rw [ex_4]; rfl) (Nat.le_of_ble_eq_true rfl) rfl (fun ls hl => ?_)
        refine lv_goto (tgt := 4) hx hb dX6_rowsAbove_28 (by decide) ?_
        exact q4 x1 x_3 x_4 hf _ _ _ hP hD hS (lv_sub hl [2, 3, 1, 0] rfl)
  have b4 : ∀ (n : Nat) (x1 : Int32) (x2 : Int32) (x3 : Int32), fb_X6_rowsAbove_4 v0 n x1 x2 x3 = some r → ∀ (H : Heap) (locs : List Loc) (ls : Array Slot), va_P D vwCl [(a0, .inr (6, [.ref a1, .ref a2, .int v0.2.2])), (a1, .inl (ca 0, 15, .inl v0.1)), (a2, .inl (ca 0, 15, .inl v0.2.1))] H → va_D A [(a0, .inr (6, [.ref a1, .ref a2, .int v0.2.2])), (a1, .inl (ca 0, 15, .inl v0.1)), (a2, .inl (ca 0, 15, .inl v0.2.1))] → va_S A s.heap H locs → lv_has ls 4 [(0, .ref a0), (1, .int x1), (2, .int x2), (3, .int x3)] → W p l e ({ frames := 4, cells := 0, slots := 0, locals := 85 } : Room) s m args below meth c H locs 0 0 Q (F0 m 4 ls []) := by
    intro n
    induction n with
    | zero => intro x1 x2 x3 hf; exact no_el hf
    | succ n ih => exact bl4 (fb_X6_rowsAbove_4 v0 n) ih
  unfold f_X6_rowsAbove at hf
  refine lv_iconst (v := 0) hx hb dX6_rowsAbove_0 rfl ?_
  refine lv_istore_n (lv' := [(2, .int (0 : Int32)), (0, .ref a0), (1, .int p1)]) hx hb dX6_rowsAbove_1 rfl hl (Nat.le_of_ble_eq_true rfl) rfl (fun ls hl => ?_)
  refine lv_iconst (v := 0) hx hb dX6_rowsAbove_2 rfl ?_
  refine lv_istore_n (lv' := [(3, .int (0 : Int32)), (2, .int (0 : Int32)), (0, .ref a0), (1, .int p1)]) hx hb dX6_rowsAbove_3 rfl hl (Nat.le_of_ble_eq_true rfl) rfl (fun ls hl => ?_)
  exact b4 FU p1 (0 : Int32) (0 : Int32) hf _ _ _ hP hD hS (lv_sub hl [2, 3, 1, 0] rfl)
abbrev wq_X6_columnsAbove : List Cond := Cond.code yX6_columnsAbove cX6_columnsAbove 4 (some .int) :: GL
set_option maxHeartbeats 4000000 in
set_option maxRecDepth 100000 in
theorem c_X6_columnsAbove (l : Launch) (D : va_G) (ca : Nat → ClassId) (zz : Nat → Nat) (a0 a1 a2 : Nat) (sz : Nat) (v0 : V6) (p1 : Int32) (r : Int32) (hf : f_X6_columnsAbove v0 p1 = some r) : Met l yX6_columnsAbove wq_X6_columnsAbove ({ frames := 4, cells := 0, slots := 0, locals := 87 } : Room) (PR D ca zz [.ref a0, .int p1] sz [(a0, .inr (6, [.ref a1, .ref a2, .int v0.2.2])), (a1, .inl (ca 0, 15, .inl v0.1)), (a2, .inl (ca 0, 15, .inl v0.2.1))]) (QI D ca r [(a0, .inr (6, [.ref a1, .ref a2, .int v0.2.2])), (a1, .inl (ca 0, 15, .inl v0.1)), (a2, .inl (ca 0, 15, .inl v0.2.1))] (va_A [(a0, .inr (6, [.ref a1, .ref a2, .int v0.2.2])), (a1, .inl (ca 0, 15, .inl v0.1)), (a2, .inl (ca 0, 15, .inl v0.2.1))] sz)) 0 0 (va_A [(a0, .inr (6, [.ref a1, .ref a2, .int v0.2.2])), (a1, .inl (ca 0, 15, .inl v0.1)), (a2, .inl (ca 0, 15, .inl v0.2.1))] sz) := by
  refine en (y := yX6_columnsAbove) (wsm := wq_X6_columnsAbove) (av := [.ref a0, .int p1]) (cc := cX6_columnsAbove) (maxL := 4) (ret := (some .int)) (Qf := fun A => (QI D ca r [(a0, .inr (6, [.ref a1, .ref a2, .int v0.2.2])), (a1, .inl (ca 0, 15, .inl v0.1)), (a2, .inl (ca 0, 15, .inl v0.2.1))] A)) (by decide) rfl (Nat.le_of_ble_eq_true rfl) ?_
  intro p e s m args below meth c A Q ls hx hb hr hml hown hts hlocks hnm hA hN hZ hK hQ hP hD hS hl
  have bl4 : ∀ (k4 : Int32 → Int32 → Int32 → Option (Int32)) (q4 : ∀ (x1 : Int32) (x2 : Int32) (x3 : Int32), k4 x1 x2 x3 = some r → ∀ (H : Heap) (locs : List Loc) (ls : Array Slot), va_P D vwCl [(a0, .inr (6, [.ref a1, .ref a2, .int v0.2.2])), (a1, .inl (ca 0, 15, .inl v0.1)), (a2, .inl (ca 0, 15, .inl v0.2.1))] H → va_D A [(a0, .inr (6, [.ref a1, .ref a2, .int v0.2.2])), (a1, .inl (ca 0, 15, .inl v0.1)), (a2, .inl (ca 0, 15, .inl v0.2.1))] → va_S A s.heap H locs → lv_has ls 4 [(0, .ref a0), (1, .int x1), (2, .int x2), (3, .int x3)] → W p l e ({ frames := 4, cells := 0, slots := 0, locals := 87 } : Room) s m args below meth c H locs 0 0 Q (F0 m 4 ls [])) (x1 : Int32) (x2 : Int32) (x3 : Int32), fl_X6_columnsAbove_4 v0 k4 x1 x2 x3 = some r → ∀ (H : Heap) (locs : List Loc) (ls : Array Slot), va_P D vwCl [(a0, .inr (6, [.ref a1, .ref a2, .int v0.2.2])), (a1, .inl (ca 0, 15, .inl v0.1)), (a2, .inl (ca 0, 15, .inl v0.2.1))] H → va_D A [(a0, .inr (6, [.ref a1, .ref a2, .int v0.2.2])), (a1, .inl (ca 0, 15, .inl v0.1)), (a2, .inl (ca 0, 15, .inl v0.2.1))] → va_S A s.heap H locs → lv_has ls 4 [(0, .ref a0), (1, .int x1), (2, .int x2), (3, .int x3)] → W p l e ({ frames := 4, cells := 0, slots := 0, locals := 87 } : Room) s m args below meth c H locs 0 0 Q (F0 m 4 ls []) := by
    intro k4 q4 x1 x2 x3 hf H locs ls hP hD hS hl
    unfold fl_X6_columnsAbove_4 at hf
    refine lv_iload_n hx hb dX6_columnsAbove_4 rfl (lv_at hl 3 rfl) ?_
    refine lv_bipush (v := 15) hx hb dX6_columnsAbove_5 rfl ?_
    refine xc_ge (tgt := 31) hx hb dX6_columnsAbove_7 (by decide) hf (fun hf => ?_) (fun hf => ?_)
    · refine lv_iload_n hx hb dX6_columnsAbove_31 rfl (lv_at hl 2 rfl) ?_
      have he := Option.some.inj hf
      have e_r := he
      refine rt_I hx hb hr hlocks hK hP hD hS hQ e_r ?_ dX6_columnsAbove_32
      rfl
    · refine lv_aload_n hx hb dX6_columnsAbove_10 rfl (lv_at hl 0 rfl) ?_
      refine lv_iload_n hx hb dX6_columnsAbove_11 rfl (lv_at hl 3 rfl) ?_
      obtain ⟨r_1, hc1, hf⟩ := bnd1_el hf
      refine xV_I (As := [.int x3]) (wx := [(a0, .inr (6, [.ref a1, .ref a2, .int v0.2.2])), (a1, .inl (ca 0, 15, .inl v0.1)), (a2, .inl (ca 0, 15, .inl v0.2.1))]) ⟨hx, hb, hml, hown, hts⟩ (c_X6_moreOfColumn l D ca zz a0 a1 a2 _ v0 x3 r_1 hc1) (cwV 1 hts (gV gw_4_165 gw_4_167 gw_s_2_5 gw_1_9 gw_4_168) rfl rfl rfl (by decide +kernel) ⟨(Nat.le_of_ble_eq_true rfl), (Nat.le_of_ble_eq_true rfl)⟩) hK hN hZ hA hP hD hS [0, 1, 2] [some 0, some 1, some 2] (by decide +kernel) rfl rfl rfl rfl 0 rfl rfl hl.1 rfl (Nat.le_of_ble_eq_true rfl) dX6_columnsAbove_12 ⟨Nat.zero_le _, Nat.zero_le _⟩ rfl (fun H locs hP hD hS => ?_)
      refine lv_iload_n hx hb dX6_columnsAbove_15 rfl (lv_at hl 1 rfl) ?_
      refine xc_le (tgt := 25) hx hb dX6_columnsAbove_16 (by decide) hf (fun hf => ?_) (fun hf => ?_)
      · obtain ⟨x_2, ex_2, hf⟩ := bnd_el hf
        refine lv_iinc (v := x_2) (lv' := [(3, .int x_2), (0, .ref a0), (1, .int x1), (2, .int x2)]) hx hb dX6_columnsAbove_25 hl (k := 3) rfl (by rw [ex_2]; rfl) (Nat.le_of_ble_eq_true rfl) rfl (fun ls hl => ?_)
        refine lv_goto (tgt := 4) hx hb dX6_columnsAbove_28 (by decide) ?_
        exact q4 x1 x2 x_2 hf _ _ _ hP hD hS (lv_sub hl [1, 2, 3, 0] rfl)
      · refine lv_iload_n hx hb dX6_columnsAbove_19 rfl (lv_at hl 2 rfl) ?_
        refine lv_iconst (v := 1) hx hb dX6_columnsAbove_20 rfl ?_
        refine lv_iload_n hx hb dX6_columnsAbove_21 rfl (lv_at hl 3 rfl) ?_
        refine lv_ishl hx hb dX6_columnsAbove_22 ?_
        refine lv_ior hx hb dX6_columnsAbove_23 ?_
        refine xnm hf (fun x_3 hf => ?_)
        refine lv_istore_n (lv' := [(2, .int x_3), (0, .ref a0), (1, .int x1), (3, .int x3)]) hx hb dX6_columnsAbove_24 rfl hl (Nat.le_of_ble_eq_true rfl) rfl (fun ls hl => ?_)
        obtain ⟨x_4, ex_4, hf⟩ := bnd_el hf
        refine lv_iinc (v := x_4) (lv' := [(3, .int x_4), (2, .int x_3), (0, .ref a0), (1, .int x1)]) hx hb dX6_columnsAbove_25 hl (k := 3) rfl (by rw [ex_4]; rfl) (Nat.le_of_ble_eq_true rfl) rfl (fun ls hl => ?_)
        refine lv_goto (tgt := 4) hx hb dX6_columnsAbove_28 (by decide) ?_
        exact q4 x1 x_3 x_4 hf _ _ _ hP hD hS (lv_sub hl [2, 3, 1, 0] rfl)
  have b4 : ∀ (n : Nat) (x1 : Int32) (x2 : Int32) (x3 : Int32), fb_X6_columnsAbove_4 v0 n x1 x2 x3 = some r → ∀ (H : Heap) (locs : List Loc) (ls : Array Slot), va_P D vwCl [(a0, .inr (6, [.ref a1, .ref a2, .int v0.2.2])), (a1, .inl (ca 0, 15, .inl v0.1)), (a2, .inl (ca 0, 15, .inl v0.2.1))] H → va_D A [(a0, .inr (6, [.ref a1, .ref a2, .int v0.2.2])), (a1, .inl (ca 0, 15, .inl v0.1)), (a2, .inl (ca 0, 15, .inl v0.2.1))] → va_S A s.heap H locs → lv_has ls 4 [(0, .ref a0), (1, .int x1), (2, .int x2), (3, .int x3)] → W p l e ({ frames := 4, cells := 0, slots := 0, locals := 87 } : Room) s m args below meth c H locs 0 0 Q (F0 m 4 ls []) := by
    intro n
    induction n with
    | zero => intro x1 x2 x3 hf; exact no_el hf
    | succ n ih => exact bl4 (fb_X6_columnsAbove_4 v0 n) ih
  unfold f_X6_columnsAbove at hf
  refine lv_iconst (v := 0) hx hb dX6_columnsAbove_0 rfl ?_
  refine lv_istore_n (lv' := [(2, .int (0 : Int32)), (0, .ref a0), (1, .int p1)]) hx hb dX6_columnsAbove_1 rfl hl (Nat.le_of_ble_eq_true rfl) rfl (fun ls hl => ?_)
  refine lv_iconst (v := 0) hx hb dX6_columnsAbove_2 rfl ?_
  refine lv_istore_n (lv' := [(3, .int (0 : Int32)), (2, .int (0 : Int32)), (0, .ref a0), (1, .int p1)]) hx hb dX6_columnsAbove_3 rfl hl (Nat.le_of_ble_eq_true rfl) rfl (fun ls hl => ?_)
  exact b4 FU p1 (0 : Int32) (0 : Int32) hf _ _ _ hP hD hS (lv_sub hl [2, 3, 1, 0] rfl)
