abbrev wq_X10_drawMany : List Cond := Cond.code yX10_drawMany cX10_drawMany 4 (some .int) :: GL
set_option maxHeartbeats 4000000 in
set_option maxRecDepth 100000 in
theorem c_X10_drawMany (l : Launch) (D : va_G) (ca : Nat → ClassId) (zz : Nat → Nat) (a0 a1 a2 a3 a4 a5 a6 a7 a8 a9 a10 a11 a12 a13 a14 a15 a16 a17 a18 : Nat) (sz : Nat) (v0 : V10) (p1 : Int32) (r : Int32) (v0' : V10) (hf : f_X10_drawMany v0 p1 = some (r, v0')) : Met l yX10_drawMany wq_X10_drawMany ({ frames := 5, cells := 0, slots := 0, locals := 106 } : Room) (PR D ca zz [.ref a0, .int p1] sz [(a0, .inr (10, [.ref a1, .ref a6, .ref a8, .ref a9, .ref a10, .ref a13, .ref a15, .ref a18, .int v0.2.2.2.2.2.2.2.2.1, .int v0.2.2.2.2.2.2.2.2.2.1, .int v0.2.2.2.2.2.2.2.2.2.2.1, .int v0.2.2.2.2.2.2.2.2.2.2.2.1, .int v0.2.2.2.2.2.2.2.2.2.2.2.2.1, .int v0.2.2.2.2.2.2.2.2.2.2.2.2.2])), (a1, .inr (7, [.ref a2, .ref a3, .ref a4, .ref a5, .int v0.1.2.2.2.2])), (a2, .inl (ca 0, 9, .inl v0.1.1)), (a3, .inl (ca 0, 4, .inl v0.1.2.1)), (a4, .inl (ca 0, 4, .inl v0.1.2.2.1)), (a5, .inl (ca 0, 4, .inl v0.1.2.2.2.1)), (a6, .inr (2, [.ref a7, .int v0.2.1.2.1, .int v0.2.1.2.2.1, .int v0.2.1.2.2.2.1, .int v0.2.1.2.2.2.2])), (a8, .inr (8, [.int v0.2.2.1.1, .int v0.2.2.1.2.1, .int v0.2.2.1.2.2])), (a9, .inr (1, [.int v0.2.2.2.1.1, .int v0.2.2.2.1.2.1, .int v0.2.2.2.1.2.2.1, .int v0.2.2.2.1.2.2.2.1, .int v0.2.2.2.1.2.2.2.2.1, .int v0.2.2.2.1.2.2.2.2.2])), (a10, .inr (3, [.ref a11, .int v0.2.2.2.2.1.2.1, .int v0.2.2.2.2.1.2.2.1, .int v0.2.2.2.2.1.2.2.2.1, .int v0.2.2.2.2.1.2.2.2.2.1, .int v0.2.2.2.2.1.2.2.2.2.2.1, .int v0.2.2.2.2.1.2.2.2.2.2.2])), (a11, .inr (4, [.ref a12, .int v0.2.2.2.2.1.1.2.1, .int v0.2.2.2.2.1.1.2.2])), (a12, .inl (ca 0, 512, .inl v0.2.2.2.2.1.1.1)), (a13, .inr (4, [.ref a14, .int v0.2.2.2.2.2.1.2.1, .int v0.2.2.2.2.2.1.2.2])), (a14, .inl (ca 0, 512, .inl v0.2.2.2.2.2.1.1)), (a15, .inr (6, [.ref a16, .ref a17, .int v0.2.2.2.2.2.2.1.2.2])), (a16, .inl (ca 0, 15, .inl v0.2.2.2.2.2.2.1.1)), (a17, .inl (ca 0, 15, .inl v0.2.2.2.2.2.2.1.2.1))]) (QI D ca r [(a0, .inr (10, [.ref a1, .ref a6, .ref a8, .ref a9, .ref a10, .ref a13, .ref a15, .ref a18, .int v0'.2.2.2.2.2.2.2.2.1, .int v0'.2.2.2.2.2.2.2.2.2.1, .int v0'.2.2.2.2.2.2.2.2.2.2.1, .int v0'.2.2.2.2.2.2.2.2.2.2.2.1, .int v0'.2.2.2.2.2.2.2.2.2.2.2.2.1, .int v0'.2.2.2.2.2.2.2.2.2.2.2.2.2])), (a1, .inr (7, [.ref a2, .ref a3, .ref a4, .ref a5, .int v0'.1.2.2.2.2])), (a2, .inl (ca 0, 9, .inl v0'.1.1)), (a3, .inl (ca 0, 4, .inl v0'.1.2.1)), (a4, .inl (ca 0, 4, .inl v0'.1.2.2.1)), (a5, .inl (ca 0, 4, .inl v0'.1.2.2.2.1)), (a6, .inr (2, [.ref a7, .int v0'.2.1.2.1, .int v0'.2.1.2.2.1, .int v0'.2.1.2.2.2.1, .int v0'.2.1.2.2.2.2])), (a8, .inr (8, [.int v0'.2.2.1.1, .int v0'.2.2.1.2.1, .int v0'.2.2.1.2.2])), (a9, .inr (1, [.int v0'.2.2.2.1.1, .int v0'.2.2.2.1.2.1, .int v0'.2.2.2.1.2.2.1, .int v0'.2.2.2.1.2.2.2.1, .int v0'.2.2.2.1.2.2.2.2.1, .int v0'.2.2.2.1.2.2.2.2.2])), (a10, .inr (3, [.ref a11, .int v0'.2.2.2.2.1.2.1, .int v0'.2.2.2.2.1.2.2.1, .int v0'.2.2.2.2.1.2.2.2.1, .int v0'.2.2.2.2.1.2.2.2.2.1, .int v0'.2.2.2.2.1.2.2.2.2.2.1, .int v0'.2.2.2.2.1.2.2.2.2.2.2])), (a11, .inr (4, [.ref a12, .int v0'.2.2.2.2.1.1.2.1, .int v0'.2.2.2.2.1.1.2.2])), (a12, .inl (ca 0, 512, .inl v0'.2.2.2.2.1.1.1)), (a13, .inr (4, [.ref a14, .int v0'.2.2.2.2.2.1.2.1, .int v0'.2.2.2.2.2.1.2.2])), (a14, .inl (ca 0, 512, .inl v0'.2.2.2.2.2.1.1)), (a15, .inr (6, [.ref a16, .ref a17, .int v0'.2.2.2.2.2.2.1.2.2])), (a16, .inl (ca 0, 15, .inl v0'.2.2.2.2.2.2.1.1)), (a17, .inl (ca 0, 15, .inl v0'.2.2.2.2.2.2.1.2.1))] (va_A [(a0, .inr (10, [.ref a1, .ref a6, .ref a8, .ref a9, .ref a10, .ref a13, .ref a15, .ref a18, .int v0.2.2.2.2.2.2.2.2.1, .int v0.2.2.2.2.2.2.2.2.2.1, .int v0.2.2.2.2.2.2.2.2.2.2.1, .int v0.2.2.2.2.2.2.2.2.2.2.2.1, .int v0.2.2.2.2.2.2.2.2.2.2.2.2.1, .int v0.2.2.2.2.2.2.2.2.2.2.2.2.2])), (a1, .inr (7, [.ref a2, .ref a3, .ref a4, .ref a5, .int v0.1.2.2.2.2])), (a2, .inl (ca 0, 9, .inl v0.1.1)), (a3, .inl (ca 0, 4, .inl v0.1.2.1)), (a4, .inl (ca 0, 4, .inl v0.1.2.2.1)), (a5, .inl (ca 0, 4, .inl v0.1.2.2.2.1)), (a6, .inr (2, [.ref a7, .int v0.2.1.2.1, .int v0.2.1.2.2.1, .int v0.2.1.2.2.2.1, .int v0.2.1.2.2.2.2])), (a8, .inr (8, [.int v0.2.2.1.1, .int v0.2.2.1.2.1, .int v0.2.2.1.2.2])), (a9, .inr (1, [.int v0.2.2.2.1.1, .int v0.2.2.2.1.2.1, .int v0.2.2.2.1.2.2.1, .int v0.2.2.2.1.2.2.2.1, .int v0.2.2.2.1.2.2.2.2.1, .int v0.2.2.2.1.2.2.2.2.2])), (a10, .inr (3, [.ref a11, .int v0.2.2.2.2.1.2.1, .int v0.2.2.2.2.1.2.2.1, .int v0.2.2.2.2.1.2.2.2.1, .int v0.2.2.2.2.1.2.2.2.2.1, .int v0.2.2.2.2.1.2.2.2.2.2.1, .int v0.2.2.2.2.1.2.2.2.2.2.2])), (a11, .inr (4, [.ref a12, .int v0.2.2.2.2.1.1.2.1, .int v0.2.2.2.2.1.1.2.2])), (a12, .inl (ca 0, 512, .inl v0.2.2.2.2.1.1.1)), (a13, .inr (4, [.ref a14, .int v0.2.2.2.2.2.1.2.1, .int v0.2.2.2.2.2.1.2.2])), (a14, .inl (ca 0, 512, .inl v0.2.2.2.2.2.1.1)), (a15, .inr (6, [.ref a16, .ref a17, .int v0.2.2.2.2.2.2.1.2.2])), (a16, .inl (ca 0, 15, .inl v0.2.2.2.2.2.2.1.1)), (a17, .inl (ca 0, 15, .inl v0.2.2.2.2.2.2.1.2.1))] sz)) 0 0 (va_A [(a0, .inr (10, [.ref a1, .ref a6, .ref a8, .ref a9, .ref a10, .ref a13, .ref a15, .ref a18, .int v0.2.2.2.2.2.2.2.2.1, .int v0.2.2.2.2.2.2.2.2.2.1, .int v0.2.2.2.2.2.2.2.2.2.2.1, .int v0.2.2.2.2.2.2.2.2.2.2.2.1, .int v0.2.2.2.2.2.2.2.2.2.2.2.2.1, .int v0.2.2.2.2.2.2.2.2.2.2.2.2.2])), (a1, .inr (7, [.ref a2, .ref a3, .ref a4, .ref a5, .int v0.1.2.2.2.2])), (a2, .inl (ca 0, 9, .inl v0.1.1)), (a3, .inl (ca 0, 4, .inl v0.1.2.1)), (a4, .inl (ca 0, 4, .inl v0.1.2.2.1)), (a5, .inl (ca 0, 4, .inl v0.1.2.2.2.1)), (a6, .inr (2, [.ref a7, .int v0.2.1.2.1, .int v0.2.1.2.2.1, .int v0.2.1.2.2.2.1, .int v0.2.1.2.2.2.2])), (a8, .inr (8, [.int v0.2.2.1.1, .int v0.2.2.1.2.1, .int v0.2.2.1.2.2])), (a9, .inr (1, [.int v0.2.2.2.1.1, .int v0.2.2.2.1.2.1, .int v0.2.2.2.1.2.2.1, .int v0.2.2.2.1.2.2.2.1, .int v0.2.2.2.1.2.2.2.2.1, .int v0.2.2.2.1.2.2.2.2.2])), (a10, .inr (3, [.ref a11, .int v0.2.2.2.2.1.2.1, .int v0.2.2.2.2.1.2.2.1, .int v0.2.2.2.2.1.2.2.2.1, .int v0.2.2.2.2.1.2.2.2.2.1, .int v0.2.2.2.2.1.2.2.2.2.2.1, .int v0.2.2.2.2.1.2.2.2.2.2.2])), (a11, .inr (4, [.ref a12, .int v0.2.2.2.2.1.1.2.1, .int v0.2.2.2.2.1.1.2.2])), (a12, .inl (ca 0, 512, .inl v0.2.2.2.2.1.1.1)), (a13, .inr (4, [.ref a14, .int v0.2.2.2.2.2.1.2.1, .int v0.2.2.2.2.2.1.2.2])), (a14, .inl (ca 0, 512, .inl v0.2.2.2.2.2.1.1)), (a15, .inr (6, [.ref a16, .ref a17, .int v0.2.2.2.2.2.2.1.2.2])), (a16, .inl (ca 0, 15, .inl v0.2.2.2.2.2.2.1.1)), (a17, .inl (ca 0, 15, .inl v0.2.2.2.2.2.2.1.2.1))] sz) := by
  refine en (y := yX10_drawMany) (wsm := wq_X10_drawMany) (av := [.ref a0, .int p1]) (cc := cX10_drawMany) (maxL := 4) (ret := (some .int)) (Qf := fun A => QI D ca r [(a0, .inr (10, [.ref a1, .ref a6, .ref a8, .ref a9, .ref a10, .ref a13, .ref a15, .ref a18, .int v0'.2.2.2.2.2.2.2.2.1, .int v0'.2.2.2.2.2.2.2.2.2.1, .int v0'.2.2.2.2.2.2.2.2.2.2.1, .int v0'.2.2.2.2.2.2.2.2.2.2.2.1, .int v0'.2.2.2.2.2.2.2.2.2.2.2.2.1, .int v0'.2.2.2.2.2.2.2.2.2.2.2.2.2])), (a1, .inr (7, [.ref a2, .ref a3, .ref a4, .ref a5, .int v0'.1.2.2.2.2])), (a2, .inl (ca 0, 9, .inl v0'.1.1)), (a3, .inl (ca 0, 4, .inl v0'.1.2.1)), (a4, .inl (ca 0, 4, .inl v0'.1.2.2.1)), (a5, .inl (ca 0, 4, .inl v0'.1.2.2.2.1)), (a6, .inr (2, [.ref a7, .int v0'.2.1.2.1, .int v0'.2.1.2.2.1, .int v0'.2.1.2.2.2.1, .int v0'.2.1.2.2.2.2])), (a8, .inr (8, [.int v0'.2.2.1.1, .int v0'.2.2.1.2.1, .int v0'.2.2.1.2.2])), (a9, .inr (1, [.int v0'.2.2.2.1.1, .int v0'.2.2.2.1.2.1, .int v0'.2.2.2.1.2.2.1, .int v0'.2.2.2.1.2.2.2.1, .int v0'.2.2.2.1.2.2.2.2.1, .int v0'.2.2.2.1.2.2.2.2.2])), (a10, .inr (3, [.ref a11, .int v0'.2.2.2.2.1.2.1, .int v0'.2.2.2.2.1.2.2.1, .int v0'.2.2.2.2.1.2.2.2.1, .int v0'.2.2.2.2.1.2.2.2.2.1, .int v0'.2.2.2.2.1.2.2.2.2.2.1, .int v0'.2.2.2.2.1.2.2.2.2.2.2])), (a11, .inr (4, [.ref a12, .int v0'.2.2.2.2.1.1.2.1, .int v0'.2.2.2.2.1.1.2.2])), (a12, .inl (ca 0, 512, .inl v0'.2.2.2.2.1.1.1)), (a13, .inr (4, [.ref a14, .int v0'.2.2.2.2.2.1.2.1, .int v0'.2.2.2.2.2.1.2.2])), (a14, .inl (ca 0, 512, .inl v0'.2.2.2.2.2.1.1)), (a15, .inr (6, [.ref a16, .ref a17, .int v0'.2.2.2.2.2.2.1.2.2])), (a16, .inl (ca 0, 15, .inl v0'.2.2.2.2.2.2.1.1)), (a17, .inl (ca 0, 15, .inl v0'.2.2.2.2.2.2.1.2.1))] A) (by decide) rfl (Nat.le_of_ble_eq_true rfl) ?_
  intro p e s m args below meth c A Q ls hx hb hr hml hown hts hlocks hnm hA hN hZ hK hQ hP hD hS hl
  have w0 := hts _ (List.mem_cons_of_mem _ gw_2_75)
  have w1 := hts _ (List.mem_cons_of_mem _ gw_2_71)
  have i10 : ∀ w ∈ u_ws RX10 TX10 14, w ∈ wq_X10_drawMany := fun w h => List.mem_cons_of_mem _ (inX10 w h)
  have bl4 : ∀ (k4 : V10 → Int32 → Int32 → Int32 → Option (Int32 × V10)) (q4 : ∀ (v0 : V10) (x1 : Int32) (x2 : Int32) (x3 : Int32), k4 v0 x1 x2 x3 = some (r, v0') → ∀ (H : Heap) (locs : List Loc) (ls : Array Slot), va_P D vwCl [(a0, .inr (10, [.ref a1, .ref a6, .ref a8, .ref a9, .ref a10, .ref a13, .ref a15, .ref a18, .int v0.2.2.2.2.2.2.2.2.1, .int v0.2.2.2.2.2.2.2.2.2.1, .int v0.2.2.2.2.2.2.2.2.2.2.1, .int v0.2.2.2.2.2.2.2.2.2.2.2.1, .int v0.2.2.2.2.2.2.2.2.2.2.2.2.1, .int v0.2.2.2.2.2.2.2.2.2.2.2.2.2])), (a1, .inr (7, [.ref a2, .ref a3, .ref a4, .ref a5, .int v0.1.2.2.2.2])), (a2, .inl (ca 0, 9, .inl v0.1.1)), (a3, .inl (ca 0, 4, .inl v0.1.2.1)), (a4, .inl (ca 0, 4, .inl v0.1.2.2.1)), (a5, .inl (ca 0, 4, .inl v0.1.2.2.2.1)), (a6, .inr (2, [.ref a7, .int v0.2.1.2.1, .int v0.2.1.2.2.1, .int v0.2.1.2.2.2.1, .int v0.2.1.2.2.2.2])), (a8, .inr (8, [.int v0.2.2.1.1, .int v0.2.2.1.2.1, .int v0.2.2.1.2.2])), (a9, .inr (1, [.int v0.2.2.2.1.1, .int v0.2.2.2.1.2.1, .int v0.2.2.2.1.2.2.1, .int v0.2.2.2.1.2.2.2.1, .int v0.2.2.2.1.2.2.2.2.1, .int v0.2.2.2.1.2.2.2.2.2])), (a10, .inr (3, [.ref a11, .int v0.2.2.2.2.1.2.1, .int v0.2.2.2.2.1.2.2.1, .int v0.2.2.2.2.1.2.2.2.1, .int v0.2.2.2.2.1.2.2.2.2.1, .int v0.2.2.2.2.1.2.2.2.2.2.1, .int v0.2.2.2.2.1.2.2.2.2.2.2])), (a11, .inr (4, [.ref a12, .int v0.2.2.2.2.1.1.2.1, .int v0.2.2.2.2.1.1.2.2])), (a12, .inl (ca 0, 512, .inl v0.2.2.2.2.1.1.1)), (a13, .inr (4, [.ref a14, .int v0.2.2.2.2.2.1.2.1, .int v0.2.2.2.2.2.1.2.2])), (a14, .inl (ca 0, 512, .inl v0.2.2.2.2.2.1.1)), (a15, .inr (6, [.ref a16, .ref a17, .int v0.2.2.2.2.2.2.1.2.2])), (a16, .inl (ca 0, 15, .inl v0.2.2.2.2.2.2.1.1)), (a17, .inl (ca 0, 15, .inl v0.2.2.2.2.2.2.1.2.1))] H → va_D A [(a0, .inr (10, [.ref a1, .ref a6, .ref a8, .ref a9, .ref a10, .ref a13, .ref a15, .ref a18, .int v0.2.2.2.2.2.2.2.2.1, .int v0.2.2.2.2.2.2.2.2.2.1, .int v0.2.2.2.2.2.2.2.2.2.2.1, .int v0.2.2.2.2.2.2.2.2.2.2.2.1, .int v0.2.2.2.2.2.2.2.2.2.2.2.2.1, .int v0.2.2.2.2.2.2.2.2.2.2.2.2.2])), (a1, .inr (7, [.ref a2, .ref a3, .ref a4, .ref a5, .int v0.1.2.2.2.2])), (a2, .inl (ca 0, 9, .inl v0.1.1)), (a3, .inl (ca 0, 4, .inl v0.1.2.1)), (a4, .inl (ca 0, 4, .inl v0.1.2.2.1)), (a5, .inl (ca 0, 4, .inl v0.1.2.2.2.1)), (a6, .inr (2, [.ref a7, .int v0.2.1.2.1, .int v0.2.1.2.2.1, .int v0.2.1.2.2.2.1, .int v0.2.1.2.2.2.2])), (a8, .inr (8, [.int v0.2.2.1.1, .int v0.2.2.1.2.1, .int v0.2.2.1.2.2])), (a9, .inr (1, [.int v0.2.2.2.1.1, .int v0.2.2.2.1.2.1, .int v0.2.2.2.1.2.2.1, .int v0.2.2.2.1.2.2.2.1, .int v0.2.2.2.1.2.2.2.2.1, .int v0.2.2.2.1.2.2.2.2.2])), (a10, .inr (3, [.ref a11, .int v0.2.2.2.2.1.2.1, .int v0.2.2.2.2.1.2.2.1, .int v0.2.2.2.2.1.2.2.2.1, .int v0.2.2.2.2.1.2.2.2.2.1, .int v0.2.2.2.2.1.2.2.2.2.2.1, .int v0.2.2.2.2.1.2.2.2.2.2.2])), (a11, .inr (4, [.ref a12, .int v0.2.2.2.2.1.1.2.1, .int v0.2.2.2.2.1.1.2.2])), (a12, .inl (ca 0, 512, .inl v0.2.2.2.2.1.1.1)), (a13, .inr (4, [.ref a14, .int v0.2.2.2.2.2.1.2.1, .int v0.2.2.2.2.2.1.2.2])), (a14, .inl (ca 0, 512, .inl v0.2.2.2.2.2.1.1)), (a15, .inr (6, [.ref a16, .ref a17, .int v0.2.2.2.2.2.2.1.2.2])), (a16, .inl (ca 0, 15, .inl v0.2.2.2.2.2.2.1.1)), (a17, .inl (ca 0, 15, .inl v0.2.2.2.2.2.2.1.2.1))] → va_S A s.heap H locs → lv_has ls 4 [(0, .ref a0), (1, .int x1), (2, .int x2), (3, .int x3)] → W p l e ({ frames := 5, cells := 0, slots := 0, locals := 106 } : Room) s m args below meth c H locs 0 0 Q (F0 m 4 ls [])) (v0 : V10) (x1 : Int32) (x2 : Int32) (x3 : Int32), fl_X10_drawMany_4 k4 v0 x1 x2 x3 = some (r, v0') → ∀ (H : Heap) (locs : List Loc) (ls : Array Slot), va_P D vwCl [(a0, .inr (10, [.ref a1, .ref a6, .ref a8, .ref a9, .ref a10, .ref a13, .ref a15, .ref a18, .int v0.2.2.2.2.2.2.2.2.1, .int v0.2.2.2.2.2.2.2.2.2.1, .int v0.2.2.2.2.2.2.2.2.2.2.1, .int v0.2.2.2.2.2.2.2.2.2.2.2.1, .int v0.2.2.2.2.2.2.2.2.2.2.2.2.1, .int v0.2.2.2.2.2.2.2.2.2.2.2.2.2])), (a1, .inr (7, [.ref a2, .ref a3, .ref a4, .ref a5, .int v0.1.2.2.2.2])), (a2, .inl (ca 0, 9, .inl v0.1.1)), (a3, .inl (ca 0, 4, .inl v0.1.2.1)), (a4, .inl (ca 0, 4, .inl v0.1.2.2.1)), (a5, .inl (ca 0, 4, .inl v0.1.2.2.2.1)), (a6, .inr (2, [.ref a7, .int v0.2.1.2.1, .int v0.2.1.2.2.1, .int v0.2.1.2.2.2.1, .int v0.2.1.2.2.2.2])), (a8, .inr (8, [.int v0.2.2.1.1, .int v0.2.2.1.2.1, .int v0.2.2.1.2.2])), (a9, .inr (1, [.int v0.2.2.2.1.1, .int v0.2.2.2.1.2.1, .int v0.2.2.2.1.2.2.1, .int v0.2.2.2.1.2.2.2.1, .int v0.2.2.2.1.2.2.2.2.1, .int v0.2.2.2.1.2.2.2.2.2])), (a10, .inr (3, [.ref a11, .int v0.2.2.2.2.1.2.1, .int v0.2.2.2.2.1.2.2.1, .int v0.2.2.2.2.1.2.2.2.1, .int v0.2.2.2.2.1.2.2.2.2.1, .int v0.2.2.2.2.1.2.2.2.2.2.1, .int v0.2.2.2.2.1.2.2.2.2.2.2])), (a11, .inr (4, [.ref a12, .int v0.2.2.2.2.1.1.2.1, .int v0.2.2.2.2.1.1.2.2])), (a12, .inl (ca 0, 512, .inl v0.2.2.2.2.1.1.1)), (a13, .inr (4, [.ref a14, .int v0.2.2.2.2.2.1.2.1, .int v0.2.2.2.2.2.1.2.2])), (a14, .inl (ca 0, 512, .inl v0.2.2.2.2.2.1.1)), (a15, .inr (6, [.ref a16, .ref a17, .int v0.2.2.2.2.2.2.1.2.2])), (a16, .inl (ca 0, 15, .inl v0.2.2.2.2.2.2.1.1)), (a17, .inl (ca 0, 15, .inl v0.2.2.2.2.2.2.1.2.1))] H → va_D A [(a0, .inr (10, [.ref a1, .ref a6, .ref a8, .ref a9, .ref a10, .ref a13, .ref a15, .ref a18, .int v0.2.2.2.2.2.2.2.2.1, .int v0.2.2.2.2.2.2.2.2.2.1, .int v0.2.2.2.2.2.2.2.2.2.2.1, .int v0.2.2.2.2.2.2.2.2.2.2.2.1, .int v0.2.2.2.2.2.2.2.2.2.2.2.2.1, .int v0.2.2.2.2.2.2.2.2.2.2.2.2.2])), (a1, .inr (7, [.ref a2, .ref a3, .ref a4, .ref a5, .int v0.1.2.2.2.2])), (a2, .inl (ca 0, 9, .inl v0.1.1)), (a3, .inl (ca 0, 4, .inl v0.1.2.1)), (a4, .inl (ca 0, 4, .inl v0.1.2.2.1)), (a5, .inl (ca 0, 4, .inl v0.1.2.2.2.1)), (a6, .inr (2, [.ref a7, .int v0.2.1.2.1, .int v0.2.1.2.2.1, .int v0.2.1.2.2.2.1, .int v0.2.1.2.2.2.2])), (a8, .inr (8, [.int v0.2.2.1.1, .int v0.2.2.1.2.1, .int v0.2.2.1.2.2])), (a9, .inr (1, [.int v0.2.2.2.1.1, .int v0.2.2.2.1.2.1, .int v0.2.2.2.1.2.2.1, .int v0.2.2.2.1.2.2.2.1, .int v0.2.2.2.1.2.2.2.2.1, .int v0.2.2.2.1.2.2.2.2.2])), (a10, .inr (3, [.ref a11, .int v0.2.2.2.2.1.2.1, .int v0.2.2.2.2.1.2.2.1, .int v0.2.2.2.2.1.2.2.2.1, .int v0.2.2.2.2.1.2.2.2.2.1, .int v0.2.2.2.2.1.2.2.2.2.2.1, .int v0.2.2.2.2.1.2.2.2.2.2.2])), (a11, .inr (4, [.ref a12, .int v0.2.2.2.2.1.1.2.1, .int v0.2.2.2.2.1.1.2.2])), (a12, .inl (ca 0, 512, .inl v0.2.2.2.2.1.1.1)), (a13, .inr (4, [.ref a14, .int v0.2.2.2.2.2.1.2.1, .int v0.2.2.2.2.2.1.2.2])), (a14, .inl (ca 0, 512, .inl v0.2.2.2.2.2.1.1)), (a15, .inr (6, [.ref a16, .ref a17, .int v0.2.2.2.2.2.2.1.2.2])), (a16, .inl (ca 0, 15, .inl v0.2.2.2.2.2.2.1.1)), (a17, .inl (ca 0, 15, .inl v0.2.2.2.2.2.2.1.2.1))] → va_S A s.heap H locs → lv_has ls 4 [(0, .ref a0), (1, .int x1), (2, .int x2), (3, .int x3)] → W p l e ({ frames := 5, cells := 0, slots := 0, locals := 106 } : Room) s m args below meth c H locs 0 0 Q (F0 m 4 ls []) := by
    intro k4 q4 v0 x1 x2 x3 hf H locs ls hP hD hS hl
    unfold fl_X10_drawMany_4 at hf
    refine lv_iload_n hx hb dX10_drawMany_4 rfl (lv_at hl 3 rfl) ?_
    refine lv_iload_n hx hb dX10_drawMany_5 rfl (lv_at hl 1 rfl) ?_
    refine xc_ge (tgt := 36) hx hb dX10_drawMany_6 (by decide) hf (fun hf => ?_) (fun hf => ?_)
    · refine lv_iload_n hx hb dX10_drawMany_36 rfl (lv_at hl 2 rfl) ?_
      cases hf
      exact rt_I hx hb hr hlocks hK hP hD hS hQ rfl rfl dX10_drawMany_37
    · refine lv_aload_n hx hb dX10_drawMany_9 rfl (lv_at hl 0 rfl) ?_
      refine lv_aload_n hx hb dX10_drawMany_10 rfl (lv_at hl 0 rfl) ?_
      refine va_get (C := RX10) (T := TX10) (N := 14) hx hb hts i10 hown hK hP 0 rfl rfl 2 (Nat.le_of_ble_eq_true rfl) w0 (fun _ h9 => h9) rfl dX10_drawMany_11 ?_
      refine lv_aload_n hx hb dX10_drawMany_14 rfl (lv_at hl 0 rfl) ?_
      refine va_get (C := RX10) (T := TX10) (N := 14) hx hb hts i10 hown hK hP 0 rfl rfl 0 (Nat.le_of_ble_eq_true rfl) w1 (fun _ h9 => h9) rfl dX10_drawMany_15 ?_
      obtain ⟨r_1, u_2, hc2, hf⟩ := bnd2_el hf
      refine xV_I (As := [.ref a1]) (wx := [(a0, .inr (10, [.ref a1, .ref a6, .ref a8, .ref a9, .ref a10, .ref a13, .ref a15, .ref a18, .int v0.2.2.2.2.2.2.2.2.1, .int v0.2.2.2.2.2.2.2.2.2.1, .int v0.2.2.2.2.2.2.2.2.2.2.1, .int v0.2.2.2.2.2.2.2.2.2.2.2.1, .int v0.2.2.2.2.2.2.2.2.2.2.2.2.1, .int v0.2.2.2.2.2.2.2.2.2.2.2.2.2])), (a1, .inr (7, [.ref a2, .ref a3, .ref a4, .ref a5, .int v0.1.2.2.2.2])), (a2, .inl (ca 0, 9, .inl v0.1.1)), (a3, .inl (ca 0, 4, .inl v0.1.2.1)), (a4, .inl (ca 0, 4, .inl v0.1.2.2.1)), (a5, .inl (ca 0, 4, .inl v0.1.2.2.2.1)), (a6, .inr (2, [.ref a7, .int v0.2.1.2.1, .int v0.2.1.2.2.1, .int v0.2.1.2.2.2.1, .int v0.2.1.2.2.2.2])), (a8, .inr (8, [.int u_2.1, .int u_2.2.1, .int u_2.2.2])), (a9, .inr (1, [.int v0.2.2.2.1.1, .int v0.2.2.2.1.2.1, .int v0.2.2.2.1.2.2.1, .int v0.2.2.2.1.2.2.2.1, .int v0.2.2.2.1.2.2.2.2.1, .int v0.2.2.2.1.2.2.2.2.2])), (a10, .inr (3, [.ref a11, .int v0.2.2.2.2.1.2.1, .int v0.2.2.2.2.1.2.2.1, .int v0.2.2.2.2.1.2.2.2.1, .int v0.2.2.2.2.1.2.2.2.2.1, .int v0.2.2.2.2.1.2.2.2.2.2.1, .int v0.2.2.2.2.1.2.2.2.2.2.2])), (a11, .inr (4, [.ref a12, .int v0.2.2.2.2.1.1.2.1, .int v0.2.2.2.2.1.1.2.2])), (a12, .inl (ca 0, 512, .inl v0.2.2.2.2.1.1.1)), (a13, .inr (4, [.ref a14, .int v0.2.2.2.2.2.1.2.1, .int v0.2.2.2.2.2.1.2.2])), (a14, .inl (ca 0, 512, .inl v0.2.2.2.2.2.1.1)), (a15, .inr (6, [.ref a16, .ref a17, .int v0.2.2.2.2.2.2.1.2.2])), (a16, .inl (ca 0, 15, .inl v0.2.2.2.2.2.2.1.1)), (a17, .inl (ca 0, 15, .inl v0.2.2.2.2.2.2.1.2.1))]) ⟨hx, hb, hml, hown, hts⟩ (c_X8_next l D ca zz a8 a1 a2 a3 a4 a5 _ v0.2.2.1 v0.1 r_1 u_2 hc2) (cwV 1 hts (gV gw_3_166 gw_3_167 gw_3_168 gw_1_5 gw_3_169) rfl rfl rfl (by decide +kernel) ⟨(Nat.le_of_ble_eq_true rfl), (Nat.le_of_ble_eq_true rfl)⟩) hK hN hZ hA hP hD hS [7, 1, 2, 3, 4, 5] rfl rfl rfl rfl 7 rfl rfl hl.1 rfl (Nat.le_of_ble_eq_true rfl) dX10_drawMany_18 ⟨Nat.zero_le _, Nat.zero_le _⟩ rfl (fun H locs hP hD hS => ?_)
      obtain ⟨r_3, u_4, hc4, hf⟩ := bnd2_el hf
      refine xV_I (As := [.int r_1]) (wx := [(a0, .inr (10, [.ref a1, .ref a6, .ref a8, .ref a9, .ref a10, .ref a13, .ref a15, .ref a18, .int u_4.2.2.2.2.2.2.2.2.1, .int u_4.2.2.2.2.2.2.2.2.2.1, .int u_4.2.2.2.2.2.2.2.2.2.2.1, .int u_4.2.2.2.2.2.2.2.2.2.2.2.1, .int u_4.2.2.2.2.2.2.2.2.2.2.2.2.1, .int u_4.2.2.2.2.2.2.2.2.2.2.2.2.2])), (a1, .inr (7, [.ref a2, .ref a3, .ref a4, .ref a5, .int u_4.1.2.2.2.2])), (a2, .inl (ca 0, 9, .inl u_4.1.1)), (a3, .inl (ca 0, 4, .inl v0.1.2.1)), (a4, .inl (ca 0, 4, .inl v0.1.2.2.1)), (a5, .inl (ca 0, 4, .inl v0.1.2.2.2.1)), (a6, .inr (2, [.ref a7, .int u_4.2.1.2.1, .int u_4.2.1.2.2.1, .int u_4.2.1.2.2.2.1, .int u_4.2.1.2.2.2.2])), (a8, .inr (8, [.int u_2.1, .int u_2.2.1, .int u_2.2.2])), (a9, .inr (1, [.int u_4.2.2.2.1.1, .int u_4.2.2.2.1.2.1, .int u_4.2.2.2.1.2.2.1, .int u_4.2.2.2.1.2.2.2.1, .int u_4.2.2.2.1.2.2.2.2.1, .int u_4.2.2.2.1.2.2.2.2.2])), (a10, .inr (3, [.ref a11, .int u_4.2.2.2.2.1.2.1, .int u_4.2.2.2.2.1.2.2.1, .int u_4.2.2.2.2.1.2.2.2.1, .int u_4.2.2.2.2.1.2.2.2.2.1, .int u_4.2.2.2.2.1.2.2.2.2.2.1, .int u_4.2.2.2.2.1.2.2.2.2.2.2])), (a11, .inr (4, [.ref a12, .int u_4.2.2.2.2.1.1.2.1, .int u_4.2.2.2.2.1.1.2.2])), (a12, .inl (ca 0, 512, .inl u_4.2.2.2.2.1.1.1)), (a13, .inr (4, [.ref a14, .int u_4.2.2.2.2.2.1.2.1, .int u_4.2.2.2.2.2.1.2.2])), (a14, .inl (ca 0, 512, .inl u_4.2.2.2.2.2.1.1)), (a15, .inr (6, [.ref a16, .ref a17, .int u_4.2.2.2.2.2.2.1.2.2])), (a16, .inl (ca 0, 15, .inl u_4.2.2.2.2.2.2.1.1)), (a17, .inl (ca 0, 15, .inl u_4.2.2.2.2.2.2.1.2.1))]) ⟨hx, hb, hml, hown, hts⟩ (c_X10_hear l D ca zz a0 a1 a2 a3 a4 a5 a6 a7 a8 a9 a10 a11 a12 a13 a14 a15 a16 a17 a18 _ ((v0.1, v0.2.1, u_2, v0.2.2.2)) r_1 r_3 u_4 hc4) (cwV 1 hts (gV gw_3_180 gw_3_181 gw_3_182 gw_1_2 gw_3_183) rfl rfl rfl (by decide +kernel) ⟨(Nat.le_of_ble_eq_true rfl), (Nat.le_of_ble_eq_true rfl)⟩) hK hN hZ hA hP hD hS [0, 1, 2, 6, 8, 9, 10, 11, 12, 13, 14, 15, 16] rfl rfl rfl rfl 0 rfl rfl hl.1 rfl (Nat.le_of_ble_eq_true rfl) dX10_drawMany_21 ⟨Nat.zero_le _, Nat.zero_le _⟩ rfl (fun H locs hP hD hS => ?_)
      refine xi_eq (tgt := 30) hx hb dX10_drawMany_24 (by decide) hf (fun hf => ?_) (fun hf => ?_)
      · obtain ⟨x_5, ex_5, hf⟩ := bnd_el hf
        refine lv_iinc (v := x_5) (lv' := [(3, .int x_5), (0, .ref a0), (1, .int x1), (2, .int x2)]) hx hb dX10_drawMany_30 hl (k := 3) rfl (by rw [ex_5]; rfl) (Nat.le_of_ble_eq_true rfl) rfl (fun ls hl => ?_)
        refine lv_goto (tgt := 4) hx hb dX10_drawMany_33 (by decide) ?_
        exact q4 (((u_4.1.1, v0.1.2.1, v0.1.2.2.1, v0.1.2.2.2.1, u_4.1.2.2.2.2), (v0.2.1.1, u_4.2.1.2), u_2, u_4.2.2.2.1, u_4.2.2.2.2.1, u_4.2.2.2.2.2.1, u_4.2.2.2.2.2.2.1, v0.2.2.2.2.2.2.2.1, u_4.2.2.2.2.2.2.2.2)) x1 x2 x_5 hf _ _ _ hP hD hS (lv_sub hl [1, 2, 3, 0] rfl)
      · obtain ⟨x_6, ex_6, hf⟩ := bnd_el hf
        refine lv_iinc (v := x_6) (lv' := [(2, .int x_6), (0, .ref a0), (1, .int x1), (3, .int x3)]) hx hb dX10_drawMany_27 hl (k := 2) rfl (by rw [ex_6]; rfl) (Nat.le_of_ble_eq_true rfl) rfl (fun ls hl => ?_)
        obtain ⟨x_7, ex_7, hf⟩ := bnd_el hf
        refine lv_iinc (v := x_7) (lv' := [(3, .int x_7), (2, .int x_6), (0, .ref a0), (1, .int x1)]) hx hb dX10_drawMany_30 hl (k := 3) rfl (by rw [ex_7]; rfl) (Nat.le_of_ble_eq_true rfl) rfl (fun ls hl => ?_)
        refine lv_goto (tgt := 4) hx hb dX10_drawMany_33 (by decide) ?_
        exact q4 (((u_4.1.1, v0.1.2.1, v0.1.2.2.1, v0.1.2.2.2.1, u_4.1.2.2.2.2), (v0.2.1.1, u_4.2.1.2), u_2, u_4.2.2.2.1, u_4.2.2.2.2.1, u_4.2.2.2.2.2.1, u_4.2.2.2.2.2.2.1, v0.2.2.2.2.2.2.2.1, u_4.2.2.2.2.2.2.2.2)) x1 x_6 x_7 hf _ _ _ hP hD hS (lv_sub hl [2, 3, 1, 0] rfl)
  have b4 : ∀ (n : Nat) (v0 : V10) (x1 : Int32) (x2 : Int32) (x3 : Int32), fb_X10_drawMany_4 n v0 x1 x2 x3 = some (r, v0') → ∀ (H : Heap) (locs : List Loc) (ls : Array Slot), va_P D vwCl [(a0, .inr (10, [.ref a1, .ref a6, .ref a8, .ref a9, .ref a10, .ref a13, .ref a15, .ref a18, .int v0.2.2.2.2.2.2.2.2.1, .int v0.2.2.2.2.2.2.2.2.2.1, .int v0.2.2.2.2.2.2.2.2.2.2.1, .int v0.2.2.2.2.2.2.2.2.2.2.2.1, .int v0.2.2.2.2.2.2.2.2.2.2.2.2.1, .int v0.2.2.2.2.2.2.2.2.2.2.2.2.2])), (a1, .inr (7, [.ref a2, .ref a3, .ref a4, .ref a5, .int v0.1.2.2.2.2])), (a2, .inl (ca 0, 9, .inl v0.1.1)), (a3, .inl (ca 0, 4, .inl v0.1.2.1)), (a4, .inl (ca 0, 4, .inl v0.1.2.2.1)), (a5, .inl (ca 0, 4, .inl v0.1.2.2.2.1)), (a6, .inr (2, [.ref a7, .int v0.2.1.2.1, .int v0.2.1.2.2.1, .int v0.2.1.2.2.2.1, .int v0.2.1.2.2.2.2])), (a8, .inr (8, [.int v0.2.2.1.1, .int v0.2.2.1.2.1, .int v0.2.2.1.2.2])), (a9, .inr (1, [.int v0.2.2.2.1.1, .int v0.2.2.2.1.2.1, .int v0.2.2.2.1.2.2.1, .int v0.2.2.2.1.2.2.2.1, .int v0.2.2.2.1.2.2.2.2.1, .int v0.2.2.2.1.2.2.2.2.2])), (a10, .inr (3, [.ref a11, .int v0.2.2.2.2.1.2.1, .int v0.2.2.2.2.1.2.2.1, .int v0.2.2.2.2.1.2.2.2.1, .int v0.2.2.2.2.1.2.2.2.2.1, .int v0.2.2.2.2.1.2.2.2.2.2.1, .int v0.2.2.2.2.1.2.2.2.2.2.2])), (a11, .inr (4, [.ref a12, .int v0.2.2.2.2.1.1.2.1, .int v0.2.2.2.2.1.1.2.2])), (a12, .inl (ca 0, 512, .inl v0.2.2.2.2.1.1.1)), (a13, .inr (4, [.ref a14, .int v0.2.2.2.2.2.1.2.1, .int v0.2.2.2.2.2.1.2.2])), (a14, .inl (ca 0, 512, .inl v0.2.2.2.2.2.1.1)), (a15, .inr (6, [.ref a16, .ref a17, .int v0.2.2.2.2.2.2.1.2.2])), (a16, .inl (ca 0, 15, .inl v0.2.2.2.2.2.2.1.1)), (a17, .inl (ca 0, 15, .inl v0.2.2.2.2.2.2.1.2.1))] H → va_D A [(a0, .inr (10, [.ref a1, .ref a6, .ref a8, .ref a9, .ref a10, .ref a13, .ref a15, .ref a18, .int v0.2.2.2.2.2.2.2.2.1, .int v0.2.2.2.2.2.2.2.2.2.1, .int v0.2.2.2.2.2.2.2.2.2.2.1, .int v0.2.2.2.2.2.2.2.2.2.2.2.1, .int v0.2.2.2.2.2.2.2.2.2.2.2.2.1, .int v0.2.2.2.2.2.2.2.2.2.2.2.2.2])), (a1, .inr (7, [.ref a2, .ref a3, .ref a4, .ref a5, .int v0.1.2.2.2.2])), (a2, .inl (ca 0, 9, .inl v0.1.1)), (a3, .inl (ca 0, 4, .inl v0.1.2.1)), (a4, .inl (ca 0, 4, .inl v0.1.2.2.1)), (a5, .inl (ca 0, 4, .inl v0.1.2.2.2.1)), (a6, .inr (2, [.ref a7, .int v0.2.1.2.1, .int v0.2.1.2.2.1, .int v0.2.1.2.2.2.1, .int v0.2.1.2.2.2.2])), (a8, .inr (8, [.int v0.2.2.1.1, .int v0.2.2.1.2.1, .int v0.2.2.1.2.2])), (a9, .inr (1, [.int v0.2.2.2.1.1, .int v0.2.2.2.1.2.1, .int v0.2.2.2.1.2.2.1, .int v0.2.2.2.1.2.2.2.1, .int v0.2.2.2.1.2.2.2.2.1, .int v0.2.2.2.1.2.2.2.2.2])), (a10, .inr (3, [.ref a11, .int v0.2.2.2.2.1.2.1, .int v0.2.2.2.2.1.2.2.1, .int v0.2.2.2.2.1.2.2.2.1, .int v0.2.2.2.2.1.2.2.2.2.1, .int v0.2.2.2.2.1.2.2.2.2.2.1, .int v0.2.2.2.2.1.2.2.2.2.2.2])), (a11, .inr (4, [.ref a12, .int v0.2.2.2.2.1.1.2.1, .int v0.2.2.2.2.1.1.2.2])), (a12, .inl (ca 0, 512, .inl v0.2.2.2.2.1.1.1)), (a13, .inr (4, [.ref a14, .int v0.2.2.2.2.2.1.2.1, .int v0.2.2.2.2.2.1.2.2])), (a14, .inl (ca 0, 512, .inl v0.2.2.2.2.2.1.1)), (a15, .inr (6, [.ref a16, .ref a17, .int v0.2.2.2.2.2.2.1.2.2])), (a16, .inl (ca 0, 15, .inl v0.2.2.2.2.2.2.1.1)), (a17, .inl (ca 0, 15, .inl v0.2.2.2.2.2.2.1.2.1))] → va_S A s.heap H locs → lv_has ls 4 [(0, .ref a0), (1, .int x1), (2, .int x2), (3, .int x3)] → W p l e ({ frames := 5, cells := 0, slots := 0, locals := 106 } : Room) s m args below meth c H locs 0 0 Q (F0 m 4 ls []) := by
    intro n
    induction n with
    | zero => intro v0 x1 x2 x3 hf; exact no_el hf
    | succ n ih => exact bl4 (fb_X10_drawMany_4 n) ih
  unfold f_X10_drawMany at hf
  refine lv_iconst (v := 0) hx hb dX10_drawMany_0 rfl ?_
  refine lv_istore_n (lv' := [(2, .int (0 : Int32)), (0, .ref a0), (1, .int p1)]) hx hb dX10_drawMany_1 rfl hl (Nat.le_of_ble_eq_true rfl) rfl (fun ls hl => ?_)
  refine lv_iconst (v := 0) hx hb dX10_drawMany_2 rfl ?_
  refine lv_istore_n (lv' := [(3, .int (0 : Int32)), (2, .int (0 : Int32)), (0, .ref a0), (1, .int p1)]) hx hb dX10_drawMany_3 rfl hl (Nat.le_of_ble_eq_true rfl) rfl (fun ls hl => ?_)
  exact b4 FU v0 p1 (0 : Int32) (0 : Int32) hf _ _ _ hP hD hS (lv_sub hl [2, 3, 1, 0] rfl)
abbrev wq_X11_draw : List Cond := Cond.code yX11_draw cX11_draw 2 (some .int) :: GL
set_option maxHeartbeats 4000000 in
set_option maxRecDepth 100000 in
theorem c_X11_draw (l : Launch) (D : va_G) (ca : Nat → ClassId) (zz : Nat → Nat) (a0 a1 a2 a3 a4 a5 a6 a7 a8 a9 a10 a11 a12 a13 a14 a15 a16 a17 a18 a19 a21 a41 a42 a49 a52 a54 a55 : Nat) (sz : Nat) (v0 : V11) (p1 : Int32) (r : Int32) (v0' : V11) (hf : f_X11_draw v0 p1 = some (r, v0')) : Met l yX11_draw wq_X11_draw ({ frames := 6, cells := 0, slots := 0, locals := 129 } : Room) (PR D ca zz [.ref a0, .int p1] sz [(a0, .inr (11, [.ref a1, .ref a21, .ref a41, .ref a42, .ref a49, .ref a52, .ref a54, .ref a55])), (a1, .inr (10, [.ref a2, .ref a7, .ref a9, .ref a10, .ref a11, .ref a14, .ref a16, .ref a19, .int v0.1.2.2.2.2.2.2.2.2.1, .int v0.1.2.2.2.2.2.2.2.2.2.1, .int v0.1.2.2.2.2.2.2.2.2.2.2.1, .int v0.1.2.2.2.2.2.2.2.2.2.2.2.1, .int v0.1.2.2.2.2.2.2.2.2.2.2.2.2.1, .int v0.1.2.2.2.2.2.2.2.2.2.2.2.2.2])), (a2, .inr (7, [.ref a3, .ref a4, .ref a5, .ref a6, .int v0.1.1.2.2.2.2])), (a3, .inl (ca 0, 9, .inl v0.1.1.1)), (a4, .inl (ca 0, 4, .inl v0.1.1.2.1)), (a5, .inl (ca 0, 4, .inl v0.1.1.2.2.1)), (a6, .inl (ca 0, 4, .inl v0.1.1.2.2.2.1)), (a7, .inr (2, [.ref a8, .int v0.1.2.1.2.1, .int v0.1.2.1.2.2.1, .int v0.1.2.1.2.2.2.1, .int v0.1.2.1.2.2.2.2])), (a9, .inr (8, [.int v0.1.2.2.1.1, .int v0.1.2.2.1.2.1, .int v0.1.2.2.1.2.2])), (a10, .inr (1, [.int v0.1.2.2.2.1.1, .int v0.1.2.2.2.1.2.1, .int v0.1.2.2.2.1.2.2.1, .int v0.1.2.2.2.1.2.2.2.1, .int v0.1.2.2.2.1.2.2.2.2.1, .int v0.1.2.2.2.1.2.2.2.2.2])), (a11, .inr (3, [.ref a12, .int v0.1.2.2.2.2.1.2.1, .int v0.1.2.2.2.2.1.2.2.1, .int v0.1.2.2.2.2.1.2.2.2.1, .int v0.1.2.2.2.2.1.2.2.2.2.1, .int v0.1.2.2.2.2.1.2.2.2.2.2.1, .int v0.1.2.2.2.2.1.2.2.2.2.2.2])), (a12, .inr (4, [.ref a13, .int v0.1.2.2.2.2.1.1.2.1, .int v0.1.2.2.2.2.1.1.2.2])), (a13, .inl (ca 0, 512, .inl v0.1.2.2.2.2.1.1.1)), (a14, .inr (4, [.ref a15, .int v0.1.2.2.2.2.2.1.2.1, .int v0.1.2.2.2.2.2.1.2.2])), (a15, .inl (ca 0, 512, .inl v0.1.2.2.2.2.2.1.1)), (a16, .inr (6, [.ref a17, .ref a18, .int v0.1.2.2.2.2.2.2.1.2.2])), (a17, .inl (ca 0, 15, .inl v0.1.2.2.2.2.2.2.1.1)), (a18, .inl (ca 0, 15, .inl v0.1.2.2.2.2.2.2.1.2.1))]) (QI D ca r [(a0, .inr (11, [.ref a1, .ref a21, .ref a41, .ref a42, .ref a49, .ref a52, .ref a54, .ref a55])), (a1, .inr (10, [.ref a2, .ref a7, .ref a9, .ref a10, .ref a11, .ref a14, .ref a16, .ref a19, .int v0'.1.2.2.2.2.2.2.2.2.1, .int v0'.1.2.2.2.2.2.2.2.2.2.1, .int v0'.1.2.2.2.2.2.2.2.2.2.2.1, .int v0'.1.2.2.2.2.2.2.2.2.2.2.2.1, .int v0'.1.2.2.2.2.2.2.2.2.2.2.2.2.1, .int v0'.1.2.2.2.2.2.2.2.2.2.2.2.2.2])), (a2, .inr (7, [.ref a3, .ref a4, .ref a5, .ref a6, .int v0'.1.1.2.2.2.2])), (a3, .inl (ca 0, 9, .inl v0'.1.1.1)), (a4, .inl (ca 0, 4, .inl v0'.1.1.2.1)), (a5, .inl (ca 0, 4, .inl v0'.1.1.2.2.1)), (a6, .inl (ca 0, 4, .inl v0'.1.1.2.2.2.1)), (a7, .inr (2, [.ref a8, .int v0'.1.2.1.2.1, .int v0'.1.2.1.2.2.1, .int v0'.1.2.1.2.2.2.1, .int v0'.1.2.1.2.2.2.2])), (a9, .inr (8, [.int v0'.1.2.2.1.1, .int v0'.1.2.2.1.2.1, .int v0'.1.2.2.1.2.2])), (a10, .inr (1, [.int v0'.1.2.2.2.1.1, .int v0'.1.2.2.2.1.2.1, .int v0'.1.2.2.2.1.2.2.1, .int v0'.1.2.2.2.1.2.2.2.1, .int v0'.1.2.2.2.1.2.2.2.2.1, .int v0'.1.2.2.2.1.2.2.2.2.2])), (a11, .inr (3, [.ref a12, .int v0'.1.2.2.2.2.1.2.1, .int v0'.1.2.2.2.2.1.2.2.1, .int v0'.1.2.2.2.2.1.2.2.2.1, .int v0'.1.2.2.2.2.1.2.2.2.2.1, .int v0'.1.2.2.2.2.1.2.2.2.2.2.1, .int v0'.1.2.2.2.2.1.2.2.2.2.2.2])), (a12, .inr (4, [.ref a13, .int v0'.1.2.2.2.2.1.1.2.1, .int v0'.1.2.2.2.2.1.1.2.2])), (a13, .inl (ca 0, 512, .inl v0'.1.2.2.2.2.1.1.1)), (a14, .inr (4, [.ref a15, .int v0'.1.2.2.2.2.2.1.2.1, .int v0'.1.2.2.2.2.2.1.2.2])), (a15, .inl (ca 0, 512, .inl v0'.1.2.2.2.2.2.1.1)), (a16, .inr (6, [.ref a17, .ref a18, .int v0'.1.2.2.2.2.2.2.1.2.2])), (a17, .inl (ca 0, 15, .inl v0'.1.2.2.2.2.2.2.1.1)), (a18, .inl (ca 0, 15, .inl v0'.1.2.2.2.2.2.2.1.2.1))] (va_A [(a0, .inr (11, [.ref a1, .ref a21, .ref a41, .ref a42, .ref a49, .ref a52, .ref a54, .ref a55])), (a1, .inr (10, [.ref a2, .ref a7, .ref a9, .ref a10, .ref a11, .ref a14, .ref a16, .ref a19, .int v0.1.2.2.2.2.2.2.2.2.1, .int v0.1.2.2.2.2.2.2.2.2.2.1, .int v0.1.2.2.2.2.2.2.2.2.2.2.1, .int v0.1.2.2.2.2.2.2.2.2.2.2.2.1, .int v0.1.2.2.2.2.2.2.2.2.2.2.2.2.1, .int v0.1.2.2.2.2.2.2.2.2.2.2.2.2.2])), (a2, .inr (7, [.ref a3, .ref a4, .ref a5, .ref a6, .int v0.1.1.2.2.2.2])), (a3, .inl (ca 0, 9, .inl v0.1.1.1)), (a4, .inl (ca 0, 4, .inl v0.1.1.2.1)), (a5, .inl (ca 0, 4, .inl v0.1.1.2.2.1)), (a6, .inl (ca 0, 4, .inl v0.1.1.2.2.2.1)), (a7, .inr (2, [.ref a8, .int v0.1.2.1.2.1, .int v0.1.2.1.2.2.1, .int v0.1.2.1.2.2.2.1, .int v0.1.2.1.2.2.2.2])), (a9, .inr (8, [.int v0.1.2.2.1.1, .int v0.1.2.2.1.2.1, .int v0.1.2.2.1.2.2])), (a10, .inr (1, [.int v0.1.2.2.2.1.1, .int v0.1.2.2.2.1.2.1, .int v0.1.2.2.2.1.2.2.1, .int v0.1.2.2.2.1.2.2.2.1, .int v0.1.2.2.2.1.2.2.2.2.1, .int v0.1.2.2.2.1.2.2.2.2.2])), (a11, .inr (3, [.ref a12, .int v0.1.2.2.2.2.1.2.1, .int v0.1.2.2.2.2.1.2.2.1, .int v0.1.2.2.2.2.1.2.2.2.1, .int v0.1.2.2.2.2.1.2.2.2.2.1, .int v0.1.2.2.2.2.1.2.2.2.2.2.1, .int v0.1.2.2.2.2.1.2.2.2.2.2.2])), (a12, .inr (4, [.ref a13, .int v0.1.2.2.2.2.1.1.2.1, .int v0.1.2.2.2.2.1.1.2.2])), (a13, .inl (ca 0, 512, .inl v0.1.2.2.2.2.1.1.1)), (a14, .inr (4, [.ref a15, .int v0.1.2.2.2.2.2.1.2.1, .int v0.1.2.2.2.2.2.1.2.2])), (a15, .inl (ca 0, 512, .inl v0.1.2.2.2.2.2.1.1)), (a16, .inr (6, [.ref a17, .ref a18, .int v0.1.2.2.2.2.2.2.1.2.2])), (a17, .inl (ca 0, 15, .inl v0.1.2.2.2.2.2.2.1.1)), (a18, .inl (ca 0, 15, .inl v0.1.2.2.2.2.2.2.1.2.1))] sz)) 0 0 (va_A [(a0, .inr (11, [.ref a1, .ref a21, .ref a41, .ref a42, .ref a49, .ref a52, .ref a54, .ref a55])), (a1, .inr (10, [.ref a2, .ref a7, .ref a9, .ref a10, .ref a11, .ref a14, .ref a16, .ref a19, .int v0.1.2.2.2.2.2.2.2.2.1, .int v0.1.2.2.2.2.2.2.2.2.2.1, .int v0.1.2.2.2.2.2.2.2.2.2.2.1, .int v0.1.2.2.2.2.2.2.2.2.2.2.2.1, .int v0.1.2.2.2.2.2.2.2.2.2.2.2.2.1, .int v0.1.2.2.2.2.2.2.2.2.2.2.2.2.2])), (a2, .inr (7, [.ref a3, .ref a4, .ref a5, .ref a6, .int v0.1.1.2.2.2.2])), (a3, .inl (ca 0, 9, .inl v0.1.1.1)), (a4, .inl (ca 0, 4, .inl v0.1.1.2.1)), (a5, .inl (ca 0, 4, .inl v0.1.1.2.2.1)), (a6, .inl (ca 0, 4, .inl v0.1.1.2.2.2.1)), (a7, .inr (2, [.ref a8, .int v0.1.2.1.2.1, .int v0.1.2.1.2.2.1, .int v0.1.2.1.2.2.2.1, .int v0.1.2.1.2.2.2.2])), (a9, .inr (8, [.int v0.1.2.2.1.1, .int v0.1.2.2.1.2.1, .int v0.1.2.2.1.2.2])), (a10, .inr (1, [.int v0.1.2.2.2.1.1, .int v0.1.2.2.2.1.2.1, .int v0.1.2.2.2.1.2.2.1, .int v0.1.2.2.2.1.2.2.2.1, .int v0.1.2.2.2.1.2.2.2.2.1, .int v0.1.2.2.2.1.2.2.2.2.2])), (a11, .inr (3, [.ref a12, .int v0.1.2.2.2.2.1.2.1, .int v0.1.2.2.2.2.1.2.2.1, .int v0.1.2.2.2.2.1.2.2.2.1, .int v0.1.2.2.2.2.1.2.2.2.2.1, .int v0.1.2.2.2.2.1.2.2.2.2.2.1, .int v0.1.2.2.2.2.1.2.2.2.2.2.2])), (a12, .inr (4, [.ref a13, .int v0.1.2.2.2.2.1.1.2.1, .int v0.1.2.2.2.2.1.1.2.2])), (a13, .inl (ca 0, 512, .inl v0.1.2.2.2.2.1.1.1)), (a14, .inr (4, [.ref a15, .int v0.1.2.2.2.2.2.1.2.1, .int v0.1.2.2.2.2.2.1.2.2])), (a15, .inl (ca 0, 512, .inl v0.1.2.2.2.2.2.1.1)), (a16, .inr (6, [.ref a17, .ref a18, .int v0.1.2.2.2.2.2.2.1.2.2])), (a17, .inl (ca 0, 15, .inl v0.1.2.2.2.2.2.2.1.1)), (a18, .inl (ca 0, 15, .inl v0.1.2.2.2.2.2.2.1.2.1))] sz) := by
  refine en (y := yX11_draw) (wsm := wq_X11_draw) (av := [.ref a0, .int p1]) (cc := cX11_draw) (maxL := 2) (ret := (some .int)) (Qf := fun A => QI D ca r [(a0, .inr (11, [.ref a1, .ref a21, .ref a41, .ref a42, .ref a49, .ref a52, .ref a54, .ref a55])), (a1, .inr (10, [.ref a2, .ref a7, .ref a9, .ref a10, .ref a11, .ref a14, .ref a16, .ref a19, .int v0'.1.2.2.2.2.2.2.2.2.1, .int v0'.1.2.2.2.2.2.2.2.2.2.1, .int v0'.1.2.2.2.2.2.2.2.2.2.2.1, .int v0'.1.2.2.2.2.2.2.2.2.2.2.2.1, .int v0'.1.2.2.2.2.2.2.2.2.2.2.2.2.1, .int v0'.1.2.2.2.2.2.2.2.2.2.2.2.2.2])), (a2, .inr (7, [.ref a3, .ref a4, .ref a5, .ref a6, .int v0'.1.1.2.2.2.2])), (a3, .inl (ca 0, 9, .inl v0'.1.1.1)), (a4, .inl (ca 0, 4, .inl v0'.1.1.2.1)), (a5, .inl (ca 0, 4, .inl v0'.1.1.2.2.1)), (a6, .inl (ca 0, 4, .inl v0'.1.1.2.2.2.1)), (a7, .inr (2, [.ref a8, .int v0'.1.2.1.2.1, .int v0'.1.2.1.2.2.1, .int v0'.1.2.1.2.2.2.1, .int v0'.1.2.1.2.2.2.2])), (a9, .inr (8, [.int v0'.1.2.2.1.1, .int v0'.1.2.2.1.2.1, .int v0'.1.2.2.1.2.2])), (a10, .inr (1, [.int v0'.1.2.2.2.1.1, .int v0'.1.2.2.2.1.2.1, .int v0'.1.2.2.2.1.2.2.1, .int v0'.1.2.2.2.1.2.2.2.1, .int v0'.1.2.2.2.1.2.2.2.2.1, .int v0'.1.2.2.2.1.2.2.2.2.2])), (a11, .inr (3, [.ref a12, .int v0'.1.2.2.2.2.1.2.1, .int v0'.1.2.2.2.2.1.2.2.1, .int v0'.1.2.2.2.2.1.2.2.2.1, .int v0'.1.2.2.2.2.1.2.2.2.2.1, .int v0'.1.2.2.2.2.1.2.2.2.2.2.1, .int v0'.1.2.2.2.2.1.2.2.2.2.2.2])), (a12, .inr (4, [.ref a13, .int v0'.1.2.2.2.2.1.1.2.1, .int v0'.1.2.2.2.2.1.1.2.2])), (a13, .inl (ca 0, 512, .inl v0'.1.2.2.2.2.1.1.1)), (a14, .inr (4, [.ref a15, .int v0'.1.2.2.2.2.2.1.2.1, .int v0'.1.2.2.2.2.2.1.2.2])), (a15, .inl (ca 0, 512, .inl v0'.1.2.2.2.2.2.1.1)), (a16, .inr (6, [.ref a17, .ref a18, .int v0'.1.2.2.2.2.2.2.1.2.2])), (a17, .inl (ca 0, 15, .inl v0'.1.2.2.2.2.2.2.1.1)), (a18, .inl (ca 0, 15, .inl v0'.1.2.2.2.2.2.2.1.2.1))] A) (by decide) rfl (Nat.le_of_ble_eq_true rfl) ?_
  intro p e s m args below meth c A Q ls hx hb hr hml hown hts hlocks hnm hA hN hZ hK hQ hP hD hS hl
  have w0 := hts _ (List.mem_cons_of_mem _ gw_2_187)
  have i11 : ∀ w ∈ u_ws RX11 TX11 8, w ∈ wq_X11_draw := fun w h => List.mem_cons_of_mem _ (inX11 w h)
  unfold f_X11_draw at hf
  refine lv_iload_n hx hb dX11_draw_0 rfl (lv_at hl 1 rfl) ?_
  refine lv_iconst (v := 1) hx hb dX11_draw_1 rfl ?_
  refine xc_lt (tgt := 12) hx hb dX11_draw_2 (by decide) hf (fun hf => ?_) (fun hf => ?_)
  · refine lv_iconst (v := -1) hx hb dX11_draw_12 rfl ?_
    refine lv_goto (tgt := 24) hx hb dX11_draw_13 (by decide) ?_
    cases hf
    exact rt_I hx hb hr hlocks hK hP hD hS hQ rfl rfl dX11_draw_24
  · refine lv_iload_n hx hb dX11_draw_5 rfl (lv_at hl 1 rfl) ?_
    refine lv_sipush (v := 400) hx hb dX11_draw_6 rfl ?_
    refine xc_le (tgt := 16) hx hb dX11_draw_9 (by decide) hf (fun hf => ?_) (fun hf => ?_)
    · refine lv_aload_n hx hb dX11_draw_16 rfl (lv_at hl 0 rfl) ?_
      refine va_get (C := RX11) (T := TX11) (N := 8) hx hb hts i11 hown hK hP 0 rfl rfl 0 (Nat.le_of_ble_eq_true rfl) w0 (fun _ h9 => h9) rfl dX11_draw_17 ?_
      refine lv_iload_n hx hb dX11_draw_20 rfl (lv_at hl 1 rfl) ?_
      obtain ⟨r_1, u_2, hc2, hf⟩ := bnd2_el hf
      refine xV_I (As := [.int p1]) (wx := [(a0, .inr (11, [.ref a1, .ref a21, .ref a41, .ref a42, .ref a49, .ref a52, .ref a54, .ref a55])), (a1, .inr (10, [.ref a2, .ref a7, .ref a9, .ref a10, .ref a11, .ref a14, .ref a16, .ref a19, .int u_2.2.2.2.2.2.2.2.2.1, .int u_2.2.2.2.2.2.2.2.2.2.1, .int u_2.2.2.2.2.2.2.2.2.2.2.1, .int u_2.2.2.2.2.2.2.2.2.2.2.2.1, .int u_2.2.2.2.2.2.2.2.2.2.2.2.2.1, .int u_2.2.2.2.2.2.2.2.2.2.2.2.2.2])), (a2, .inr (7, [.ref a3, .ref a4, .ref a5, .ref a6, .int u_2.1.2.2.2.2])), (a3, .inl (ca 0, 9, .inl u_2.1.1)), (a4, .inl (ca 0, 4, .inl u_2.1.2.1)), (a5, .inl (ca 0, 4, .inl u_2.1.2.2.1)), (a6, .inl (ca 0, 4, .inl u_2.1.2.2.2.1)), (a7, .inr (2, [.ref a8, .int u_2.2.1.2.1, .int u_2.2.1.2.2.1, .int u_2.2.1.2.2.2.1, .int u_2.2.1.2.2.2.2])), (a9, .inr (8, [.int u_2.2.2.1.1, .int u_2.2.2.1.2.1, .int u_2.2.2.1.2.2])), (a10, .inr (1, [.int u_2.2.2.2.1.1, .int u_2.2.2.2.1.2.1, .int u_2.2.2.2.1.2.2.1, .int u_2.2.2.2.1.2.2.2.1, .int u_2.2.2.2.1.2.2.2.2.1, .int u_2.2.2.2.1.2.2.2.2.2])), (a11, .inr (3, [.ref a12, .int u_2.2.2.2.2.1.2.1, .int u_2.2.2.2.2.1.2.2.1, .int u_2.2.2.2.2.1.2.2.2.1, .int u_2.2.2.2.2.1.2.2.2.2.1, .int u_2.2.2.2.2.1.2.2.2.2.2.1, .int u_2.2.2.2.2.1.2.2.2.2.2.2])), (a12, .inr (4, [.ref a13, .int u_2.2.2.2.2.1.1.2.1, .int u_2.2.2.2.2.1.1.2.2])), (a13, .inl (ca 0, 512, .inl u_2.2.2.2.2.1.1.1)), (a14, .inr (4, [.ref a15, .int u_2.2.2.2.2.2.1.2.1, .int u_2.2.2.2.2.2.1.2.2])), (a15, .inl (ca 0, 512, .inl u_2.2.2.2.2.2.1.1)), (a16, .inr (6, [.ref a17, .ref a18, .int u_2.2.2.2.2.2.2.1.2.2])), (a17, .inl (ca 0, 15, .inl u_2.2.2.2.2.2.2.1.1)), (a18, .inl (ca 0, 15, .inl u_2.2.2.2.2.2.2.1.2.1))]) ⟨hx, hb, hml, hown, hts⟩ (c_X10_drawMany l D ca zz a1 a2 a3 a4 a5 a6 a7 a8 a9 a10 a11 a12 a13 a14 a15 a16 a17 a18 a19 _ v0.1 p1 r_1 u_2 hc2) (cwV 1 hts (gV gw_3_162 gw_3_163 gw_3_164 gw_1_2 gw_3_165) rfl rfl rfl (by decide +kernel) ⟨(Nat.le_of_ble_eq_true rfl), (Nat.le_of_ble_eq_true rfl)⟩) hK hN hZ hA hP hD hS [1, 2, 3, 4, 5, 6, 7, 8, 9, 10, 11, 12, 13, 14, 15, 16, 17] rfl rfl rfl rfl 1 rfl rfl hl.1 rfl (Nat.le_of_ble_eq_true rfl) dX11_draw_21 ⟨Nat.zero_le _, Nat.zero_le _⟩ rfl (fun H locs hP hD hS => ?_)
      cases hf
      exact rt_I hx hb hr hlocks hK hP hD hS hQ rfl rfl dX11_draw_24
    · refine lv_iconst (v := -1) hx hb dX11_draw_12 rfl ?_
      refine lv_goto (tgt := 24) hx hb dX11_draw_13 (by decide) ?_
      cases hf
      exact rt_I hx hb hr hlocks hK hP hD hS hQ rfl rfl dX11_draw_24
abbrev wq_X11_hand : List Cond := Cond.code yX11_hand cX11_hand 5 (some .int) :: GL
set_option maxHeartbeats 4000000 in
set_option maxRecDepth 100000 in
theorem c_X11_hand (l : Launch) (D : va_G) (ca : Nat → ClassId) (zz : Nat → Nat) (a0 a1 a2 a3 a4 a5 a6 a7 a8 a9 a10 a11 a12 a13 a14 a15 a16 a17 a18 a19 a21 a41 a42 a49 a52 a54 a55 : Nat) (sz : Nat) (v0 : V11) (p1 : Int32) (p2 : Int32) (r : Int32) (v0' : V11) (hf : f_X11_hand v0 p1 p2 = some (r, v0')) : Met l yX11_hand wq_X11_hand ({ frames := 5, cells := 0, slots := 0, locals := 106 } : Room) (PR D ca zz [.ref a0, .int p1, .int p2] sz [(a0, .inr (11, [.ref a1, .ref a21, .ref a41, .ref a42, .ref a49, .ref a52, .ref a54, .ref a55])), (a1, .inr (10, [.ref a2, .ref a7, .ref a9, .ref a10, .ref a11, .ref a14, .ref a16, .ref a19, .int v0.1.2.2.2.2.2.2.2.2.1, .int v0.1.2.2.2.2.2.2.2.2.2.1, .int v0.1.2.2.2.2.2.2.2.2.2.2.1, .int v0.1.2.2.2.2.2.2.2.2.2.2.2.1, .int v0.1.2.2.2.2.2.2.2.2.2.2.2.2.1, .int v0.1.2.2.2.2.2.2.2.2.2.2.2.2.2])), (a2, .inr (7, [.ref a3, .ref a4, .ref a5, .ref a6, .int v0.1.1.2.2.2.2])), (a3, .inl (ca 0, 9, .inl v0.1.1.1)), (a7, .inr (2, [.ref a8, .int v0.1.2.1.2.1, .int v0.1.2.1.2.2.1, .int v0.1.2.1.2.2.2.1, .int v0.1.2.1.2.2.2.2])), (a10, .inr (1, [.int v0.1.2.2.2.1.1, .int v0.1.2.2.2.1.2.1, .int v0.1.2.2.2.1.2.2.1, .int v0.1.2.2.2.1.2.2.2.1, .int v0.1.2.2.2.1.2.2.2.2.1, .int v0.1.2.2.2.1.2.2.2.2.2])), (a11, .inr (3, [.ref a12, .int v0.1.2.2.2.2.1.2.1, .int v0.1.2.2.2.2.1.2.2.1, .int v0.1.2.2.2.2.1.2.2.2.1, .int v0.1.2.2.2.2.1.2.2.2.2.1, .int v0.1.2.2.2.2.1.2.2.2.2.2.1, .int v0.1.2.2.2.2.1.2.2.2.2.2.2])), (a12, .inr (4, [.ref a13, .int v0.1.2.2.2.2.1.1.2.1, .int v0.1.2.2.2.2.1.1.2.2])), (a13, .inl (ca 0, 512, .inl v0.1.2.2.2.2.1.1.1)), (a14, .inr (4, [.ref a15, .int v0.1.2.2.2.2.2.1.2.1, .int v0.1.2.2.2.2.2.1.2.2])), (a15, .inl (ca 0, 512, .inl v0.1.2.2.2.2.2.1.1)), (a16, .inr (6, [.ref a17, .ref a18, .int v0.1.2.2.2.2.2.2.1.2.2])), (a17, .inl (ca 0, 15, .inl v0.1.2.2.2.2.2.2.1.1)), (a18, .inl (ca 0, 15, .inl v0.1.2.2.2.2.2.2.1.2.1))]) (QI D ca r [(a0, .inr (11, [.ref a1, .ref a21, .ref a41, .ref a42, .ref a49, .ref a52, .ref a54, .ref a55])), (a1, .inr (10, [.ref a2, .ref a7, .ref a9, .ref a10, .ref a11, .ref a14, .ref a16, .ref a19, .int v0'.1.2.2.2.2.2.2.2.2.1, .int v0'.1.2.2.2.2.2.2.2.2.2.1, .int v0'.1.2.2.2.2.2.2.2.2.2.2.1, .int v0'.1.2.2.2.2.2.2.2.2.2.2.2.1, .int v0'.1.2.2.2.2.2.2.2.2.2.2.2.2.1, .int v0'.1.2.2.2.2.2.2.2.2.2.2.2.2.2])), (a2, .inr (7, [.ref a3, .ref a4, .ref a5, .ref a6, .int v0'.1.1.2.2.2.2])), (a3, .inl (ca 0, 9, .inl v0'.1.1.1)), (a7, .inr (2, [.ref a8, .int v0'.1.2.1.2.1, .int v0'.1.2.1.2.2.1, .int v0'.1.2.1.2.2.2.1, .int v0'.1.2.1.2.2.2.2])), (a10, .inr (1, [.int v0'.1.2.2.2.1.1, .int v0'.1.2.2.2.1.2.1, .int v0'.1.2.2.2.1.2.2.1, .int v0'.1.2.2.2.1.2.2.2.1, .int v0'.1.2.2.2.1.2.2.2.2.1, .int v0'.1.2.2.2.1.2.2.2.2.2])), (a11, .inr (3, [.ref a12, .int v0'.1.2.2.2.2.1.2.1, .int v0'.1.2.2.2.2.1.2.2.1, .int v0'.1.2.2.2.2.1.2.2.2.1, .int v0'.1.2.2.2.2.1.2.2.2.2.1, .int v0'.1.2.2.2.2.1.2.2.2.2.2.1, .int v0'.1.2.2.2.2.1.2.2.2.2.2.2])), (a12, .inr (4, [.ref a13, .int v0'.1.2.2.2.2.1.1.2.1, .int v0'.1.2.2.2.2.1.1.2.2])), (a13, .inl (ca 0, 512, .inl v0'.1.2.2.2.2.1.1.1)), (a14, .inr (4, [.ref a15, .int v0'.1.2.2.2.2.2.1.2.1, .int v0'.1.2.2.2.2.2.1.2.2])), (a15, .inl (ca 0, 512, .inl v0'.1.2.2.2.2.2.1.1)), (a16, .inr (6, [.ref a17, .ref a18, .int v0'.1.2.2.2.2.2.2.1.2.2])), (a17, .inl (ca 0, 15, .inl v0'.1.2.2.2.2.2.2.1.1)), (a18, .inl (ca 0, 15, .inl v0'.1.2.2.2.2.2.2.1.2.1))] (va_A [(a0, .inr (11, [.ref a1, .ref a21, .ref a41, .ref a42, .ref a49, .ref a52, .ref a54, .ref a55])), (a1, .inr (10, [.ref a2, .ref a7, .ref a9, .ref a10, .ref a11, .ref a14, .ref a16, .ref a19, .int v0.1.2.2.2.2.2.2.2.2.1, .int v0.1.2.2.2.2.2.2.2.2.2.1, .int v0.1.2.2.2.2.2.2.2.2.2.2.1, .int v0.1.2.2.2.2.2.2.2.2.2.2.2.1, .int v0.1.2.2.2.2.2.2.2.2.2.2.2.2.1, .int v0.1.2.2.2.2.2.2.2.2.2.2.2.2.2])), (a2, .inr (7, [.ref a3, .ref a4, .ref a5, .ref a6, .int v0.1.1.2.2.2.2])), (a3, .inl (ca 0, 9, .inl v0.1.1.1)), (a7, .inr (2, [.ref a8, .int v0.1.2.1.2.1, .int v0.1.2.1.2.2.1, .int v0.1.2.1.2.2.2.1, .int v0.1.2.1.2.2.2.2])), (a10, .inr (1, [.int v0.1.2.2.2.1.1, .int v0.1.2.2.2.1.2.1, .int v0.1.2.2.2.1.2.2.1, .int v0.1.2.2.2.1.2.2.2.1, .int v0.1.2.2.2.1.2.2.2.2.1, .int v0.1.2.2.2.1.2.2.2.2.2])), (a11, .inr (3, [.ref a12, .int v0.1.2.2.2.2.1.2.1, .int v0.1.2.2.2.2.1.2.2.1, .int v0.1.2.2.2.2.1.2.2.2.1, .int v0.1.2.2.2.2.1.2.2.2.2.1, .int v0.1.2.2.2.2.1.2.2.2.2.2.1, .int v0.1.2.2.2.2.1.2.2.2.2.2.2])), (a12, .inr (4, [.ref a13, .int v0.1.2.2.2.2.1.1.2.1, .int v0.1.2.2.2.2.1.1.2.2])), (a13, .inl (ca 0, 512, .inl v0.1.2.2.2.2.1.1.1)), (a14, .inr (4, [.ref a15, .int v0.1.2.2.2.2.2.1.2.1, .int v0.1.2.2.2.2.2.1.2.2])), (a15, .inl (ca 0, 512, .inl v0.1.2.2.2.2.2.1.1)), (a16, .inr (6, [.ref a17, .ref a18, .int v0.1.2.2.2.2.2.2.1.2.2])), (a17, .inl (ca 0, 15, .inl v0.1.2.2.2.2.2.2.1.1)), (a18, .inl (ca 0, 15, .inl v0.1.2.2.2.2.2.2.1.2.1))] sz)) 0 0 (va_A [(a0, .inr (11, [.ref a1, .ref a21, .ref a41, .ref a42, .ref a49, .ref a52, .ref a54, .ref a55])), (a1, .inr (10, [.ref a2, .ref a7, .ref a9, .ref a10, .ref a11, .ref a14, .ref a16, .ref a19, .int v0.1.2.2.2.2.2.2.2.2.1, .int v0.1.2.2.2.2.2.2.2.2.2.1, .int v0.1.2.2.2.2.2.2.2.2.2.2.1, .int v0.1.2.2.2.2.2.2.2.2.2.2.2.1, .int v0.1.2.2.2.2.2.2.2.2.2.2.2.2.1, .int v0.1.2.2.2.2.2.2.2.2.2.2.2.2.2])), (a2, .inr (7, [.ref a3, .ref a4, .ref a5, .ref a6, .int v0.1.1.2.2.2.2])), (a3, .inl (ca 0, 9, .inl v0.1.1.1)), (a7, .inr (2, [.ref a8, .int v0.1.2.1.2.1, .int v0.1.2.1.2.2.1, .int v0.1.2.1.2.2.2.1, .int v0.1.2.1.2.2.2.2])), (a10, .inr (1, [.int v0.1.2.2.2.1.1, .int v0.1.2.2.2.1.2.1, .int v0.1.2.2.2.1.2.2.1, .int v0.1.2.2.2.1.2.2.2.1, .int v0.1.2.2.2.1.2.2.2.2.1, .int v0.1.2.2.2.1.2.2.2.2.2])), (a11, .inr (3, [.ref a12, .int v0.1.2.2.2.2.1.2.1, .int v0.1.2.2.2.2.1.2.2.1, .int v0.1.2.2.2.2.1.2.2.2.1, .int v0.1.2.2.2.2.1.2.2.2.2.1, .int v0.1.2.2.2.2.1.2.2.2.2.2.1, .int v0.1.2.2.2.2.1.2.2.2.2.2.2])), (a12, .inr (4, [.ref a13, .int v0.1.2.2.2.2.1.1.2.1, .int v0.1.2.2.2.2.1.1.2.2])), (a13, .inl (ca 0, 512, .inl v0.1.2.2.2.2.1.1.1)), (a14, .inr (4, [.ref a15, .int v0.1.2.2.2.2.2.1.2.1, .int v0.1.2.2.2.2.2.1.2.2])), (a15, .inl (ca 0, 512, .inl v0.1.2.2.2.2.2.1.1)), (a16, .inr (6, [.ref a17, .ref a18, .int v0.1.2.2.2.2.2.2.1.2.2])), (a17, .inl (ca 0, 15, .inl v0.1.2.2.2.2.2.2.1.1)), (a18, .inl (ca 0, 15, .inl v0.1.2.2.2.2.2.2.1.2.1))] sz) := by
  refine en (y := yX11_hand) (wsm := wq_X11_hand) (av := [.ref a0, .int p1, .int p2]) (cc := cX11_hand) (maxL := 5) (ret := (some .int)) (Qf := fun A => QI D ca r [(a0, .inr (11, [.ref a1, .ref a21, .ref a41, .ref a42, .ref a49, .ref a52, .ref a54, .ref a55])), (a1, .inr (10, [.ref a2, .ref a7, .ref a9, .ref a10, .ref a11, .ref a14, .ref a16, .ref a19, .int v0'.1.2.2.2.2.2.2.2.2.1, .int v0'.1.2.2.2.2.2.2.2.2.2.1, .int v0'.1.2.2.2.2.2.2.2.2.2.2.1, .int v0'.1.2.2.2.2.2.2.2.2.2.2.2.1, .int v0'.1.2.2.2.2.2.2.2.2.2.2.2.2.1, .int v0'.1.2.2.2.2.2.2.2.2.2.2.2.2.2])), (a2, .inr (7, [.ref a3, .ref a4, .ref a5, .ref a6, .int v0'.1.1.2.2.2.2])), (a3, .inl (ca 0, 9, .inl v0'.1.1.1)), (a7, .inr (2, [.ref a8, .int v0'.1.2.1.2.1, .int v0'.1.2.1.2.2.1, .int v0'.1.2.1.2.2.2.1, .int v0'.1.2.1.2.2.2.2])), (a10, .inr (1, [.int v0'.1.2.2.2.1.1, .int v0'.1.2.2.2.1.2.1, .int v0'.1.2.2.2.1.2.2.1, .int v0'.1.2.2.2.1.2.2.2.1, .int v0'.1.2.2.2.1.2.2.2.2.1, .int v0'.1.2.2.2.1.2.2.2.2.2])), (a11, .inr (3, [.ref a12, .int v0'.1.2.2.2.2.1.2.1, .int v0'.1.2.2.2.2.1.2.2.1, .int v0'.1.2.2.2.2.1.2.2.2.1, .int v0'.1.2.2.2.2.1.2.2.2.2.1, .int v0'.1.2.2.2.2.1.2.2.2.2.2.1, .int v0'.1.2.2.2.2.1.2.2.2.2.2.2])), (a12, .inr (4, [.ref a13, .int v0'.1.2.2.2.2.1.1.2.1, .int v0'.1.2.2.2.2.1.1.2.2])), (a13, .inl (ca 0, 512, .inl v0'.1.2.2.2.2.1.1.1)), (a14, .inr (4, [.ref a15, .int v0'.1.2.2.2.2.2.1.2.1, .int v0'.1.2.2.2.2.2.1.2.2])), (a15, .inl (ca 0, 512, .inl v0'.1.2.2.2.2.2.1.1)), (a16, .inr (6, [.ref a17, .ref a18, .int v0'.1.2.2.2.2.2.2.1.2.2])), (a17, .inl (ca 0, 15, .inl v0'.1.2.2.2.2.2.2.1.1)), (a18, .inl (ca 0, 15, .inl v0'.1.2.2.2.2.2.2.1.2.1))] A) (by decide) rfl (Nat.le_of_ble_eq_true rfl) ?_
  intro p e s m args below meth c A Q ls hx hb hr hml hown hts hlocks hnm hA hN hZ hK hQ hP hD hS hl
  have w0 := hts _ (List.mem_cons_of_mem _ gw_2_187)
  have i11 : ∀ w ∈ u_ws RX11 TX11 8, w ∈ wq_X11_hand := fun w h => List.mem_cons_of_mem _ (inX11 w h)
  have bl20 : ∀ (k20 : V11 → Int32 → Int32 → Int32 → Option (Int32 × V11)) (q20 : ∀ (v0 : V11) (x1 : Int32) (x3 : Int32) (x4 : Int32), k20 v0 x1 x3 x4 = some (r, v0') → ∀ (H : Heap) (locs : List Loc) (ls : Array Slot), va_P D vwCl [(a0, .inr (11, [.ref a1, .ref a21, .ref a41, .ref a42, .ref a49, .ref a52, .ref a54, .ref a55])), (a1, .inr (10, [.ref a2, .ref a7, .ref a9, .ref a10, .ref a11, .ref a14, .ref a16, .ref a19, .int v0.1.2.2.2.2.2.2.2.2.1, .int v0.1.2.2.2.2.2.2.2.2.2.1, .int v0.1.2.2.2.2.2.2.2.2.2.2.1, .int v0.1.2.2.2.2.2.2.2.2.2.2.2.1, .int v0.1.2.2.2.2.2.2.2.2.2.2.2.2.1, .int v0.1.2.2.2.2.2.2.2.2.2.2.2.2.2])), (a2, .inr (7, [.ref a3, .ref a4, .ref a5, .ref a6, .int v0.1.1.2.2.2.2])), (a3, .inl (ca 0, 9, .inl v0.1.1.1)), (a7, .inr (2, [.ref a8, .int v0.1.2.1.2.1, .int v0.1.2.1.2.2.1, .int v0.1.2.1.2.2.2.1, .int v0.1.2.1.2.2.2.2])), (a10, .inr (1, [.int v0.1.2.2.2.1.1, .int v0.1.2.2.2.1.2.1, .int v0.1.2.2.2.1.2.2.1, .int v0.1.2.2.2.1.2.2.2.1, .int v0.1.2.2.2.1.2.2.2.2.1, .int v0.1.2.2.2.1.2.2.2.2.2])), (a11, .inr (3, [.ref a12, .int v0.1.2.2.2.2.1.2.1, .int v0.1.2.2.2.2.1.2.2.1, .int v0.1.2.2.2.2.1.2.2.2.1, .int v0.1.2.2.2.2.1.2.2.2.2.1, .int v0.1.2.2.2.2.1.2.2.2.2.2.1, .int v0.1.2.2.2.2.1.2.2.2.2.2.2])), (a12, .inr (4, [.ref a13, .int v0.1.2.2.2.2.1.1.2.1, .int v0.1.2.2.2.2.1.1.2.2])), (a13, .inl (ca 0, 512, .inl v0.1.2.2.2.2.1.1.1)), (a14, .inr (4, [.ref a15, .int v0.1.2.2.2.2.2.1.2.1, .int v0.1.2.2.2.2.2.1.2.2])), (a15, .inl (ca 0, 512, .inl v0.1.2.2.2.2.2.1.1)), (a16, .inr (6, [.ref a17, .ref a18, .int v0.1.2.2.2.2.2.2.1.2.2])), (a17, .inl (ca 0, 15, .inl v0.1.2.2.2.2.2.2.1.1)), (a18, .inl (ca 0, 15, .inl v0.1.2.2.2.2.2.2.1.2.1))] H → va_D A [(a0, .inr (11, [.ref a1, .ref a21, .ref a41, .ref a42, .ref a49, .ref a52, .ref a54, .ref a55])), (a1, .inr (10, [.ref a2, .ref a7, .ref a9, .ref a10, .ref a11, .ref a14, .ref a16, .ref a19, .int v0.1.2.2.2.2.2.2.2.2.1, .int v0.1.2.2.2.2.2.2.2.2.2.1, .int v0.1.2.2.2.2.2.2.2.2.2.2.1, .int v0.1.2.2.2.2.2.2.2.2.2.2.2.1, .int v0.1.2.2.2.2.2.2.2.2.2.2.2.2.1, .int v0.1.2.2.2.2.2.2.2.2.2.2.2.2.2])), (a2, .inr (7, [.ref a3, .ref a4, .ref a5, .ref a6, .int v0.1.1.2.2.2.2])), (a3, .inl (ca 0, 9, .inl v0.1.1.1)), (a7, .inr (2, [.ref a8, .int v0.1.2.1.2.1, .int v0.1.2.1.2.2.1, .int v0.1.2.1.2.2.2.1, .int v0.1.2.1.2.2.2.2])), (a10, .inr (1, [.int v0.1.2.2.2.1.1, .int v0.1.2.2.2.1.2.1, .int v0.1.2.2.2.1.2.2.1, .int v0.1.2.2.2.1.2.2.2.1, .int v0.1.2.2.2.1.2.2.2.2.1, .int v0.1.2.2.2.1.2.2.2.2.2])), (a11, .inr (3, [.ref a12, .int v0.1.2.2.2.2.1.2.1, .int v0.1.2.2.2.2.1.2.2.1, .int v0.1.2.2.2.2.1.2.2.2.1, .int v0.1.2.2.2.2.1.2.2.2.2.1, .int v0.1.2.2.2.2.1.2.2.2.2.2.1, .int v0.1.2.2.2.2.1.2.2.2.2.2.2])), (a12, .inr (4, [.ref a13, .int v0.1.2.2.2.2.1.1.2.1, .int v0.1.2.2.2.2.1.1.2.2])), (a13, .inl (ca 0, 512, .inl v0.1.2.2.2.2.1.1.1)), (a14, .inr (4, [.ref a15, .int v0.1.2.2.2.2.2.1.2.1, .int v0.1.2.2.2.2.2.1.2.2])), (a15, .inl (ca 0, 512, .inl v0.1.2.2.2.2.2.1.1)), (a16, .inr (6, [.ref a17, .ref a18, .int v0.1.2.2.2.2.2.2.1.2.2])), (a17, .inl (ca 0, 15, .inl v0.1.2.2.2.2.2.2.1.1)), (a18, .inl (ca 0, 15, .inl v0.1.2.2.2.2.2.2.1.2.1))] → va_S A s.heap H locs → lv_has ls 5 [(0, .ref a0), (1, .int x1), (3, .int x3), (4, .int x4)] → W p l e ({ frames := 5, cells := 0, slots := 0, locals := 106 } : Room) s m args below meth c H locs 0 0 Q (F0 m 20 ls [])) (v0 : V11) (x1 : Int32) (x3 : Int32) (x4 : Int32), fl_X11_hand_20 k20 v0 x1 x3 x4 = some (r, v0') → ∀ (H : Heap) (locs : List Loc) (ls : Array Slot), va_P D vwCl [(a0, .inr (11, [.ref a1, .ref a21, .ref a41, .ref a42, .ref a49, .ref a52, .ref a54, .ref a55])), (a1, .inr (10, [.ref a2, .ref a7, .ref a9, .ref a10, .ref a11, .ref a14, .ref a16, .ref a19, .int v0.1.2.2.2.2.2.2.2.2.1, .int v0.1.2.2.2.2.2.2.2.2.2.1, .int v0.1.2.2.2.2.2.2.2.2.2.2.1, .int v0.1.2.2.2.2.2.2.2.2.2.2.2.1, .int v0.1.2.2.2.2.2.2.2.2.2.2.2.2.1, .int v0.1.2.2.2.2.2.2.2.2.2.2.2.2.2])), (a2, .inr (7, [.ref a3, .ref a4, .ref a5, .ref a6, .int v0.1.1.2.2.2.2])), (a3, .inl (ca 0, 9, .inl v0.1.1.1)), (a7, .inr (2, [.ref a8, .int v0.1.2.1.2.1, .int v0.1.2.1.2.2.1, .int v0.1.2.1.2.2.2.1, .int v0.1.2.1.2.2.2.2])), (a10, .inr (1, [.int v0.1.2.2.2.1.1, .int v0.1.2.2.2.1.2.1, .int v0.1.2.2.2.1.2.2.1, .int v0.1.2.2.2.1.2.2.2.1, .int v0.1.2.2.2.1.2.2.2.2.1, .int v0.1.2.2.2.1.2.2.2.2.2])), (a11, .inr (3, [.ref a12, .int v0.1.2.2.2.2.1.2.1, .int v0.1.2.2.2.2.1.2.2.1, .int v0.1.2.2.2.2.1.2.2.2.1, .int v0.1.2.2.2.2.1.2.2.2.2.1, .int v0.1.2.2.2.2.1.2.2.2.2.2.1, .int v0.1.2.2.2.2.1.2.2.2.2.2.2])), (a12, .inr (4, [.ref a13, .int v0.1.2.2.2.2.1.1.2.1, .int v0.1.2.2.2.2.1.1.2.2])), (a13, .inl (ca 0, 512, .inl v0.1.2.2.2.2.1.1.1)), (a14, .inr (4, [.ref a15, .int v0.1.2.2.2.2.2.1.2.1, .int v0.1.2.2.2.2.2.1.2.2])), (a15, .inl (ca 0, 512, .inl v0.1.2.2.2.2.2.1.1)), (a16, .inr (6, [.ref a17, .ref a18, .int v0.1.2.2.2.2.2.2.1.2.2])), (a17, .inl (ca 0, 15, .inl v0.1.2.2.2.2.2.2.1.1)), (a18, .inl (ca 0, 15, .inl v0.1.2.2.2.2.2.2.1.2.1))] H → va_D A [(a0, .inr (11, [.ref a1, .ref a21, .ref a41, .ref a42, .ref a49, .ref a52, .ref a54, .ref a55])), (a1, .inr (10, [.ref a2, .ref a7, .ref a9, .ref a10, .ref a11, .ref a14, .ref a16, .ref a19, .int v0.1.2.2.2.2.2.2.2.2.1, .int v0.1.2.2.2.2.2.2.2.2.2.1, .int v0.1.2.2.2.2.2.2.2.2.2.2.1, .int v0.1.2.2.2.2.2.2.2.2.2.2.2.1, .int v0.1.2.2.2.2.2.2.2.2.2.2.2.2.1, .int v0.1.2.2.2.2.2.2.2.2.2.2.2.2.2])), (a2, .inr (7, [.ref a3, .ref a4, .ref a5, .ref a6, .int v0.1.1.2.2.2.2])), (a3, .inl (ca 0, 9, .inl v0.1.1.1)), (a7, .inr (2, [.ref a8, .int v0.1.2.1.2.1, .int v0.1.2.1.2.2.1, .int v0.1.2.1.2.2.2.1, .int v0.1.2.1.2.2.2.2])), (a10, .inr (1, [.int v0.1.2.2.2.1.1, .int v0.1.2.2.2.1.2.1, .int v0.1.2.2.2.1.2.2.1, .int v0.1.2.2.2.1.2.2.2.1, .int v0.1.2.2.2.1.2.2.2.2.1, .int v0.1.2.2.2.1.2.2.2.2.2])), (a11, .inr (3, [.ref a12, .int v0.1.2.2.2.2.1.2.1, .int v0.1.2.2.2.2.1.2.2.1, .int v0.1.2.2.2.2.1.2.2.2.1, .int v0.1.2.2.2.2.1.2.2.2.2.1, .int v0.1.2.2.2.2.1.2.2.2.2.2.1, .int v0.1.2.2.2.2.1.2.2.2.2.2.2])), (a12, .inr (4, [.ref a13, .int v0.1.2.2.2.2.1.1.2.1, .int v0.1.2.2.2.2.1.1.2.2])), (a13, .inl (ca 0, 512, .inl v0.1.2.2.2.2.1.1.1)), (a14, .inr (4, [.ref a15, .int v0.1.2.2.2.2.2.1.2.1, .int v0.1.2.2.2.2.2.1.2.2])), (a15, .inl (ca 0, 512, .inl v0.1.2.2.2.2.2.1.1)), (a16, .inr (6, [.ref a17, .ref a18, .int v0.1.2.2.2.2.2.2.1.2.2])), (a17, .inl (ca 0, 15, .inl v0.1.2.2.2.2.2.2.1.1)), (a18, .inl (ca 0, 15, .inl v0.1.2.2.2.2.2.2.1.2.1))] → va_S A s.heap H locs → lv_has ls 5 [(0, .ref a0), (1, .int x1), (3, .int x3), (4, .int x4)] → W p l e ({ frames := 5, cells := 0, slots := 0, locals := 106 } : Room) s m args below meth c H locs 0 0 Q (F0 m 20 ls []) := by
    intro k20 q20 v0 x1 x3 x4 hf H locs ls hP hD hS hl
    unfold fl_X11_hand_20 at hf
    refine lv_iload hx hb dX11_hand_20 (lv_at hl 3 rfl) ?_
    refine xi_lt (tgt := 50) hx hb dX11_hand_22 (by decide) hf (fun hf => ?_) (fun hf => ?_)
    · refine lv_iload_n hx hb dX11_hand_50 rfl (lv_at hl 2 rfl) ?_
      cases hf
      exact rt_I hx hb hr hlocks hK hP hD hS hQ rfl rfl dX11_hand_51
    · refine lv_aload_n hx hb dX11_hand_25 rfl (lv_at hl 0 rfl) ?_
      refine va_get (C := RX11) (T := TX11) (N := 8) hx hb hts i11 hown hK hP 0 rfl rfl 0 (Nat.le_of_ble_eq_true rfl) w0 (fun _ h9 => h9) rfl dX11_hand_26 ?_
      refine lv_iload_n hx hb dX11_hand_29 rfl (lv_at hl 1 rfl) ?_
      refine lv_iload hx hb dX11_hand_30 (lv_at hl 3 rfl) ?_
      refine lv_iushr (v := jushr x1 x4) hx hb dX11_hand_32 rfl ?_
      refine lv_iconst (v := 1) hx hb dX11_hand_33 rfl ?_
      refine lv_iand hx hb dX11_hand_34 ?_
      obtain ⟨r_2, u_3, hc3, hf⟩ := bnd2_el hf
      refine xV_I (As := [.int ((jushr x1 x4) &&& (1 : Int32))]) (wx := [(a0, .inr (11, [.ref a1, .ref a21, .ref a41, .ref a42, .ref a49, .ref a52, .ref a54, .ref a55])), (a1, .inr (10, [.ref a2, .ref a7, .ref a9, .ref a10, .ref a11, .ref a14, .ref a16, .ref a19, .int u_3.2.2.2.2.2.2.2.2.1, .int u_3.2.2.2.2.2.2.2.2.2.1, .int u_3.2.2.2.2.2.2.2.2.2.2.1, .int u_3.2.2.2.2.2.2.2.2.2.2.2.1, .int u_3.2.2.2.2.2.2.2.2.2.2.2.2.1, .int u_3.2.2.2.2.2.2.2.2.2.2.2.2.2])), (a2, .inr (7, [.ref a3, .ref a4, .ref a5, .ref a6, .int u_3.1.2.2.2.2])), (a3, .inl (ca 0, 9, .inl u_3.1.1)), (a7, .inr (2, [.ref a8, .int u_3.2.1.2.1, .int u_3.2.1.2.2.1, .int u_3.2.1.2.2.2.1, .int u_3.2.1.2.2.2.2])), (a10, .inr (1, [.int u_3.2.2.2.1.1, .int u_3.2.2.2.1.2.1, .int u_3.2.2.2.1.2.2.1, .int u_3.2.2.2.1.2.2.2.1, .int u_3.2.2.2.1.2.2.2.2.1, .int u_3.2.2.2.1.2.2.2.2.2])), (a11, .inr (3, [.ref a12, .int u_3.2.2.2.2.1.2.1, .int u_3.2.2.2.2.1.2.2.1, .int u_3.2.2.2.2.1.2.2.2.1, .int u_3.2.2.2.2.1.2.2.2.2.1, .int u_3.2.2.2.2.1.2.2.2.2.2.1, .int u_3.2.2.2.2.1.2.2.2.2.2.2])), (a12, .inr (4, [.ref a13, .int u_3.2.2.2.2.1.1.2.1, .int u_3.2.2.2.2.1.1.2.2])), (a13, .inl (ca 0, 512, .inl u_3.2.2.2.2.1.1.1)), (a14, .inr (4, [.ref a15, .int u_3.2.2.2.2.2.1.2.1, .int u_3.2.2.2.2.2.1.2.2])), (a15, .inl (ca 0, 512, .inl u_3.2.2.2.2.2.1.1)), (a16, .inr (6, [.ref a17, .ref a18, .int u_3.2.2.2.2.2.2.1.2.2])), (a17, .inl (ca 0, 15, .inl u_3.2.2.2.2.2.2.1.1)), (a18, .inl (ca 0, 15, .inl u_3.2.2.2.2.2.2.1.2.1))]) ⟨hx, hb, hml, hown, hts⟩ (c_X10_hear l D ca zz a1 a2 a3 a4 a5 a6 a7 a8 a9 a10 a11 a12 a13 a14 a15 a16 a17 a18 a19 _ v0.1 ((jushr x1 x4) &&& (1 : Int32)) r_2 u_3 hc3) (cwV 1 hts (gV gw_3_232 gw_3_181 gw_3_182 gw_1_2 gw_3_183) rfl rfl rfl (by decide +kernel) ⟨(Nat.le_of_ble_eq_true rfl), (Nat.le_of_ble_eq_true rfl)⟩) hK hN hZ hA hP hD hS [1, 2, 3, 4, 5, 6, 7, 8, 9, 10, 11, 12, 13] rfl rfl rfl rfl 1 rfl rfl hl.1 rfl (Nat.le_of_ble_eq_true rfl) dX11_hand_35 ⟨Nat.zero_le _, Nat.zero_le _⟩ rfl (fun H locs hP hD hS => ?_)
      refine xi_eq (tgt := 44) hx hb dX11_hand_38 (by decide) hf (fun hf => ?_) (fun hf => ?_)
      · obtain ⟨x_4, ex_4, hf⟩ := bnd_el hf
        refine lv_iinc (v := x_4) (lv' := [(4, .int x_4), (0, .ref a0), (1, .int x1), (3, .int x3)]) hx hb dX11_hand_44 hl (k := 3) rfl (by rw [ex_4]; rfl) (Nat.le_of_ble_eq_true rfl) rfl (fun ls hl => ?_)
        refine lv_goto (tgt := 20) hx hb dX11_hand_47 (by decide) ?_
        exact q20 ((((u_3.1.1, v0.1.1.2.1, v0.1.1.2.2.1, v0.1.1.2.2.2.1, u_3.1.2.2.2.2), (v0.1.2.1.1, u_3.2.1.2), v0.1.2.2.1, u_3.2.2.2.1, u_3.2.2.2.2.1, u_3.2.2.2.2.2.1, u_3.2.2.2.2.2.2.1, v0.1.2.2.2.2.2.2.2.1, u_3.2.2.2.2.2.2.2.2), v0.2)) x1 x3 x_4 hf _ _ _ hP hD hS (lv_sub hl [1, 2, 3, 0] rfl)
      · obtain ⟨x_5, ex_5, hf⟩ := bnd_el hf
        refine lv_iinc (v := x_5) (lv' := [(3, .int x_5), (0, .ref a0), (1, .int x1), (4, .int x4)]) hx hb dX11_hand_41 hl (k := 2) rfl (by rw [ex_5]; rfl) (Nat.le_of_ble_eq_true rfl) rfl (fun ls hl => ?_)
        obtain ⟨x_6, ex_6, hf⟩ := bnd_el hf
        refine lv_iinc (v := x_6) (lv' := [(4, .int x_6), (3, .int x_5), (0, .ref a0), (1, .int x1)]) hx hb dX11_hand_44 hl (k := 3) rfl (by rw [ex_6]; rfl) (Nat.le_of_ble_eq_true rfl) rfl (fun ls hl => ?_)
        refine lv_goto (tgt := 20) hx hb dX11_hand_47 (by decide) ?_
        exact q20 ((((u_3.1.1, v0.1.1.2.1, v0.1.1.2.2.1, v0.1.1.2.2.2.1, u_3.1.2.2.2.2), (v0.1.2.1.1, u_3.2.1.2), v0.1.2.2.1, u_3.2.2.2.1, u_3.2.2.2.2.1, u_3.2.2.2.2.2.1, u_3.2.2.2.2.2.2.1, v0.1.2.2.2.2.2.2.2.1, u_3.2.2.2.2.2.2.2.2), v0.2)) x1 x_5 x_6 hf _ _ _ hP hD hS (lv_sub hl [2, 3, 1, 0] rfl)
  have b20 : ∀ (n : Nat) (v0 : V11) (x1 : Int32) (x3 : Int32) (x4 : Int32), fb_X11_hand_20 n v0 x1 x3 x4 = some (r, v0') → ∀ (H : Heap) (locs : List Loc) (ls : Array Slot), va_P D vwCl [(a0, .inr (11, [.ref a1, .ref a21, .ref a41, .ref a42, .ref a49, .ref a52, .ref a54, .ref a55])), (a1, .inr (10, [.ref a2, .ref a7, .ref a9, .ref a10, .ref a11, .ref a14, .ref a16, .ref a19, .int v0.1.2.2.2.2.2.2.2.2.1, .int v0.1.2.2.2.2.2.2.2.2.2.1, .int v0.1.2.2.2.2.2.2.2.2.2.2.1, .int v0.1.2.2.2.2.2.2.2.2.2.2.2.1, .int v0.1.2.2.2.2.2.2.2.2.2.2.2.2.1, .int v0.1.2.2.2.2.2.2.2.2.2.2.2.2.2])), (a2, .inr (7, [.ref a3, .ref a4, .ref a5, .ref a6, .int v0.1.1.2.2.2.2])), (a3, .inl (ca 0, 9, .inl v0.1.1.1)), (a7, .inr (2, [.ref a8, .int v0.1.2.1.2.1, .int v0.1.2.1.2.2.1, .int v0.1.2.1.2.2.2.1, .int v0.1.2.1.2.2.2.2])), (a10, .inr (1, [.int v0.1.2.2.2.1.1, .int v0.1.2.2.2.1.2.1, .int v0.1.2.2.2.1.2.2.1, .int v0.1.2.2.2.1.2.2.2.1, .int v0.1.2.2.2.1.2.2.2.2.1, .int v0.1.2.2.2.1.2.2.2.2.2])), (a11, .inr (3, [.ref a12, .int v0.1.2.2.2.2.1.2.1, .int v0.1.2.2.2.2.1.2.2.1, .int v0.1.2.2.2.2.1.2.2.2.1, .int v0.1.2.2.2.2.1.2.2.2.2.1, .int v0.1.2.2.2.2.1.2.2.2.2.2.1, .int v0.1.2.2.2.2.1.2.2.2.2.2.2])), (a12, .inr (4, [.ref a13, .int v0.1.2.2.2.2.1.1.2.1, .int v0.1.2.2.2.2.1.1.2.2])), (a13, .inl (ca 0, 512, .inl v0.1.2.2.2.2.1.1.1)), (a14, .inr (4, [.ref a15, .int v0.1.2.2.2.2.2.1.2.1, .int v0.1.2.2.2.2.2.1.2.2])), (a15, .inl (ca 0, 512, .inl v0.1.2.2.2.2.2.1.1)), (a16, .inr (6, [.ref a17, .ref a18, .int v0.1.2.2.2.2.2.2.1.2.2])), (a17, .inl (ca 0, 15, .inl v0.1.2.2.2.2.2.2.1.1)), (a18, .inl (ca 0, 15, .inl v0.1.2.2.2.2.2.2.1.2.1))] H → va_D A [(a0, .inr (11, [.ref a1, .ref a21, .ref a41, .ref a42, .ref a49, .ref a52, .ref a54, .ref a55])), (a1, .inr (10, [.ref a2, .ref a7, .ref a9, .ref a10, .ref a11, .ref a14, .ref a16, .ref a19, .int v0.1.2.2.2.2.2.2.2.2.1, .int v0.1.2.2.2.2.2.2.2.2.2.1, .int v0.1.2.2.2.2.2.2.2.2.2.2.1, .int v0.1.2.2.2.2.2.2.2.2.2.2.2.1, .int v0.1.2.2.2.2.2.2.2.2.2.2.2.2.1, .int v0.1.2.2.2.2.2.2.2.2.2.2.2.2.2])), (a2, .inr (7, [.ref a3, .ref a4, .ref a5, .ref a6, .int v0.1.1.2.2.2.2])), (a3, .inl (ca 0, 9, .inl v0.1.1.1)), (a7, .inr (2, [.ref a8, .int v0.1.2.1.2.1, .int v0.1.2.1.2.2.1, .int v0.1.2.1.2.2.2.1, .int v0.1.2.1.2.2.2.2])), (a10, .inr (1, [.int v0.1.2.2.2.1.1, .int v0.1.2.2.2.1.2.1, .int v0.1.2.2.2.1.2.2.1, .int v0.1.2.2.2.1.2.2.2.1, .int v0.1.2.2.2.1.2.2.2.2.1, .int v0.1.2.2.2.1.2.2.2.2.2])), (a11, .inr (3, [.ref a12, .int v0.1.2.2.2.2.1.2.1, .int v0.1.2.2.2.2.1.2.2.1, .int v0.1.2.2.2.2.1.2.2.2.1, .int v0.1.2.2.2.2.1.2.2.2.2.1, .int v0.1.2.2.2.2.1.2.2.2.2.2.1, .int v0.1.2.2.2.2.1.2.2.2.2.2.2])), (a12, .inr (4, [.ref a13, .int v0.1.2.2.2.2.1.1.2.1, .int v0.1.2.2.2.2.1.1.2.2])), (a13, .inl (ca 0, 512, .inl v0.1.2.2.2.2.1.1.1)), (a14, .inr (4, [.ref a15, .int v0.1.2.2.2.2.2.1.2.1, .int v0.1.2.2.2.2.2.1.2.2])), (a15, .inl (ca 0, 512, .inl v0.1.2.2.2.2.2.1.1)), (a16, .inr (6, [.ref a17, .ref a18, .int v0.1.2.2.2.2.2.2.1.2.2])), (a17, .inl (ca 0, 15, .inl v0.1.2.2.2.2.2.2.1.1)), (a18, .inl (ca 0, 15, .inl v0.1.2.2.2.2.2.2.1.2.1))] → va_S A s.heap H locs → lv_has ls 5 [(0, .ref a0), (1, .int x1), (3, .int x3), (4, .int x4)] → W p l e ({ frames := 5, cells := 0, slots := 0, locals := 106 } : Room) s m args below meth c H locs 0 0 Q (F0 m 20 ls []) := by
    intro n
    induction n with
    | zero => intro v0 x1 x3 x4 hf; exact no_el hf
    | succ n ih => exact bl20 (fb_X11_hand_20 n) ih
  unfold f_X11_hand at hf
  refine lv_iload_n hx hb dX11_hand_0 rfl (lv_at hl 2 rfl) ?_
  refine lv_iconst (v := 1) hx hb dX11_hand_1 rfl ?_
  refine xc_lt (tgt := 11) hx hb dX11_hand_2 (by decide) hf (fun hf => ?_) (fun hf => ?_)
  · refine lv_iconst (v := -1) hx hb dX11_hand_11 rfl ?_
    cases hf
    exact rt_I hx hb hr hlocks hK hP hD hS hQ rfl rfl dX11_hand_12
  · refine lv_iload_n hx hb dX11_hand_5 rfl (lv_at hl 2 rfl) ?_
    refine lv_bipush (v := 32) hx hb dX11_hand_6 rfl ?_
    refine xc_le (tgt := 13) hx hb dX11_hand_8 (by decide) hf (fun hf => ?_) (fun hf => ?_)
    · refine lv_iconst (v := 0) hx hb dX11_hand_13 rfl ?_
      refine lv_istore_n (lv' := [(3, .int (0 : Int32)), (0, .ref a0), (1, .int p1), (2, .int p2)]) hx hb dX11_hand_14 rfl hl (Nat.le_of_ble_eq_true rfl) rfl (fun ls hl => ?_)
      refine lv_iload_n hx hb dX11_hand_15 rfl (lv_at hl 3 rfl) ?_
      refine lv_iconst (v := 1) hx hb dX11_hand_16 rfl ?_
      refine lv_isub hx hb dX11_hand_17 ?_
      refine xnm hf (fun x_1 hf => ?_)
      refine lv_istore (lv' := [(4, .int x_1), (3, .int (0 : Int32)), (0, .ref a0), (1, .int p1), (2, .int p2)]) hx hb dX11_hand_18 hl (Nat.le_of_ble_eq_true rfl) rfl (fun ls hl => ?_)
      exact b20 FU v0 p1 (0 : Int32) x_1 hf _ _ _ hP hD hS (lv_sub hl [2, 3, 1, 0] rfl)
    · refine lv_iconst (v := -1) hx hb dX11_hand_11 rfl ?_
      cases hf
      exact rt_I hx hb hr hlocks hK hP hD hS hQ rfl rfl dX11_hand_12
abbrev wq_X3_takeBits : List Cond := Cond.code yX3_takeBits cX3_takeBits 4 (some .int) :: GL
set_option maxHeartbeats 4000000 in
set_option maxRecDepth 100000 in
theorem c_X3_takeBits (l : Launch) (D : va_G) (ca : Nat → ClassId) (zz : Nat → Nat) (a0 a1 a2 : Nat) (sz : Nat) (v0 : V3) (p1 : Int32) (r : Int32) (v0' : V3) (hf : f_X3_takeBits v0 p1 = some (r, v0')) : Met l yX3_takeBits wq_X3_takeBits ({ frames := 1, cells := 0, slots := 0, locals := 21 } : Room) (PR D ca zz [.ref a0, .int p1] sz [(a0, .inr (3, [.ref a1, .int v0.2.1, .int v0.2.2.1, .int v0.2.2.2.1, .int v0.2.2.2.2.1, .int v0.2.2.2.2.2.1, .int v0.2.2.2.2.2.2])), (a1, .inr (4, [.ref a2, .int v0.1.2.1, .int v0.1.2.2])), (a2, .inl (ca 0, 512, .inl v0.1.1))]) (QI D ca r [(a0, .inr (3, [.ref a1, .int v0'.2.1, .int v0'.2.2.1, .int v0'.2.2.2.1, .int v0'.2.2.2.2.1, .int v0'.2.2.2.2.2.1, .int v0'.2.2.2.2.2.2])), (a1, .inr (4, [.ref a2, .int v0'.1.2.1, .int v0'.1.2.2])), (a2, .inl (ca 0, 512, .inl v0'.1.1))] (va_A [(a0, .inr (3, [.ref a1, .int v0.2.1, .int v0.2.2.1, .int v0.2.2.2.1, .int v0.2.2.2.2.1, .int v0.2.2.2.2.2.1, .int v0.2.2.2.2.2.2])), (a1, .inr (4, [.ref a2, .int v0.1.2.1, .int v0.1.2.2])), (a2, .inl (ca 0, 512, .inl v0.1.1))] sz)) 0 0 (va_A [(a0, .inr (3, [.ref a1, .int v0.2.1, .int v0.2.2.1, .int v0.2.2.2.1, .int v0.2.2.2.2.1, .int v0.2.2.2.2.2.1, .int v0.2.2.2.2.2.2])), (a1, .inr (4, [.ref a2, .int v0.1.2.1, .int v0.1.2.2])), (a2, .inl (ca 0, 512, .inl v0.1.1))] sz) := by
  refine en (y := yX3_takeBits) (wsm := wq_X3_takeBits) (av := [.ref a0, .int p1]) (cc := cX3_takeBits) (maxL := 4) (ret := (some .int)) (Qf := fun A => QI D ca r [(a0, .inr (3, [.ref a1, .int v0'.2.1, .int v0'.2.2.1, .int v0'.2.2.2.1, .int v0'.2.2.2.2.1, .int v0'.2.2.2.2.2.1, .int v0'.2.2.2.2.2.2])), (a1, .inr (4, [.ref a2, .int v0'.1.2.1, .int v0'.1.2.2])), (a2, .inl (ca 0, 512, .inl v0'.1.1))] A) (by decide) rfl (Nat.le_of_ble_eq_true rfl) ?_
  intro p e s m args below meth c A Q ls hx hb hr hml hown hts hlocks hnm hA hN hZ hK hQ hP hD hS hl
  have w0 := hts _ (List.mem_cons_of_mem _ gw_1_179)
  have w1 := hts _ (List.mem_cons_of_mem _ gw_1_189)
  have nw19 := NW.use (args := args) (w := .fieldLinkNest RX3 55 "NoiseWatch$Queue" "size" "I" "NoiseWatch") hN 19 rfl
  have i3 : ∀ w ∈ u_ws RX3 TX3 7, w ∈ wq_X3_takeBits := fun w h => List.mem_cons_of_mem _ (inX3 w h)
  have i4 : ∀ w ∈ u_ws RX4 TX4 3, w ∈ wq_X3_takeBits := fun w h => List.mem_cons_of_mem _ (inX4 w h)
  have bl17 : ∀ (k17 : V3 → Int32 → Int32 → Int32 → Option (Int32 × V3)) (q17 : ∀ (v0 : V3) (x1 : Int32) (x2 : Int32) (x3 : Int32), k17 v0 x1 x2 x3 = some (r, v0') → ∀ (H : Heap) (locs : List Loc) (ls : Array Slot), va_P D vwCl [(a0, .inr (3, [.ref a1, .int v0.2.1, .int v0.2.2.1, .int v0.2.2.2.1, .int v0.2.2.2.2.1, .int v0.2.2.2.2.2.1, .int v0.2.2.2.2.2.2])), (a1, .inr (4, [.ref a2, .int v0.1.2.1, .int v0.1.2.2])), (a2, .inl (ca 0, 512, .inl v0.1.1))] H → va_D A [(a0, .inr (3, [.ref a1, .int v0.2.1, .int v0.2.2.1, .int v0.2.2.2.1, .int v0.2.2.2.2.1, .int v0.2.2.2.2.2.1, .int v0.2.2.2.2.2.2])), (a1, .inr (4, [.ref a2, .int v0.1.2.1, .int v0.1.2.2])), (a2, .inl (ca 0, 512, .inl v0.1.1))] → va_S A s.heap H locs → lv_has ls 4 [(0, .ref a0), (1, .int x1), (2, .int x2), (3, .int x3)] → W p l e ({ frames := 1, cells := 0, slots := 0, locals := 21 } : Room) s m args below meth c H locs 0 0 Q (F0 m 17 ls [])) (v0 : V3) (x1 : Int32) (x2 : Int32) (x3 : Int32), fl_X3_takeBits_17 k17 v0 x1 x2 x3 = some (r, v0') → ∀ (H : Heap) (locs : List Loc) (ls : Array Slot), va_P D vwCl [(a0, .inr (3, [.ref a1, .int v0.2.1, .int v0.2.2.1, .int v0.2.2.2.1, .int v0.2.2.2.2.1, .int v0.2.2.2.2.2.1, .int v0.2.2.2.2.2.2])), (a1, .inr (4, [.ref a2, .int v0.1.2.1, .int v0.1.2.2])), (a2, .inl (ca 0, 512, .inl v0.1.1))] H → va_D A [(a0, .inr (3, [.ref a1, .int v0.2.1, .int v0.2.2.1, .int v0.2.2.2.1, .int v0.2.2.2.2.1, .int v0.2.2.2.2.2.1, .int v0.2.2.2.2.2.2])), (a1, .inr (4, [.ref a2, .int v0.1.2.1, .int v0.1.2.2])), (a2, .inl (ca 0, 512, .inl v0.1.1))] → va_S A s.heap H locs → lv_has ls 4 [(0, .ref a0), (1, .int x1), (2, .int x2), (3, .int x3)] → W p l e ({ frames := 1, cells := 0, slots := 0, locals := 21 } : Room) s m args below meth c H locs 0 0 Q (F0 m 17 ls []) := by
    intro k17 q17 v0 x1 x2 x3 hf H locs ls hP hD hS hl
    unfold fl_X3_takeBits_17 at hf
    refine lv_iload_n hx hb dX3_takeBits_17 rfl (lv_at hl 3 rfl) ?_
    refine lv_iload_n hx hb dX3_takeBits_18 rfl (lv_at hl 1 rfl) ?_
    refine xc_ge (tgt := 40) hx hb dX3_takeBits_19 (by decide) hf (fun hf => ?_) (fun hf => ?_)
    · refine lv_aload_n hx hb dX3_takeBits_40 rfl (lv_at hl 0 rfl) ?_
      refine lv_dup hx hb dX3_takeBits_41 rfl ?_
      refine va_get (C := RX3) (T := TX3) (N := 7) hx hb hts i3 hown hK hP 0 rfl rfl 5 (Nat.le_of_ble_eq_true rfl) w1 (fun _ h9 => h9) rfl dX3_takeBits_42 ?_
      refine lv_iload_n hx hb dX3_takeBits_45 rfl (lv_at hl 1 rfl) ?_
      refine lv_iadd hx hb dX3_takeBits_46 ?_
      refine xnm hf (fun x_1 hf => ?_)
      refine xput (C := RX3) (T := TX3) (N := 7) (wx := [(a0, .inr (3, [.ref a1, .int v0.2.1, .int v0.2.2.1, .int v0.2.2.2.1, .int v0.2.2.2.2.1, .int x_1, .int v0.2.2.2.2.2.2])), (a1, .inr (4, [.ref a2, .int v0.1.2.1, .int v0.1.2.2])), (a2, .inl (ca 0, 512, .inl v0.1.1))]) hx hb hts i3 tyX3 tyX3_ok nmX3 hown hK hP hD hS 0 rfl rfl 5 (Nat.le_of_ble_eq_true rfl) w1 (fun _ h9 => h9) rfl rfl rfl rfl (Nat.le_of_ble_eq_true rfl) dX3_takeBits_47 rfl (fun H locs hP hD hS => ?_)
      refine lv_iload_n hx hb dX3_takeBits_50 rfl (lv_at hl 2 rfl) ?_
      cases hf
      exact rt_I hx hb hr hlocks hK hP hD hS hQ rfl rfl dX3_takeBits_51
    · refine lv_iload_n hx hb dX3_takeBits_22 rfl (lv_at hl 2 rfl) ?_
      refine lv_iconst (v := 1) hx hb dX3_takeBits_23 rfl ?_
      refine lv_ishl hx hb dX3_takeBits_24 ?_
      refine lv_aload_n hx hb dX3_takeBits_25 rfl (lv_at hl 0 rfl) ?_
      refine va_get (C := RX3) (T := TX3) (N := 7) hx hb hts i3 hown hK hP 0 rfl rfl 0 (Nat.le_of_ble_eq_true rfl) w0 (fun _ h9 => h9) rfl dX3_takeBits_26 ?_
      obtain ⟨r_2, u_3, hc3, hf⟩ := bnd2_el hf
      refine xV_I (As := []) (wx := [(a0, .inr (3, [.ref a1, .int v0.2.1, .int v0.2.2.1, .int v0.2.2.2.1, .int v0.2.2.2.2.1, .int v0.2.2.2.2.2.1, .int v0.2.2.2.2.2.2])), (a1, .inr (4, [.ref a2, .int u_3.2.1, .int u_3.2.2])), (a2, .inl (ca 0, 512, .inl u_3.1))]) ⟨hx, hb, hml, hown, hts⟩ (c_X4_dropFirst l D ca zz a1 a2 _ v0.1 r_2 u_3 hc3) (cwV 0 hts (gV gw_4_1 gw_3_185 gw_3_186 gw_1_8 gw_3_187) rfl rfl rfl (by decide +kernel) ⟨(Nat.le_of_ble_eq_true rfl), (Nat.le_of_ble_eq_true rfl)⟩) hK hN hZ hA hP hD hS [1, 2] rfl rfl rfl rfl 1 rfl rfl hl.1 rfl (Nat.le_of_ble_eq_true rfl) dX3_takeBits_29 ⟨Nat.zero_le _, Nat.zero_le _⟩ rfl (fun H locs hP hD hS => ?_)
      refine lv_ior hx hb dX3_takeBits_32 ?_
      refine xnm hf (fun x_4 hf => ?_)
      refine lv_istore_n (lv' := [(2, .int x_4), (0, .ref a0), (1, .int x1), (3, .int x3)]) hx hb dX3_takeBits_33 rfl hl (Nat.le_of_ble_eq_true rfl) rfl (fun ls hl => ?_)
      obtain ⟨x_5, ex_5, hf⟩ := bnd_el hf
      refine lv_iinc (v := x_5) (lv' := [(3, .int x_5), (2, .int x_4), (0, .ref a0), (1, .int x1)]) hx hb dX3_takeBits_34 hl (k := 3) rfl (by rw [ex_5]; rfl) (Nat.le_of_ble_eq_true rfl) rfl (fun ls hl => ?_)
      refine lv_goto (tgt := 17) hx hb dX3_takeBits_37 (by decide) ?_
      exact q17 ((u_3, v0.2)) x1 x_4 x_5 hf _ _ _ hP hD hS (lv_sub hl [2, 3, 1, 0] rfl)
  have b17 : ∀ (n : Nat) (v0 : V3) (x1 : Int32) (x2 : Int32) (x3 : Int32), fb_X3_takeBits_17 n v0 x1 x2 x3 = some (r, v0') → ∀ (H : Heap) (locs : List Loc) (ls : Array Slot), va_P D vwCl [(a0, .inr (3, [.ref a1, .int v0.2.1, .int v0.2.2.1, .int v0.2.2.2.1, .int v0.2.2.2.2.1, .int v0.2.2.2.2.2.1, .int v0.2.2.2.2.2.2])), (a1, .inr (4, [.ref a2, .int v0.1.2.1, .int v0.1.2.2])), (a2, .inl (ca 0, 512, .inl v0.1.1))] H → va_D A [(a0, .inr (3, [.ref a1, .int v0.2.1, .int v0.2.2.1, .int v0.2.2.2.1, .int v0.2.2.2.2.1, .int v0.2.2.2.2.2.1, .int v0.2.2.2.2.2.2])), (a1, .inr (4, [.ref a2, .int v0.1.2.1, .int v0.1.2.2])), (a2, .inl (ca 0, 512, .inl v0.1.1))] → va_S A s.heap H locs → lv_has ls 4 [(0, .ref a0), (1, .int x1), (2, .int x2), (3, .int x3)] → W p l e ({ frames := 1, cells := 0, slots := 0, locals := 21 } : Room) s m args below meth c H locs 0 0 Q (F0 m 17 ls []) := by
    intro n
    induction n with
    | zero => intro v0 x1 x2 x3 hf; exact no_el hf
    | succ n ih => exact bl17 (fb_X3_takeBits_17 n) ih
  unfold f_X3_takeBits at hf
  refine lv_iload_n hx hb dX3_takeBits_0 rfl (lv_at hl 1 rfl) ?_
  refine lv_aload_n hx hb dX3_takeBits_1 rfl (lv_at hl 0 rfl) ?_
  refine va_get (C := RX3) (T := TX3) (N := 7) hx hb hts i3 hown hK hP 0 rfl rfl 0 (Nat.le_of_ble_eq_true rfl) w0 (fun _ h9 => h9) rfl dX3_takeBits_2 ?_
  refine va_getN (C := RX4) (T := TX4) (N := 3) hx hb hts i4 hown hK hP 1 rfl rfl 2 (Nat.le_of_ble_eq_true rfl) nw19 (fun _ h9 => h9) rfl dX3_takeBits_5 ?_
  refine xc_le (tgt := 13) hx hb dX3_takeBits_8 (by decide) hf (fun hf => ?_) (fun hf => ?_)
  · refine lv_iconst (v := 0) hx hb dX3_takeBits_13 rfl ?_
    refine lv_istore_n (lv' := [(2, .int (0 : Int32)), (0, .ref a0), (1, .int p1)]) hx hb dX3_takeBits_14 rfl hl (Nat.le_of_ble_eq_true rfl) rfl (fun ls hl => ?_)
    refine lv_iconst (v := 0) hx hb dX3_takeBits_15 rfl ?_
    refine lv_istore_n (lv' := [(3, .int (0 : Int32)), (2, .int (0 : Int32)), (0, .ref a0), (1, .int p1)]) hx hb dX3_takeBits_16 rfl hl (Nat.le_of_ble_eq_true rfl) rfl (fun ls hl => ?_)
    exact b17 FU v0 p1 (0 : Int32) (0 : Int32) hf _ _ _ hP hD hS (lv_sub hl [2, 3, 1, 0] rfl)
  · refine lv_iconst (v := -1) hx hb dX3_takeBits_11 rfl ?_
    cases hf
    exact rt_I hx hb hr hlocks hK hP hD hS hQ rfl rfl dX3_takeBits_12
abbrev wq_X11_take : List Cond := Cond.code yX11_take cX11_take 2 (some .int) :: GL
set_option maxHeartbeats 4000000 in
set_option maxRecDepth 100000 in
theorem c_X11_take (l : Launch) (D : va_G) (ca : Nat → ClassId) (zz : Nat → Nat) (a0 a1 a2 a7 a9 a10 a11 a12 a13 a14 a16 a19 a21 a41 a42 a49 a52 a54 a55 : Nat) (sz : Nat) (v0 : V11) (p1 : Int32) (r : Int32) (v0' : V11) (hf : f_X11_take v0 p1 = some (r, v0')) : Met l yX11_take wq_X11_take ({ frames := 2, cells := 0, slots := 0, locals := 44 } : Room) (PR D ca zz [.ref a0, .int p1] sz [(a0, .inr (11, [.ref a1, .ref a21, .ref a41, .ref a42, .ref a49, .ref a52, .ref a54, .ref a55])), (a1, .inr (10, [.ref a2, .ref a7, .ref a9, .ref a10, .ref a11, .ref a14, .ref a16, .ref a19, .int v0.1.2.2.2.2.2.2.2.2.1, .int v0.1.2.2.2.2.2.2.2.2.2.1, .int v0.1.2.2.2.2.2.2.2.2.2.2.1, .int v0.1.2.2.2.2.2.2.2.2.2.2.2.1, .int v0.1.2.2.2.2.2.2.2.2.2.2.2.2.1, .int v0.1.2.2.2.2.2.2.2.2.2.2.2.2.2])), (a11, .inr (3, [.ref a12, .int v0.1.2.2.2.2.1.2.1, .int v0.1.2.2.2.2.1.2.2.1, .int v0.1.2.2.2.2.1.2.2.2.1, .int v0.1.2.2.2.2.1.2.2.2.2.1, .int v0.1.2.2.2.2.1.2.2.2.2.2.1, .int v0.1.2.2.2.2.1.2.2.2.2.2.2])), (a12, .inr (4, [.ref a13, .int v0.1.2.2.2.2.1.1.2.1, .int v0.1.2.2.2.2.1.1.2.2])), (a13, .inl (ca 0, 512, .inl v0.1.2.2.2.2.1.1.1))]) (QI D ca r [(a0, .inr (11, [.ref a1, .ref a21, .ref a41, .ref a42, .ref a49, .ref a52, .ref a54, .ref a55])), (a1, .inr (10, [.ref a2, .ref a7, .ref a9, .ref a10, .ref a11, .ref a14, .ref a16, .ref a19, .int v0'.1.2.2.2.2.2.2.2.2.1, .int v0'.1.2.2.2.2.2.2.2.2.2.1, .int v0'.1.2.2.2.2.2.2.2.2.2.2.1, .int v0'.1.2.2.2.2.2.2.2.2.2.2.2.1, .int v0'.1.2.2.2.2.2.2.2.2.2.2.2.2.1, .int v0'.1.2.2.2.2.2.2.2.2.2.2.2.2.2])), (a11, .inr (3, [.ref a12, .int v0'.1.2.2.2.2.1.2.1, .int v0'.1.2.2.2.2.1.2.2.1, .int v0'.1.2.2.2.2.1.2.2.2.1, .int v0'.1.2.2.2.2.1.2.2.2.2.1, .int v0'.1.2.2.2.2.1.2.2.2.2.2.1, .int v0'.1.2.2.2.2.1.2.2.2.2.2.2])), (a12, .inr (4, [.ref a13, .int v0'.1.2.2.2.2.1.1.2.1, .int v0'.1.2.2.2.2.1.1.2.2])), (a13, .inl (ca 0, 512, .inl v0'.1.2.2.2.2.1.1.1))] (va_A [(a0, .inr (11, [.ref a1, .ref a21, .ref a41, .ref a42, .ref a49, .ref a52, .ref a54, .ref a55])), (a1, .inr (10, [.ref a2, .ref a7, .ref a9, .ref a10, .ref a11, .ref a14, .ref a16, .ref a19, .int v0.1.2.2.2.2.2.2.2.2.1, .int v0.1.2.2.2.2.2.2.2.2.2.1, .int v0.1.2.2.2.2.2.2.2.2.2.2.1, .int v0.1.2.2.2.2.2.2.2.2.2.2.2.1, .int v0.1.2.2.2.2.2.2.2.2.2.2.2.2.1, .int v0.1.2.2.2.2.2.2.2.2.2.2.2.2.2])), (a11, .inr (3, [.ref a12, .int v0.1.2.2.2.2.1.2.1, .int v0.1.2.2.2.2.1.2.2.1, .int v0.1.2.2.2.2.1.2.2.2.1, .int v0.1.2.2.2.2.1.2.2.2.2.1, .int v0.1.2.2.2.2.1.2.2.2.2.2.1, .int v0.1.2.2.2.2.1.2.2.2.2.2.2])), (a12, .inr (4, [.ref a13, .int v0.1.2.2.2.2.1.1.2.1, .int v0.1.2.2.2.2.1.1.2.2])), (a13, .inl (ca 0, 512, .inl v0.1.2.2.2.2.1.1.1))] sz)) 0 0 (va_A [(a0, .inr (11, [.ref a1, .ref a21, .ref a41, .ref a42, .ref a49, .ref a52, .ref a54, .ref a55])), (a1, .inr (10, [.ref a2, .ref a7, .ref a9, .ref a10, .ref a11, .ref a14, .ref a16, .ref a19, .int v0.1.2.2.2.2.2.2.2.2.1, .int v0.1.2.2.2.2.2.2.2.2.2.1, .int v0.1.2.2.2.2.2.2.2.2.2.2.1, .int v0.1.2.2.2.2.2.2.2.2.2.2.2.1, .int v0.1.2.2.2.2.2.2.2.2.2.2.2.2.1, .int v0.1.2.2.2.2.2.2.2.2.2.2.2.2.2])), (a11, .inr (3, [.ref a12, .int v0.1.2.2.2.2.1.2.1, .int v0.1.2.2.2.2.1.2.2.1, .int v0.1.2.2.2.2.1.2.2.2.1, .int v0.1.2.2.2.2.1.2.2.2.2.1, .int v0.1.2.2.2.2.1.2.2.2.2.2.1, .int v0.1.2.2.2.2.1.2.2.2.2.2.2])), (a12, .inr (4, [.ref a13, .int v0.1.2.2.2.2.1.1.2.1, .int v0.1.2.2.2.2.1.1.2.2])), (a13, .inl (ca 0, 512, .inl v0.1.2.2.2.2.1.1.1))] sz) := by
  refine en (y := yX11_take) (wsm := wq_X11_take) (av := [.ref a0, .int p1]) (cc := cX11_take) (maxL := 2) (ret := (some .int)) (Qf := fun A => QI D ca r [(a0, .inr (11, [.ref a1, .ref a21, .ref a41, .ref a42, .ref a49, .ref a52, .ref a54, .ref a55])), (a1, .inr (10, [.ref a2, .ref a7, .ref a9, .ref a10, .ref a11, .ref a14, .ref a16, .ref a19, .int v0'.1.2.2.2.2.2.2.2.2.1, .int v0'.1.2.2.2.2.2.2.2.2.2.1, .int v0'.1.2.2.2.2.2.2.2.2.2.2.1, .int v0'.1.2.2.2.2.2.2.2.2.2.2.2.1, .int v0'.1.2.2.2.2.2.2.2.2.2.2.2.2.1, .int v0'.1.2.2.2.2.2.2.2.2.2.2.2.2.2])), (a11, .inr (3, [.ref a12, .int v0'.1.2.2.2.2.1.2.1, .int v0'.1.2.2.2.2.1.2.2.1, .int v0'.1.2.2.2.2.1.2.2.2.1, .int v0'.1.2.2.2.2.1.2.2.2.2.1, .int v0'.1.2.2.2.2.1.2.2.2.2.2.1, .int v0'.1.2.2.2.2.1.2.2.2.2.2.2])), (a12, .inr (4, [.ref a13, .int v0'.1.2.2.2.2.1.1.2.1, .int v0'.1.2.2.2.2.1.1.2.2])), (a13, .inl (ca 0, 512, .inl v0'.1.2.2.2.2.1.1.1))] A) (by decide) rfl (Nat.le_of_ble_eq_true rfl) ?_
  intro p e s m args below meth c A Q ls hx hb hr hml hown hts hlocks hnm hA hN hZ hK hQ hP hD hS hl
  have w0 := hts _ (List.mem_cons_of_mem _ gw_2_187)
  have nw36 := NW.use (args := args) (w := .fieldLinkNest RX11 120 "NoiseWatch$Watch" "pool" "LNoiseWatch$Pool;" "NoiseWatch") hN 36 rfl
  have i10 : ∀ w ∈ u_ws RX10 TX10 14, w ∈ wq_X11_take := fun w h => List.mem_cons_of_mem _ (inX10 w h)
  have i11 : ∀ w ∈ u_ws RX11 TX11 8, w ∈ wq_X11_take := fun w h => List.mem_cons_of_mem _ (inX11 w h)
  unfold f_X11_take at hf
  refine lv_iload_n hx hb dX11_take_0 rfl (lv_at hl 1 rfl) ?_
  refine lv_iconst (v := 1) hx hb dX11_take_1 rfl ?_
  refine xc_lt (tgt := 11) hx hb dX11_take_2 (by decide) hf (fun hf => ?_) (fun hf => ?_)
  · refine lv_iconst (v := -1) hx hb dX11_take_11 rfl ?_
    refine lv_goto (tgt := 26) hx hb dX11_take_12 (by decide) ?_
    cases hf
    exact rt_I hx hb hr hlocks hK hP hD hS hQ rfl rfl dX11_take_26
  · refine lv_iload_n hx hb dX11_take_5 rfl (lv_at hl 1 rfl) ?_
    refine lv_bipush (v := 30) hx hb dX11_take_6 rfl ?_
    refine xc_le (tgt := 15) hx hb dX11_take_8 (by decide) hf (fun hf => ?_) (fun hf => ?_)
    · refine lv_aload_n hx hb dX11_take_15 rfl (lv_at hl 0 rfl) ?_
      refine va_get (C := RX11) (T := TX11) (N := 8) hx hb hts i11 hown hK hP 0 rfl rfl 0 (Nat.le_of_ble_eq_true rfl) w0 (fun _ h9 => h9) rfl dX11_take_16 ?_
      refine va_getN (C := RX10) (T := TX10) (N := 14) hx hb hts i10 hown hK hP 1 rfl rfl 4 (Nat.le_of_ble_eq_true rfl) nw36 (fun _ h9 => h9) rfl dX11_take_19 ?_
      refine lv_iload_n hx hb dX11_take_22 rfl (lv_at hl 1 rfl) ?_
      obtain ⟨r_1, u_2, hc2, hf⟩ := bnd2_el hf
      refine xV_I (As := [.int p1]) (wx := [(a0, .inr (11, [.ref a1, .ref a21, .ref a41, .ref a42, .ref a49, .ref a52, .ref a54, .ref a55])), (a1, .inr (10, [.ref a2, .ref a7, .ref a9, .ref a10, .ref a11, .ref a14, .ref a16, .ref a19, .int v0.1.2.2.2.2.2.2.2.2.1, .int v0.1.2.2.2.2.2.2.2.2.2.1, .int v0.1.2.2.2.2.2.2.2.2.2.2.1, .int v0.1.2.2.2.2.2.2.2.2.2.2.2.1, .int v0.1.2.2.2.2.2.2.2.2.2.2.2.2.1, .int v0.1.2.2.2.2.2.2.2.2.2.2.2.2.2])), (a11, .inr (3, [.ref a12, .int u_2.2.1, .int u_2.2.2.1, .int u_2.2.2.2.1, .int u_2.2.2.2.2.1, .int u_2.2.2.2.2.2.1, .int u_2.2.2.2.2.2.2])), (a12, .inr (4, [.ref a13, .int u_2.1.2.1, .int u_2.1.2.2])), (a13, .inl (ca 0, 512, .inl u_2.1.1))]) ⟨hx, hb, hml, hown, hts⟩ (c_X3_takeBits l D ca zz a11 a12 a13 _ v0.1.2.2.2.2.1 p1 r_1 u_2 hc2) (cwV 1 hts (gV gw_3_237 gw_3_238 gw_3_239 gw_1_7 gw_4_0) rfl rfl rfl (by decide +kernel) ⟨(Nat.le_of_ble_eq_true rfl), (Nat.le_of_ble_eq_true rfl)⟩) hK hN hZ hA hP hD hS [2, 3, 4] rfl rfl rfl rfl 2 rfl rfl hl.1 rfl (Nat.le_of_ble_eq_true rfl) dX11_take_23 ⟨Nat.zero_le _, Nat.zero_le _⟩ rfl (fun H locs hP hD hS => ?_)
      cases hf
      exact rt_I hx hb hr hlocks hK hP hD hS hQ rfl rfl dX11_take_26
    · refine lv_iconst (v := -1) hx hb dX11_take_11 rfl ?_
      refine lv_goto (tgt := 26) hx hb dX11_take_12 (by decide) ?_
      cases hf
      exact rt_I hx hb hr hlocks hK hP hD hS hQ rfl rfl dX11_take_26
abbrev wq_X10_countOfParts : List Cond := Cond.code yX10_countOfParts cX10_countOfParts 2 (some .int) :: GL
set_option maxHeartbeats 4000000 in
set_option maxRecDepth 100000 in
theorem c_X10_countOfParts (l : Launch) (D : va_G) (ca : Nat → ClassId) (zz : Nat → Nat) (a0 a1 a6 a8 a9 a10 a11 a12 a13 a14 a15 a16 a17 a18 a19 : Nat) (sz : Nat) (v0 : V10) (p1 : Int32) (r : Int32) (hf : f_X10_countOfParts v0 p1 = some r) : Met l yX10_countOfParts wq_X10_countOfParts ({ frames := 0, cells := 0, slots := 0, locals := 0 } : Room) (PR D ca zz [.ref a0, .int p1] sz [(a0, .inr (10, [.ref a1, .ref a6, .ref a8, .ref a9, .ref a10, .ref a13, .ref a15, .ref a18, .int v0.2.2.2.2.2.2.2.2.1, .int v0.2.2.2.2.2.2.2.2.2.1, .int v0.2.2.2.2.2.2.2.2.2.2.1, .int v0.2.2.2.2.2.2.2.2.2.2.2.1, .int v0.2.2.2.2.2.2.2.2.2.2.2.2.1, .int v0.2.2.2.2.2.2.2.2.2.2.2.2.2])), (a9, .inr (1, [.int v0.2.2.2.1.1, .int v0.2.2.2.1.2.1, .int v0.2.2.2.1.2.2.1, .int v0.2.2.2.1.2.2.2.1, .int v0.2.2.2.1.2.2.2.2.1, .int v0.2.2.2.1.2.2.2.2.2])), (a10, .inr (3, [.ref a11, .int v0.2.2.2.2.1.2.1, .int v0.2.2.2.2.1.2.2.1, .int v0.2.2.2.2.1.2.2.2.1, .int v0.2.2.2.2.1.2.2.2.2.1, .int v0.2.2.2.2.1.2.2.2.2.2.1, .int v0.2.2.2.2.1.2.2.2.2.2.2])), (a11, .inr (4, [.ref a12, .int v0.2.2.2.2.1.1.2.1, .int v0.2.2.2.2.1.1.2.2])), (a13, .inr (4, [.ref a14, .int v0.2.2.2.2.2.1.2.1, .int v0.2.2.2.2.2.1.2.2])), (a15, .inr (6, [.ref a16, .ref a17, .int v0.2.2.2.2.2.2.1.2.2])), (a18, .inr (9, [.ref a19, .int v0.2.2.2.2.2.2.2.1.2.1, .int v0.2.2.2.2.2.2.2.1.2.2.1, .int v0.2.2.2.2.2.2.2.1.2.2.2]))]) (QI D ca r [(a0, .inr (10, [.ref a1, .ref a6, .ref a8, .ref a9, .ref a10, .ref a13, .ref a15, .ref a18, .int v0.2.2.2.2.2.2.2.2.1, .int v0.2.2.2.2.2.2.2.2.2.1, .int v0.2.2.2.2.2.2.2.2.2.2.1, .int v0.2.2.2.2.2.2.2.2.2.2.2.1, .int v0.2.2.2.2.2.2.2.2.2.2.2.2.1, .int v0.2.2.2.2.2.2.2.2.2.2.2.2.2])), (a9, .inr (1, [.int v0.2.2.2.1.1, .int v0.2.2.2.1.2.1, .int v0.2.2.2.1.2.2.1, .int v0.2.2.2.1.2.2.2.1, .int v0.2.2.2.1.2.2.2.2.1, .int v0.2.2.2.1.2.2.2.2.2])), (a10, .inr (3, [.ref a11, .int v0.2.2.2.2.1.2.1, .int v0.2.2.2.2.1.2.2.1, .int v0.2.2.2.2.1.2.2.2.1, .int v0.2.2.2.2.1.2.2.2.2.1, .int v0.2.2.2.2.1.2.2.2.2.2.1, .int v0.2.2.2.2.1.2.2.2.2.2.2])), (a11, .inr (4, [.ref a12, .int v0.2.2.2.2.1.1.2.1, .int v0.2.2.2.2.1.1.2.2])), (a13, .inr (4, [.ref a14, .int v0.2.2.2.2.2.1.2.1, .int v0.2.2.2.2.2.1.2.2])), (a15, .inr (6, [.ref a16, .ref a17, .int v0.2.2.2.2.2.2.1.2.2])), (a18, .inr (9, [.ref a19, .int v0.2.2.2.2.2.2.2.1.2.1, .int v0.2.2.2.2.2.2.2.1.2.2.1, .int v0.2.2.2.2.2.2.2.1.2.2.2]))] (va_A [(a0, .inr (10, [.ref a1, .ref a6, .ref a8, .ref a9, .ref a10, .ref a13, .ref a15, .ref a18, .int v0.2.2.2.2.2.2.2.2.1, .int v0.2.2.2.2.2.2.2.2.2.1, .int v0.2.2.2.2.2.2.2.2.2.2.1, .int v0.2.2.2.2.2.2.2.2.2.2.2.1, .int v0.2.2.2.2.2.2.2.2.2.2.2.2.1, .int v0.2.2.2.2.2.2.2.2.2.2.2.2.2])), (a9, .inr (1, [.int v0.2.2.2.1.1, .int v0.2.2.2.1.2.1, .int v0.2.2.2.1.2.2.1, .int v0.2.2.2.1.2.2.2.1, .int v0.2.2.2.1.2.2.2.2.1, .int v0.2.2.2.1.2.2.2.2.2])), (a10, .inr (3, [.ref a11, .int v0.2.2.2.2.1.2.1, .int v0.2.2.2.2.1.2.2.1, .int v0.2.2.2.2.1.2.2.2.1, .int v0.2.2.2.2.1.2.2.2.2.1, .int v0.2.2.2.2.1.2.2.2.2.2.1, .int v0.2.2.2.2.1.2.2.2.2.2.2])), (a11, .inr (4, [.ref a12, .int v0.2.2.2.2.1.1.2.1, .int v0.2.2.2.2.1.1.2.2])), (a13, .inr (4, [.ref a14, .int v0.2.2.2.2.2.1.2.1, .int v0.2.2.2.2.2.1.2.2])), (a15, .inr (6, [.ref a16, .ref a17, .int v0.2.2.2.2.2.2.1.2.2])), (a18, .inr (9, [.ref a19, .int v0.2.2.2.2.2.2.2.1.2.1, .int v0.2.2.2.2.2.2.2.1.2.2.1, .int v0.2.2.2.2.2.2.2.1.2.2.2]))] sz)) 0 0 (va_A [(a0, .inr (10, [.ref a1, .ref a6, .ref a8, .ref a9, .ref a10, .ref a13, .ref a15, .ref a18, .int v0.2.2.2.2.2.2.2.2.1, .int v0.2.2.2.2.2.2.2.2.2.1, .int v0.2.2.2.2.2.2.2.2.2.2.1, .int v0.2.2.2.2.2.2.2.2.2.2.2.1, .int v0.2.2.2.2.2.2.2.2.2.2.2.2.1, .int v0.2.2.2.2.2.2.2.2.2.2.2.2.2])), (a9, .inr (1, [.int v0.2.2.2.1.1, .int v0.2.2.2.1.2.1, .int v0.2.2.2.1.2.2.1, .int v0.2.2.2.1.2.2.2.1, .int v0.2.2.2.1.2.2.2.2.1, .int v0.2.2.2.1.2.2.2.2.2])), (a10, .inr (3, [.ref a11, .int v0.2.2.2.2.1.2.1, .int v0.2.2.2.2.1.2.2.1, .int v0.2.2.2.2.1.2.2.2.1, .int v0.2.2.2.2.1.2.2.2.2.1, .int v0.2.2.2.2.1.2.2.2.2.2.1, .int v0.2.2.2.2.1.2.2.2.2.2.2])), (a11, .inr (4, [.ref a12, .int v0.2.2.2.2.1.1.2.1, .int v0.2.2.2.2.1.1.2.2])), (a13, .inr (4, [.ref a14, .int v0.2.2.2.2.2.1.2.1, .int v0.2.2.2.2.2.1.2.2])), (a15, .inr (6, [.ref a16, .ref a17, .int v0.2.2.2.2.2.2.1.2.2])), (a18, .inr (9, [.ref a19, .int v0.2.2.2.2.2.2.2.1.2.1, .int v0.2.2.2.2.2.2.2.1.2.2.1, .int v0.2.2.2.2.2.2.2.1.2.2.2]))] sz) := by
  refine en (y := yX10_countOfParts) (wsm := wq_X10_countOfParts) (av := [.ref a0, .int p1]) (cc := cX10_countOfParts) (maxL := 2) (ret := (some .int)) (Qf := fun A => QI D ca r [(a0, .inr (10, [.ref a1, .ref a6, .ref a8, .ref a9, .ref a10, .ref a13, .ref a15, .ref a18, .int v0.2.2.2.2.2.2.2.2.1, .int v0.2.2.2.2.2.2.2.2.2.1, .int v0.2.2.2.2.2.2.2.2.2.2.1, .int v0.2.2.2.2.2.2.2.2.2.2.2.1, .int v0.2.2.2.2.2.2.2.2.2.2.2.2.1, .int v0.2.2.2.2.2.2.2.2.2.2.2.2.2])), (a9, .inr (1, [.int v0.2.2.2.1.1, .int v0.2.2.2.1.2.1, .int v0.2.2.2.1.2.2.1, .int v0.2.2.2.1.2.2.2.1, .int v0.2.2.2.1.2.2.2.2.1, .int v0.2.2.2.1.2.2.2.2.2])), (a10, .inr (3, [.ref a11, .int v0.2.2.2.2.1.2.1, .int v0.2.2.2.2.1.2.2.1, .int v0.2.2.2.2.1.2.2.2.1, .int v0.2.2.2.2.1.2.2.2.2.1, .int v0.2.2.2.2.1.2.2.2.2.2.1, .int v0.2.2.2.2.1.2.2.2.2.2.2])), (a11, .inr (4, [.ref a12, .int v0.2.2.2.2.1.1.2.1, .int v0.2.2.2.2.1.1.2.2])), (a13, .inr (4, [.ref a14, .int v0.2.2.2.2.2.1.2.1, .int v0.2.2.2.2.2.1.2.2])), (a15, .inr (6, [.ref a16, .ref a17, .int v0.2.2.2.2.2.2.1.2.2])), (a18, .inr (9, [.ref a19, .int v0.2.2.2.2.2.2.2.1.2.1, .int v0.2.2.2.2.2.2.2.1.2.2.1, .int v0.2.2.2.2.2.2.2.1.2.2.2]))] A) (by decide) rfl (Nat.le_of_ble_eq_true rfl) ?_
  intro p e s m args below meth c A Q ls hx hb hr hml hown hts hlocks hnm hA hN hZ hK hQ hP hD hS hl
  have w0 := hts _ (List.mem_cons_of_mem _ gw_2_76)
  have w1 := hts _ (List.mem_cons_of_mem _ gw_2_77)
  have w2 := hts _ (List.mem_cons_of_mem _ gw_2_79)
  have w3 := hts _ (List.mem_cons_of_mem _ gw_2_81)
  have w4 := hts _ (List.mem_cons_of_mem _ gw_2_83)
  have nw12 := NW.use (args := args) (w := .fieldLinkNest RX10 155 "NoiseWatch$Counts" "alike" "I" "NoiseWatch") hN 12 rfl
  have nw13 := NW.use (args := args) (w := .fieldLinkNest RX10 158 "NoiseWatch$Counts" "inWindow" "I" "NoiseWatch") hN 13 rfl
  have nw15 := NW.use (args := args) (w := .fieldLinkNest RX10 161 "NoiseWatch$Counts" "like" "I" "NoiseWatch") hN 15 rfl
  have nw17 := NW.use (args := args) (w := .fieldLinkNest RX10 164 "NoiseWatch$Counts" "unlike" "I" "NoiseWatch") hN 17 rfl
  have nw24 := NW.use (args := args) (w := .fieldLinkNest RX10 167 "NoiseWatch$Pool" "inBlock" "I" "NoiseWatch") hN 24 rfl
  have nw22 := NW.use (args := args) (w := .fieldLinkNest RX10 170 "NoiseWatch$Pool" "bits" "LNoiseWatch$Queue;" "NoiseWatch") hN 22 rfl
  have nw20 := NW.use (args := args) (w := .fieldLinkNest RX10 121 "NoiseWatch$Queue" "size" "I" "NoiseWatch") hN 20 rfl
  have nw25 := NW.use (args := args) (w := .fieldLinkNest RX10 173 "NoiseWatch$Pool" "came" "I" "NoiseWatch") hN 25 rfl
  have nw26 := NW.use (args := args) (w := .fieldLinkNest RX10 176 "NoiseWatch$Pool" "wasted" "I" "NoiseWatch") hN 26 rfl
  have nw27 := NW.use (args := args) (w := .fieldLinkNest RX10 179 "NoiseWatch$Pool" "taken" "I" "NoiseWatch") hN 27 rfl
  have nw28 := NW.use (args := args) (w := .fieldLinkNest RX10 182 "NoiseWatch$Pool" "gone" "I" "NoiseWatch") hN 28 rfl
  have nw29 := NW.use (args := args) (w := .fieldLinkNest RX10 185 "NoiseWatch$Rows" "size" "I" "NoiseWatch") hN 29 rfl
  have nw31 := NW.use (args := args) (w := .fieldLinkNest RX10 186 "NoiseWatch$Text" "size" "I" "NoiseWatch") hN 31 rfl
  have i1 : ∀ w ∈ u_ws RX1 TX1 6, w ∈ wq_X10_countOfParts := fun w h => List.mem_cons_of_mem _ (inX1 w h)
  have i10 : ∀ w ∈ u_ws RX10 TX10 14, w ∈ wq_X10_countOfParts := fun w h => List.mem_cons_of_mem _ (inX10 w h)
  have i3 : ∀ w ∈ u_ws RX3 TX3 7, w ∈ wq_X10_countOfParts := fun w h => List.mem_cons_of_mem _ (inX3 w h)
  have i4 : ∀ w ∈ u_ws RX4 TX4 3, w ∈ wq_X10_countOfParts := fun w h => List.mem_cons_of_mem _ (inX4 w h)
  have i6 : ∀ w ∈ u_ws RX6 TX6 3, w ∈ wq_X10_countOfParts := fun w h => List.mem_cons_of_mem _ (inX6 w h)
  have i9 : ∀ w ∈ u_ws RX9 TX9 4, w ∈ wq_X10_countOfParts := fun w h => List.mem_cons_of_mem _ (inX9 w h)
  unfold f_X10_countOfParts at hf
  refine lv_iload_n hx hb dX10_countOfParts_0 rfl (lv_at hl 1 rfl) ?_
  by_cases hcs : p1 < (16 : Int32) ∨ (28 : Int32) < p1
  · have hf := ite_t hcs hf
    refine xtabO (tgt := 175) hx hb dX10_countOfParts_1 (a := 16) (b := 28) rfl rfl hcs (by decide) ?_
    refine lv_iconst (v := -1) hx hb dX10_countOfParts_175 rfl ?_
    cases hf
    exact rt_I hx hb hr hlocks hK hP hD hS hQ rfl rfl dX10_countOfParts_176
  · have hf := ite_f hcs hf
    by_cases hc0 : p1 = (16 : Int32)
    · have hf := ite_t hc0 hf
      refine xtabK (tgt := 68) hx hb dX10_countOfParts_1 hc0 (by decide) (by decide) rfl (by decide) ?_
      refine lv_aload_n hx hb dX10_countOfParts_68 rfl (lv_at hl 0 rfl) ?_
      refine va_get (C := RX10) (T := TX10) (N := 14) hx hb hts i10 hown hK hP 0 rfl rfl 3 (Nat.le_of_ble_eq_true rfl) w0 (fun _ h9 => h9) rfl dX10_countOfParts_69 ?_
      refine va_getN (C := RX1) (T := TX1) (N := 6) hx hb hts i1 hown hK hP 1 rfl rfl 0 (Nat.le_of_ble_eq_true rfl) nw12 (fun _ h9 => h9) rfl dX10_countOfParts_72 ?_
      cases hf
      exact rt_I hx hb hr hlocks hK hP hD hS hQ rfl rfl dX10_countOfParts_75
    have hf := ite_f hc0 hf
    by_cases hc1 : p1 = (17 : Int32)
    · have hf := ite_t hc1 hf
      refine xtabK (tgt := 76) hx hb dX10_countOfParts_1 hc1 (by decide) (by decide) rfl (by decide) ?_
      refine lv_aload_n hx hb dX10_countOfParts_76 rfl (lv_at hl 0 rfl) ?_
      refine va_get (C := RX10) (T := TX10) (N := 14) hx hb hts i10 hown hK hP 0 rfl rfl 3 (Nat.le_of_ble_eq_true rfl) w0 (fun _ h9 => h9) rfl dX10_countOfParts_77 ?_
      refine va_getN (C := RX1) (T := TX1) (N := 6) hx hb hts i1 hown hK hP 1 rfl rfl 2 (Nat.le_of_ble_eq_true rfl) nw13 (fun _ h9 => h9) rfl dX10_countOfParts_80 ?_
      cases hf
      exact rt_I hx hb hr hlocks hK hP hD hS hQ rfl rfl dX10_countOfParts_83
    have hf := ite_f hc1 hf
    by_cases hc2 : p1 = (18 : Int32)
    · have hf := ite_t hc2 hf
      refine xtabK (tgt := 84) hx hb dX10_countOfParts_1 hc2 (by decide) (by decide) rfl (by decide) ?_
      refine lv_aload_n hx hb dX10_countOfParts_84 rfl (lv_at hl 0 rfl) ?_
      refine va_get (C := RX10) (T := TX10) (N := 14) hx hb hts i10 hown hK hP 0 rfl rfl 3 (Nat.le_of_ble_eq_true rfl) w0 (fun _ h9 => h9) rfl dX10_countOfParts_85 ?_
      refine va_getN (C := RX1) (T := TX1) (N := 6) hx hb hts i1 hown hK hP 1 rfl rfl 4 (Nat.le_of_ble_eq_true rfl) nw15 (fun _ h9 => h9) rfl dX10_countOfParts_88 ?_
      cases hf
      exact rt_I hx hb hr hlocks hK hP hD hS hQ rfl rfl dX10_countOfParts_91
    have hf := ite_f hc2 hf
    by_cases hc3 : p1 = (19 : Int32)
    · have hf := ite_t hc3 hf
      refine xtabK (tgt := 92) hx hb dX10_countOfParts_1 hc3 (by decide) (by decide) rfl (by decide) ?_
      refine lv_aload_n hx hb dX10_countOfParts_92 rfl (lv_at hl 0 rfl) ?_
      refine va_get (C := RX10) (T := TX10) (N := 14) hx hb hts i10 hown hK hP 0 rfl rfl 3 (Nat.le_of_ble_eq_true rfl) w0 (fun _ h9 => h9) rfl dX10_countOfParts_93 ?_
      refine va_getN (C := RX1) (T := TX1) (N := 6) hx hb hts i1 hown hK hP 1 rfl rfl 5 (Nat.le_of_ble_eq_true rfl) nw17 (fun _ h9 => h9) rfl dX10_countOfParts_96 ?_
      cases hf
      exact rt_I hx hb hr hlocks hK hP hD hS hQ rfl rfl dX10_countOfParts_99
    have hf := ite_f hc3 hf
    by_cases hc4 : p1 = (20 : Int32)
    · have hf := ite_t hc4 hf
      refine xtabK (tgt := 100) hx hb dX10_countOfParts_1 hc4 (by decide) (by decide) rfl (by decide) ?_
      refine lv_aload_n hx hb dX10_countOfParts_100 rfl (lv_at hl 0 rfl) ?_
      refine va_get (C := RX10) (T := TX10) (N := 14) hx hb hts i10 hown hK hP 0 rfl rfl 4 (Nat.le_of_ble_eq_true rfl) w1 (fun _ h9 => h9) rfl dX10_countOfParts_101 ?_
      refine va_getN (C := RX3) (T := TX3) (N := 7) hx hb hts i3 hown hK hP 2 rfl rfl 2 (Nat.le_of_ble_eq_true rfl) nw24 (fun _ h9 => h9) rfl dX10_countOfParts_104 ?_
      cases hf
      exact rt_I hx hb hr hlocks hK hP hD hS hQ rfl rfl dX10_countOfParts_107
    have hf := ite_f hc4 hf
    by_cases hc5 : p1 = (21 : Int32)
    · have hf := ite_t hc5 hf
      refine xtabK (tgt := 108) hx hb dX10_countOfParts_1 hc5 (by decide) (by decide) rfl (by decide) ?_
      refine lv_aload_n hx hb dX10_countOfParts_108 rfl (lv_at hl 0 rfl) ?_
      refine va_get (C := RX10) (T := TX10) (N := 14) hx hb hts i10 hown hK hP 0 rfl rfl 4 (Nat.le_of_ble_eq_true rfl) w1 (fun _ h9 => h9) rfl dX10_countOfParts_109 ?_
      refine va_getN (C := RX3) (T := TX3) (N := 7) hx hb hts i3 hown hK hP 2 rfl rfl 0 (Nat.le_of_ble_eq_true rfl) nw22 (fun _ h9 => h9) rfl dX10_countOfParts_112 ?_
      refine va_getN (C := RX4) (T := TX4) (N := 3) hx hb hts i4 hown hK hP 3 rfl rfl 2 (Nat.le_of_ble_eq_true rfl) nw20 (fun _ h9 => h9) rfl dX10_countOfParts_115 ?_
      cases hf
      exact rt_I hx hb hr hlocks hK hP hD hS hQ rfl rfl dX10_countOfParts_118
    have hf := ite_f hc5 hf
    by_cases hc6 : p1 = (22 : Int32)
    · have hf := ite_t hc6 hf
      refine xtabK (tgt := 119) hx hb dX10_countOfParts_1 hc6 (by decide) (by decide) rfl (by decide) ?_
      refine lv_aload_n hx hb dX10_countOfParts_119 rfl (lv_at hl 0 rfl) ?_
      refine va_get (C := RX10) (T := TX10) (N := 14) hx hb hts i10 hown hK hP 0 rfl rfl 4 (Nat.le_of_ble_eq_true rfl) w1 (fun _ h9 => h9) rfl dX10_countOfParts_120 ?_
      refine va_getN (C := RX3) (T := TX3) (N := 7) hx hb hts i3 hown hK hP 2 rfl rfl 3 (Nat.le_of_ble_eq_true rfl) nw25 (fun _ h9 => h9) rfl dX10_countOfParts_123 ?_
      cases hf
      exact rt_I hx hb hr hlocks hK hP hD hS hQ rfl rfl dX10_countOfParts_126
    have hf := ite_f hc6 hf
    by_cases hc7 : p1 = (23 : Int32)
    · have hf := ite_t hc7 hf
      refine xtabK (tgt := 127) hx hb dX10_countOfParts_1 hc7 (by decide) (by decide) rfl (by decide) ?_
      refine lv_aload_n hx hb dX10_countOfParts_127 rfl (lv_at hl 0 rfl) ?_
      refine va_get (C := RX10) (T := TX10) (N := 14) hx hb hts i10 hown hK hP 0 rfl rfl 4 (Nat.le_of_ble_eq_true rfl) w1 (fun _ h9 => h9) rfl dX10_countOfParts_128 ?_
      refine va_getN (C := RX3) (T := TX3) (N := 7) hx hb hts i3 hown hK hP 2 rfl rfl 4 (Nat.le_of_ble_eq_true rfl) nw26 (fun _ h9 => h9) rfl dX10_countOfParts_131 ?_
      cases hf
      exact rt_I hx hb hr hlocks hK hP hD hS hQ rfl rfl dX10_countOfParts_134
    have hf := ite_f hc7 hf
    by_cases hc8 : p1 = (24 : Int32)
    · have hf := ite_t hc8 hf
      refine xtabK (tgt := 135) hx hb dX10_countOfParts_1 hc8 (by decide) (by decide) rfl (by decide) ?_
      refine lv_aload_n hx hb dX10_countOfParts_135 rfl (lv_at hl 0 rfl) ?_
      refine va_get (C := RX10) (T := TX10) (N := 14) hx hb hts i10 hown hK hP 0 rfl rfl 4 (Nat.le_of_ble_eq_true rfl) w1 (fun _ h9 => h9) rfl dX10_countOfParts_136 ?_
      refine va_getN (C := RX3) (T := TX3) (N := 7) hx hb hts i3 hown hK hP 2 rfl rfl 5 (Nat.le_of_ble_eq_true rfl) nw27 (fun _ h9 => h9) rfl dX10_countOfParts_139 ?_
      cases hf
      exact rt_I hx hb hr hlocks hK hP hD hS hQ rfl rfl dX10_countOfParts_142
    have hf := ite_f hc8 hf
    by_cases hc9 : p1 = (25 : Int32)
    · have hf := ite_t hc9 hf
      refine xtabK (tgt := 143) hx hb dX10_countOfParts_1 hc9 (by decide) (by decide) rfl (by decide) ?_
      refine lv_aload_n hx hb dX10_countOfParts_143 rfl (lv_at hl 0 rfl) ?_
      refine va_get (C := RX10) (T := TX10) (N := 14) hx hb hts i10 hown hK hP 0 rfl rfl 4 (Nat.le_of_ble_eq_true rfl) w1 (fun _ h9 => h9) rfl dX10_countOfParts_144 ?_
      refine va_getN (C := RX3) (T := TX3) (N := 7) hx hb hts i3 hown hK hP 2 rfl rfl 6 (Nat.le_of_ble_eq_true rfl) nw28 (fun _ h9 => h9) rfl dX10_countOfParts_147 ?_
      cases hf
      exact rt_I hx hb hr hlocks hK hP hD hS hQ rfl rfl dX10_countOfParts_150
    have hf := ite_f hc9 hf
    by_cases hc10 : p1 = (26 : Int32)
    · have hf := ite_t hc10 hf
      refine xtabK (tgt := 151) hx hb dX10_countOfParts_1 hc10 (by decide) (by decide) rfl (by decide) ?_
      refine lv_aload_n hx hb dX10_countOfParts_151 rfl (lv_at hl 0 rfl) ?_
      refine va_get (C := RX10) (T := TX10) (N := 14) hx hb hts i10 hown hK hP 0 rfl rfl 5 (Nat.le_of_ble_eq_true rfl) w2 (fun _ h9 => h9) rfl dX10_countOfParts_152 ?_
      refine va_getN (C := RX4) (T := TX4) (N := 3) hx hb hts i4 hown hK hP 4 rfl rfl 2 (Nat.le_of_ble_eq_true rfl) nw20 (fun _ h9 => h9) rfl dX10_countOfParts_155 ?_
      cases hf
      exact rt_I hx hb hr hlocks hK hP hD hS hQ rfl rfl dX10_countOfParts_158
    have hf := ite_f hc10 hf
    by_cases hc11 : p1 = (27 : Int32)
    · have hf := ite_t hc11 hf
      refine xtabK (tgt := 159) hx hb dX10_countOfParts_1 hc11 (by decide) (by decide) rfl (by decide) ?_
      refine lv_aload_n hx hb dX10_countOfParts_159 rfl (lv_at hl 0 rfl) ?_
      refine va_get (C := RX10) (T := TX10) (N := 14) hx hb hts i10 hown hK hP 0 rfl rfl 6 (Nat.le_of_ble_eq_true rfl) w3 (fun _ h9 => h9) rfl dX10_countOfParts_160 ?_
      refine va_getN (C := RX6) (T := TX6) (N := 3) hx hb hts i6 hown hK hP 5 rfl rfl 2 (Nat.le_of_ble_eq_true rfl) nw29 (fun _ h9 => h9) rfl dX10_countOfParts_163 ?_
      cases hf
      exact rt_I hx hb hr hlocks hK hP hD hS hQ rfl rfl dX10_countOfParts_166
    have hf := ite_f hc11 hf
    by_cases hc12 : p1 = (28 : Int32)
    · have hf := ite_t hc12 hf
      refine xtabK (tgt := 167) hx hb dX10_countOfParts_1 hc12 (by decide) (by decide) rfl (by decide) ?_
      refine lv_aload_n hx hb dX10_countOfParts_167 rfl (lv_at hl 0 rfl) ?_
      refine va_get (C := RX10) (T := TX10) (N := 14) hx hb hts i10 hown hK hP 0 rfl rfl 7 (Nat.le_of_ble_eq_true rfl) w4 (fun _ h9 => h9) rfl dX10_countOfParts_168 ?_
      refine va_getN (C := RX9) (T := TX9) (N := 4) hx hb hts i9 hown hK hP 6 rfl rfl 1 (Nat.le_of_ble_eq_true rfl) nw31 (fun _ h9 => h9) rfl dX10_countOfParts_171 ?_
      cases hf
      exact rt_I hx hb hr hlocks hK hP hD hS hQ rfl rfl dX10_countOfParts_174
    have hf := ite_f hc12 hf
    exact no_el hf
abbrev wq_X10_countOf : List Cond := Cond.code yX10_countOf cX10_countOf 2 (some .int) :: GL
set_option maxHeartbeats 4000000 in
set_option maxRecDepth 100000 in
theorem c_X10_countOf (l : Launch) (D : va_G) (ca : Nat → ClassId) (zz : Nat → Nat) (a0 a1 a2 a3 a4 a5 a6 a8 a9 a10 a11 a12 a13 a14 a15 a16 a17 a18 a19 : Nat) (sz : Nat) (v0 : V10) (p1 : Int32) (r : Int32) (hf : f_X10_countOf v0 p1 = some r) : Met l yX10_countOf wq_X10_countOf ({ frames := 1, cells := 0, slots := 0, locals := 21 } : Room) (PR D ca zz [.ref a0, .int p1] sz [(a0, .inr (10, [.ref a1, .ref a6, .ref a8, .ref a9, .ref a10, .ref a13, .ref a15, .ref a18, .int v0.2.2.2.2.2.2.2.2.1, .int v0.2.2.2.2.2.2.2.2.2.1, .int v0.2.2.2.2.2.2.2.2.2.2.1, .int v0.2.2.2.2.2.2.2.2.2.2.2.1, .int v0.2.2.2.2.2.2.2.2.2.2.2.2.1, .int v0.2.2.2.2.2.2.2.2.2.2.2.2.2])), (a1, .inr (7, [.ref a2, .ref a3, .ref a4, .ref a5, .int v0.1.2.2.2.2])), (a2, .inl (ca 0, 9, .inl v0.1.1)), (a8, .inr (8, [.int v0.2.2.1.1, .int v0.2.2.1.2.1, .int v0.2.2.1.2.2])), (a9, .inr (1, [.int v0.2.2.2.1.1, .int v0.2.2.2.1.2.1, .int v0.2.2.2.1.2.2.1, .int v0.2.2.2.1.2.2.2.1, .int v0.2.2.2.1.2.2.2.2.1, .int v0.2.2.2.1.2.2.2.2.2])), (a10, .inr (3, [.ref a11, .int v0.2.2.2.2.1.2.1, .int v0.2.2.2.2.1.2.2.1, .int v0.2.2.2.2.1.2.2.2.1, .int v0.2.2.2.2.1.2.2.2.2.1, .int v0.2.2.2.2.1.2.2.2.2.2.1, .int v0.2.2.2.2.1.2.2.2.2.2.2])), (a11, .inr (4, [.ref a12, .int v0.2.2.2.2.1.1.2.1, .int v0.2.2.2.2.1.1.2.2])), (a13, .inr (4, [.ref a14, .int v0.2.2.2.2.2.1.2.1, .int v0.2.2.2.2.2.1.2.2])), (a15, .inr (6, [.ref a16, .ref a17, .int v0.2.2.2.2.2.2.1.2.2])), (a18, .inr (9, [.ref a19, .int v0.2.2.2.2.2.2.2.1.2.1, .int v0.2.2.2.2.2.2.2.1.2.2.1, .int v0.2.2.2.2.2.2.2.1.2.2.2]))]) (QI D ca r [(a0, .inr (10, [.ref a1, .ref a6, .ref a8, .ref a9, .ref a10, .ref a13, .ref a15, .ref a18, .int v0.2.2.2.2.2.2.2.2.1, .int v0.2.2.2.2.2.2.2.2.2.1, .int v0.2.2.2.2.2.2.2.2.2.2.1, .int v0.2.2.2.2.2.2.2.2.2.2.2.1, .int v0.2.2.2.2.2.2.2.2.2.2.2.2.1, .int v0.2.2.2.2.2.2.2.2.2.2.2.2.2])), (a1, .inr (7, [.ref a2, .ref a3, .ref a4, .ref a5, .int v0.1.2.2.2.2])), (a2, .inl (ca 0, 9, .inl v0.1.1)), (a8, .inr (8, [.int v0.2.2.1.1, .int v0.2.2.1.2.1, .int v0.2.2.1.2.2])), (a9, .inr (1, [.int v0.2.2.2.1.1, .int v0.2.2.2.1.2.1, .int v0.2.2.2.1.2.2.1, .int v0.2.2.2.1.2.2.2.1, .int v0.2.2.2.1.2.2.2.2.1, .int v0.2.2.2.1.2.2.2.2.2])), (a10, .inr (3, [.ref a11, .int v0.2.2.2.2.1.2.1, .int v0.2.2.2.2.1.2.2.1, .int v0.2.2.2.2.1.2.2.2.1, .int v0.2.2.2.2.1.2.2.2.2.1, .int v0.2.2.2.2.1.2.2.2.2.2.1, .int v0.2.2.2.2.1.2.2.2.2.2.2])), (a11, .inr (4, [.ref a12, .int v0.2.2.2.2.1.1.2.1, .int v0.2.2.2.2.1.1.2.2])), (a13, .inr (4, [.ref a14, .int v0.2.2.2.2.2.1.2.1, .int v0.2.2.2.2.2.1.2.2])), (a15, .inr (6, [.ref a16, .ref a17, .int v0.2.2.2.2.2.2.1.2.2])), (a18, .inr (9, [.ref a19, .int v0.2.2.2.2.2.2.2.1.2.1, .int v0.2.2.2.2.2.2.2.1.2.2.1, .int v0.2.2.2.2.2.2.2.1.2.2.2]))] (va_A [(a0, .inr (10, [.ref a1, .ref a6, .ref a8, .ref a9, .ref a10, .ref a13, .ref a15, .ref a18, .int v0.2.2.2.2.2.2.2.2.1, .int v0.2.2.2.2.2.2.2.2.2.1, .int v0.2.2.2.2.2.2.2.2.2.2.1, .int v0.2.2.2.2.2.2.2.2.2.2.2.1, .int v0.2.2.2.2.2.2.2.2.2.2.2.2.1, .int v0.2.2.2.2.2.2.2.2.2.2.2.2.2])), (a1, .inr (7, [.ref a2, .ref a3, .ref a4, .ref a5, .int v0.1.2.2.2.2])), (a2, .inl (ca 0, 9, .inl v0.1.1)), (a8, .inr (8, [.int v0.2.2.1.1, .int v0.2.2.1.2.1, .int v0.2.2.1.2.2])), (a9, .inr (1, [.int v0.2.2.2.1.1, .int v0.2.2.2.1.2.1, .int v0.2.2.2.1.2.2.1, .int v0.2.2.2.1.2.2.2.1, .int v0.2.2.2.1.2.2.2.2.1, .int v0.2.2.2.1.2.2.2.2.2])), (a10, .inr (3, [.ref a11, .int v0.2.2.2.2.1.2.1, .int v0.2.2.2.2.1.2.2.1, .int v0.2.2.2.2.1.2.2.2.1, .int v0.2.2.2.2.1.2.2.2.2.1, .int v0.2.2.2.2.1.2.2.2.2.2.1, .int v0.2.2.2.2.1.2.2.2.2.2.2])), (a11, .inr (4, [.ref a12, .int v0.2.2.2.2.1.1.2.1, .int v0.2.2.2.2.1.1.2.2])), (a13, .inr (4, [.ref a14, .int v0.2.2.2.2.2.1.2.1, .int v0.2.2.2.2.2.1.2.2])), (a15, .inr (6, [.ref a16, .ref a17, .int v0.2.2.2.2.2.2.1.2.2])), (a18, .inr (9, [.ref a19, .int v0.2.2.2.2.2.2.2.1.2.1, .int v0.2.2.2.2.2.2.2.1.2.2.1, .int v0.2.2.2.2.2.2.2.1.2.2.2]))] sz)) 0 0 (va_A [(a0, .inr (10, [.ref a1, .ref a6, .ref a8, .ref a9, .ref a10, .ref a13, .ref a15, .ref a18, .int v0.2.2.2.2.2.2.2.2.1, .int v0.2.2.2.2.2.2.2.2.2.1, .int v0.2.2.2.2.2.2.2.2.2.2.1, .int v0.2.2.2.2.2.2.2.2.2.2.2.1, .int v0.2.2.2.2.2.2.2.2.2.2.2.2.1, .int v0.2.2.2.2.2.2.2.2.2.2.2.2.2])), (a1, .inr (7, [.ref a2, .ref a3, .ref a4, .ref a5, .int v0.1.2.2.2.2])), (a2, .inl (ca 0, 9, .inl v0.1.1)), (a8, .inr (8, [.int v0.2.2.1.1, .int v0.2.2.1.2.1, .int v0.2.2.1.2.2])), (a9, .inr (1, [.int v0.2.2.2.1.1, .int v0.2.2.2.1.2.1, .int v0.2.2.2.1.2.2.1, .int v0.2.2.2.1.2.2.2.1, .int v0.2.2.2.1.2.2.2.2.1, .int v0.2.2.2.1.2.2.2.2.2])), (a10, .inr (3, [.ref a11, .int v0.2.2.2.2.1.2.1, .int v0.2.2.2.2.1.2.2.1, .int v0.2.2.2.2.1.2.2.2.1, .int v0.2.2.2.2.1.2.2.2.2.1, .int v0.2.2.2.2.1.2.2.2.2.2.1, .int v0.2.2.2.2.1.2.2.2.2.2.2])), (a11, .inr (4, [.ref a12, .int v0.2.2.2.2.1.1.2.1, .int v0.2.2.2.2.1.1.2.2])), (a13, .inr (4, [.ref a14, .int v0.2.2.2.2.2.1.2.1, .int v0.2.2.2.2.2.1.2.2])), (a15, .inr (6, [.ref a16, .ref a17, .int v0.2.2.2.2.2.2.1.2.2])), (a18, .inr (9, [.ref a19, .int v0.2.2.2.2.2.2.2.1.2.1, .int v0.2.2.2.2.2.2.2.1.2.2.1, .int v0.2.2.2.2.2.2.2.1.2.2.2]))] sz) := by
  refine en (y := yX10_countOf) (wsm := wq_X10_countOf) (av := [.ref a0, .int p1]) (cc := cX10_countOf) (maxL := 2) (ret := (some .int)) (Qf := fun A => QI D ca r [(a0, .inr (10, [.ref a1, .ref a6, .ref a8, .ref a9, .ref a10, .ref a13, .ref a15, .ref a18, .int v0.2.2.2.2.2.2.2.2.1, .int v0.2.2.2.2.2.2.2.2.2.1, .int v0.2.2.2.2.2.2.2.2.2.2.1, .int v0.2.2.2.2.2.2.2.2.2.2.2.1, .int v0.2.2.2.2.2.2.2.2.2.2.2.2.1, .int v0.2.2.2.2.2.2.2.2.2.2.2.2.2])), (a1, .inr (7, [.ref a2, .ref a3, .ref a4, .ref a5, .int v0.1.2.2.2.2])), (a2, .inl (ca 0, 9, .inl v0.1.1)), (a8, .inr (8, [.int v0.2.2.1.1, .int v0.2.2.1.2.1, .int v0.2.2.1.2.2])), (a9, .inr (1, [.int v0.2.2.2.1.1, .int v0.2.2.2.1.2.1, .int v0.2.2.2.1.2.2.1, .int v0.2.2.2.1.2.2.2.1, .int v0.2.2.2.1.2.2.2.2.1, .int v0.2.2.2.1.2.2.2.2.2])), (a10, .inr (3, [.ref a11, .int v0.2.2.2.2.1.2.1, .int v0.2.2.2.2.1.2.2.1, .int v0.2.2.2.2.1.2.2.2.1, .int v0.2.2.2.2.1.2.2.2.2.1, .int v0.2.2.2.2.1.2.2.2.2.2.1, .int v0.2.2.2.2.1.2.2.2.2.2.2])), (a11, .inr (4, [.ref a12, .int v0.2.2.2.2.1.1.2.1, .int v0.2.2.2.2.1.1.2.2])), (a13, .inr (4, [.ref a14, .int v0.2.2.2.2.2.1.2.1, .int v0.2.2.2.2.2.1.2.2])), (a15, .inr (6, [.ref a16, .ref a17, .int v0.2.2.2.2.2.2.1.2.2])), (a18, .inr (9, [.ref a19, .int v0.2.2.2.2.2.2.2.1.2.1, .int v0.2.2.2.2.2.2.2.1.2.2.1, .int v0.2.2.2.2.2.2.2.1.2.2.2]))] A) (by decide) rfl (Nat.le_of_ble_eq_true rfl) ?_
  intro p e s m args below meth c A Q ls hx hb hr hml hown hts hlocks hnm hA hN hZ hK hQ hP hD hS hl
  have w0 := hts _ (List.mem_cons_of_mem _ gw_2_71)
  have w1 := hts _ (List.mem_cons_of_mem _ gw_2_85)
  have w2 := hts _ (List.mem_cons_of_mem _ gw_2_87)
  have w3 := hts _ (List.mem_cons_of_mem _ gw_2_88)
  have w4 := hts _ (List.mem_cons_of_mem _ gw_2_89)
  have w5 := hts _ (List.mem_cons_of_mem _ gw_2_75)
  have w6 := hts _ (List.mem_cons_of_mem _ gw_2_91)
  have w7 := hts _ (List.mem_cons_of_mem _ gw_2_92)
  have nw3 := NW.use (args := args) (w := .fieldLinkNest RX10 149 "NoiseWatch$Settings" "stuckCount" "I" "NoiseWatch") hN 3 rfl
  have nw10 := NW.use (args := args) (w := .fieldLinkNest RX10 152 "NoiseWatch$Source" "drawn" "I" "NoiseWatch") hN 10 rfl
  have i10 : ∀ w ∈ u_ws RX10 TX10 14, w ∈ wq_X10_countOf := fun w h => List.mem_cons_of_mem _ (inX10 w h)
  have i7 : ∀ w ∈ u_ws RX7 TX7 5, w ∈ wq_X10_countOf := fun w h => List.mem_cons_of_mem _ (inX7 w h)
  have i8 : ∀ w ∈ u_ws RX8 TX8 3, w ∈ wq_X10_countOf := fun w h => List.mem_cons_of_mem _ (inX8 w h)
  have b19 : ∀ (x1 : Int32), fc_X10_countOf_19 v0 x1 = some r → ∀ (H : Heap) (locs : List Loc) (ls : Array Slot), va_P D vwCl [(a0, .inr (10, [.ref a1, .ref a6, .ref a8, .ref a9, .ref a10, .ref a13, .ref a15, .ref a18, .int v0.2.2.2.2.2.2.2.2.1, .int v0.2.2.2.2.2.2.2.2.2.1, .int v0.2.2.2.2.2.2.2.2.2.2.1, .int v0.2.2.2.2.2.2.2.2.2.2.2.1, .int v0.2.2.2.2.2.2.2.2.2.2.2.2.1, .int v0.2.2.2.2.2.2.2.2.2.2.2.2.2])), (a1, .inr (7, [.ref a2, .ref a3, .ref a4, .ref a5, .int v0.1.2.2.2.2])), (a2, .inl (ca 0, 9, .inl v0.1.1)), (a8, .inr (8, [.int v0.2.2.1.1, .int v0.2.2.1.2.1, .int v0.2.2.1.2.2])), (a9, .inr (1, [.int v0.2.2.2.1.1, .int v0.2.2.2.1.2.1, .int v0.2.2.2.1.2.2.1, .int v0.2.2.2.1.2.2.2.1, .int v0.2.2.2.1.2.2.2.2.1, .int v0.2.2.2.1.2.2.2.2.2])), (a10, .inr (3, [.ref a11, .int v0.2.2.2.2.1.2.1, .int v0.2.2.2.2.1.2.2.1, .int v0.2.2.2.2.1.2.2.2.1, .int v0.2.2.2.2.1.2.2.2.2.1, .int v0.2.2.2.2.1.2.2.2.2.2.1, .int v0.2.2.2.2.1.2.2.2.2.2.2])), (a11, .inr (4, [.ref a12, .int v0.2.2.2.2.1.1.2.1, .int v0.2.2.2.2.1.1.2.2])), (a13, .inr (4, [.ref a14, .int v0.2.2.2.2.2.1.2.1, .int v0.2.2.2.2.2.1.2.2])), (a15, .inr (6, [.ref a16, .ref a17, .int v0.2.2.2.2.2.2.1.2.2])), (a18, .inr (9, [.ref a19, .int v0.2.2.2.2.2.2.2.1.2.1, .int v0.2.2.2.2.2.2.2.1.2.2.1, .int v0.2.2.2.2.2.2.2.1.2.2.2]))] H → va_D A [(a0, .inr (10, [.ref a1, .ref a6, .ref a8, .ref a9, .ref a10, .ref a13, .ref a15, .ref a18, .int v0.2.2.2.2.2.2.2.2.1, .int v0.2.2.2.2.2.2.2.2.2.1, .int v0.2.2.2.2.2.2.2.2.2.2.1, .int v0.2.2.2.2.2.2.2.2.2.2.2.1, .int v0.2.2.2.2.2.2.2.2.2.2.2.2.1, .int v0.2.2.2.2.2.2.2.2.2.2.2.2.2])), (a1, .inr (7, [.ref a2, .ref a3, .ref a4, .ref a5, .int v0.1.2.2.2.2])), (a2, .inl (ca 0, 9, .inl v0.1.1)), (a8, .inr (8, [.int v0.2.2.1.1, .int v0.2.2.1.2.1, .int v0.2.2.1.2.2])), (a9, .inr (1, [.int v0.2.2.2.1.1, .int v0.2.2.2.1.2.1, .int v0.2.2.2.1.2.2.1, .int v0.2.2.2.1.2.2.2.1, .int v0.2.2.2.1.2.2.2.2.1, .int v0.2.2.2.1.2.2.2.2.2])), (a10, .inr (3, [.ref a11, .int v0.2.2.2.2.1.2.1, .int v0.2.2.2.2.1.2.2.1, .int v0.2.2.2.2.1.2.2.2.1, .int v0.2.2.2.2.1.2.2.2.2.1, .int v0.2.2.2.2.1.2.2.2.2.2.1, .int v0.2.2.2.2.1.2.2.2.2.2.2])), (a11, .inr (4, [.ref a12, .int v0.2.2.2.2.1.1.2.1, .int v0.2.2.2.2.1.1.2.2])), (a13, .inr (4, [.ref a14, .int v0.2.2.2.2.2.1.2.1, .int v0.2.2.2.2.2.1.2.2])), (a15, .inr (6, [.ref a16, .ref a17, .int v0.2.2.2.2.2.2.1.2.2])), (a18, .inr (9, [.ref a19, .int v0.2.2.2.2.2.2.2.1.2.1, .int v0.2.2.2.2.2.2.2.1.2.2.1, .int v0.2.2.2.2.2.2.2.1.2.2.2]))] → va_S A s.heap H locs → lv_has ls 2 [(0, .ref a0), (1, .int x1)] → W p l e ({ frames := 1, cells := 0, slots := 0, locals := 21 } : Room) s m args below meth c H locs 0 0 Q (F0 m 19 ls []) := by
    intro x1 hf H locs ls hP hD hS hl
    unfold fc_X10_countOf_19 at hf
    refine lv_iload_n hx hb dX10_countOf_19 rfl (lv_at hl 1 rfl) ?_
    refine lv_bipush (v := 16) hx hb dX10_countOf_20 rfl ?_
    refine xc_lt (tgt := 31) hx hb dX10_countOf_22 (by decide) hf (fun hf => ?_) (fun hf => ?_)
    · refine lv_iload_n hx hb dX10_countOf_31 rfl (lv_at hl 1 rfl) ?_
      by_cases hcs : x1 < (8 : Int32) ∨ (15 : Int32) < x1
      · have hf := ite_t hcs hf
        refine xtabO (tgt := 126) hx hb dX10_countOf_32 (a := 8) (b := 15) rfl rfl hcs (by decide) ?_
        refine lv_iconst (v := -1) hx hb dX10_countOf_126 rfl ?_
        cases hf
        exact rt_I hx hb hr hlocks hK hP hD hS hQ rfl rfl dX10_countOf_127
      · have hf := ite_f hcs hf
        by_cases hc0 : x1 = (8 : Int32)
        · have hf := ite_t hc0 hf
          refine xtabK (tgt := 80) hx hb dX10_countOf_32 hc0 (by decide) (by decide) rfl (by decide) ?_
          refine lv_aload_n hx hb dX10_countOf_80 rfl (lv_at hl 0 rfl) ?_
          refine va_get (C := RX10) (T := TX10) (N := 14) hx hb hts i10 hown hK hP 0 rfl rfl 0 (Nat.le_of_ble_eq_true rfl) w0 (fun _ h9 => h9) rfl dX10_countOf_81 ?_
          refine va_getN (C := RX7) (T := TX7) (N := 5) hx hb hts i7 hown hK hP 1 rfl rfl 4 (Nat.le_of_ble_eq_true rfl) nw3 (fun _ h9 => h9) rfl dX10_countOf_84 ?_
          cases hf
          exact rt_I hx hb hr hlocks hK hP hD hS hQ rfl rfl dX10_countOf_87
        have hf := ite_f hc0 hf
        by_cases hc1 : x1 = (9 : Int32)
        · have hf := ite_t hc1 hf
          refine xtabK (tgt := 88) hx hb dX10_countOf_32 hc1 (by decide) (by decide) rfl (by decide) ?_
          refine lv_aload_n hx hb dX10_countOf_88 rfl (lv_at hl 0 rfl) ?_
          refine va_get (C := RX10) (T := TX10) (N := 14) hx hb hts i10 hown hK hP 0 rfl rfl 8 (Nat.le_of_ble_eq_true rfl) w1 (fun _ h9 => h9) rfl dX10_countOf_89 ?_
          cases hf
          exact rt_I hx hb hr hlocks hK hP hD hS hQ rfl rfl dX10_countOf_92
        have hf := ite_f hc1 hf
        by_cases hc2 : x1 = (10 : Int32)
        · have hf := ite_t hc2 hf
          refine xtabK (tgt := 93) hx hb dX10_countOf_32 hc2 (by decide) (by decide) rfl (by decide) ?_
          refine lv_aload_n hx hb dX10_countOf_93 rfl (lv_at hl 0 rfl) ?_
          refine va_get (C := RX10) (T := TX10) (N := 14) hx hb hts i10 hown hK hP 0 rfl rfl 9 (Nat.le_of_ble_eq_true rfl) w2 (fun _ h9 => h9) rfl dX10_countOf_94 ?_
          cases hf
          exact rt_I hx hb hr hlocks hK hP hD hS hQ rfl rfl dX10_countOf_97
        have hf := ite_f hc2 hf
        by_cases hc3 : x1 = (11 : Int32)
        · have hf := ite_t hc3 hf
          refine xtabK (tgt := 98) hx hb dX10_countOf_32 hc3 (by decide) (by decide) rfl (by decide) ?_
          refine lv_aload_n hx hb dX10_countOf_98 rfl (lv_at hl 0 rfl) ?_
          refine va_get (C := RX10) (T := TX10) (N := 14) hx hb hts i10 hown hK hP 0 rfl rfl 10 (Nat.le_of_ble_eq_true rfl) w3 (fun _ h9 => h9) rfl dX10_countOf_99 ?_
          cases hf
          exact rt_I hx hb hr hlocks hK hP hD hS hQ rfl rfl dX10_countOf_102
        have hf := ite_f hc3 hf
        by_cases hc4 : x1 = (12 : Int32)
        · have hf := ite_t hc4 hf
          refine xtabK (tgt := 103) hx hb dX10_countOf_32 hc4 (by decide) (by decide) rfl (by decide) ?_
          refine lv_aload_n hx hb dX10_countOf_103 rfl (lv_at hl 0 rfl) ?_
          refine va_get (C := RX10) (T := TX10) (N := 14) hx hb hts i10 hown hK hP 0 rfl rfl 11 (Nat.le_of_ble_eq_true rfl) w4 (fun _ h9 => h9) rfl dX10_countOf_104 ?_
          cases hf
          exact rt_I hx hb hr hlocks hK hP hD hS hQ rfl rfl dX10_countOf_107
        have hf := ite_f hc4 hf
        by_cases hc5 : x1 = (13 : Int32)
        · have hf := ite_t hc5 hf
          refine xtabK (tgt := 108) hx hb dX10_countOf_32 hc5 (by decide) (by decide) rfl (by decide) ?_
          refine lv_aload_n hx hb dX10_countOf_108 rfl (lv_at hl 0 rfl) ?_
          refine va_get (C := RX10) (T := TX10) (N := 14) hx hb hts i10 hown hK hP 0 rfl rfl 2 (Nat.le_of_ble_eq_true rfl) w5 (fun _ h9 => h9) rfl dX10_countOf_109 ?_
          refine va_getN (C := RX8) (T := TX8) (N := 3) hx hb hts i8 hown hK hP 3 rfl rfl 1 (Nat.le_of_ble_eq_true rfl) nw10 (fun _ h9 => h9) rfl dX10_countOf_112 ?_
          cases hf
          exact rt_I hx hb hr hlocks hK hP hD hS hQ rfl rfl dX10_countOf_115
        have hf := ite_f hc5 hf
        by_cases hc6 : x1 = (14 : Int32)
        · have hf := ite_t hc6 hf
          refine xtabK (tgt := 116) hx hb dX10_countOf_32 hc6 (by decide) (by decide) rfl (by decide) ?_
          refine lv_aload_n hx hb dX10_countOf_116 rfl (lv_at hl 0 rfl) ?_
          refine va_get (C := RX10) (T := TX10) (N := 14) hx hb hts i10 hown hK hP 0 rfl rfl 12 (Nat.le_of_ble_eq_true rfl) w6 (fun _ h9 => h9) rfl dX10_countOf_117 ?_
          cases hf
          exact rt_I hx hb hr hlocks hK hP hD hS hQ rfl rfl dX10_countOf_120
        have hf := ite_f hc6 hf
        by_cases hc7 : x1 = (15 : Int32)
        · have hf := ite_t hc7 hf
          refine xtabK (tgt := 121) hx hb dX10_countOf_32 hc7 (by decide) (by decide) rfl (by decide) ?_
          refine lv_aload_n hx hb dX10_countOf_121 rfl (lv_at hl 0 rfl) ?_
          refine va_get (C := RX10) (T := TX10) (N := 14) hx hb hts i10 hown hK hP 0 rfl rfl 13 (Nat.le_of_ble_eq_true rfl) w7 (fun _ h9 => h9) rfl dX10_countOf_122 ?_
          cases hf
          exact rt_I hx hb hr hlocks hK hP hD hS hQ rfl rfl dX10_countOf_125
        have hf := ite_f hc7 hf
        exact no_el hf
    · refine lv_aload_n hx hb dX10_countOf_25 rfl (lv_at hl 0 rfl) ?_
      refine lv_iload_n hx hb dX10_countOf_26 rfl (lv_at hl 1 rfl) ?_
      obtain ⟨r_1, hc1, hf⟩ := bnd1_el hf
      refine xV_I (As := [.int x1]) (wx := [(a0, .inr (10, [.ref a1, .ref a6, .ref a8, .ref a9, .ref a10, .ref a13, .ref a15, .ref a18, .int v0.2.2.2.2.2.2.2.2.1, .int v0.2.2.2.2.2.2.2.2.2.1, .int v0.2.2.2.2.2.2.2.2.2.2.1, .int v0.2.2.2.2.2.2.2.2.2.2.2.1, .int v0.2.2.2.2.2.2.2.2.2.2.2.2.1, .int v0.2.2.2.2.2.2.2.2.2.2.2.2.2])), (a1, .inr (7, [.ref a2, .ref a3, .ref a4, .ref a5, .int v0.1.2.2.2.2])), (a2, .inl (ca 0, 9, .inl v0.1.1)), (a8, .inr (8, [.int v0.2.2.1.1, .int v0.2.2.1.2.1, .int v0.2.2.1.2.2])), (a9, .inr (1, [.int v0.2.2.2.1.1, .int v0.2.2.2.1.2.1, .int v0.2.2.2.1.2.2.1, .int v0.2.2.2.1.2.2.2.1, .int v0.2.2.2.1.2.2.2.2.1, .int v0.2.2.2.1.2.2.2.2.2])), (a10, .inr (3, [.ref a11, .int v0.2.2.2.2.1.2.1, .int v0.2.2.2.2.1.2.2.1, .int v0.2.2.2.2.1.2.2.2.1, .int v0.2.2.2.2.1.2.2.2.2.1, .int v0.2.2.2.2.1.2.2.2.2.2.1, .int v0.2.2.2.2.1.2.2.2.2.2.2])), (a11, .inr (4, [.ref a12, .int v0.2.2.2.2.1.1.2.1, .int v0.2.2.2.2.1.1.2.2])), (a13, .inr (4, [.ref a14, .int v0.2.2.2.2.2.1.2.1, .int v0.2.2.2.2.2.1.2.2])), (a15, .inr (6, [.ref a16, .ref a17, .int v0.2.2.2.2.2.2.1.2.2])), (a18, .inr (9, [.ref a19, .int v0.2.2.2.2.2.2.2.1.2.1, .int v0.2.2.2.2.2.2.2.1.2.2.1, .int v0.2.2.2.2.2.2.2.1.2.2.2]))]) ⟨hx, hb, hml, hown, hts⟩ (c_X10_countOfParts l D ca zz a0 a1 a6 a8 a9 a10 a11 a12 a13 a14 a15 a16 a17 a18 a19 _ v0 x1 r_1 hc1) (cwV 1 hts (gV gw_4_10 gw_4_12 gw_s_1_11 gw_1_2 gw_4_13) rfl rfl rfl (by decide +kernel) ⟨(Nat.le_of_ble_eq_true rfl), (Nat.le_of_ble_eq_true rfl)⟩) hK hN hZ hA hP hD hS [0, 4, 5, 6, 7, 8, 9] rfl rfl rfl rfl 0 rfl rfl hl.1 rfl (Nat.le_of_ble_eq_true rfl) dX10_countOf_27 ⟨Nat.zero_le _, Nat.zero_le _⟩ rfl (fun H locs hP hD hS => ?_)
      cases hf
      exact rt_I hx hb hr hlocks hK hP hD hS hQ rfl rfl dX10_countOf_30
  unfold f_X10_countOf at hf
  refine lv_iload_n hx hb dX10_countOf_0 rfl (lv_at hl 1 rfl) ?_
  refine xi_lt (tgt := 19) hx hb dX10_countOf_1 (by decide) hf (fun hf => ?_) (fun hf => ?_)
  · exact b19 p1 hf _ _ _ hP hD hS (lv_sub hl [0, 1] rfl)
  · refine lv_iload_n hx hb dX10_countOf_4 rfl (lv_at hl 1 rfl) ?_
    refine lv_bipush (v := 7) hx hb dX10_countOf_5 rfl ?_
    refine xc_gt (tgt := 19) hx hb dX10_countOf_7 (by decide) hf (fun hf => ?_) (fun hf => ?_)
    · exact b19 p1 hf _ _ _ hP hD hS (lv_sub hl [0, 1] rfl)
    · refine lv_aload_n hx hb dX10_countOf_10 rfl (lv_at hl 0 rfl) ?_
      refine va_get (C := RX10) (T := TX10) (N := 14) hx hb hts i10 hown hK hP 0 rfl rfl 0 (Nat.le_of_ble_eq_true rfl) w0 (fun _ h9 => h9) rfl dX10_countOf_11 ?_
      refine lv_iload_n hx hb dX10_countOf_14 rfl (lv_at hl 1 rfl) ?_
      obtain ⟨r_2, hc2, hf⟩ := bnd1_el hf
      refine xV_I (As := [.int p1]) (wx := [(a0, .inr (10, [.ref a1, .ref a6, .ref a8, .ref a9, .ref a10, .ref a13, .ref a15, .ref a18, .int v0.2.2.2.2.2.2.2.2.1, .int v0.2.2.2.2.2.2.2.2.2.1, .int v0.2.2.2.2.2.2.2.2.2.2.1, .int v0.2.2.2.2.2.2.2.2.2.2.2.1, .int v0.2.2.2.2.2.2.2.2.2.2.2.2.1, .int v0.2.2.2.2.2.2.2.2.2.2.2.2.2])), (a1, .inr (7, [.ref a2, .ref a3, .ref a4, .ref a5, .int v0.1.2.2.2.2])), (a2, .inl (ca 0, 9, .inl v0.1.1)), (a8, .inr (8, [.int v0.2.2.1.1, .int v0.2.2.1.2.1, .int v0.2.2.1.2.2])), (a9, .inr (1, [.int v0.2.2.2.1.1, .int v0.2.2.2.1.2.1, .int v0.2.2.2.1.2.2.1, .int v0.2.2.2.1.2.2.2.1, .int v0.2.2.2.1.2.2.2.2.1, .int v0.2.2.2.1.2.2.2.2.2])), (a10, .inr (3, [.ref a11, .int v0.2.2.2.2.1.2.1, .int v0.2.2.2.2.1.2.2.1, .int v0.2.2.2.2.1.2.2.2.1, .int v0.2.2.2.2.1.2.2.2.2.1, .int v0.2.2.2.2.1.2.2.2.2.2.1, .int v0.2.2.2.2.1.2.2.2.2.2.2])), (a11, .inr (4, [.ref a12, .int v0.2.2.2.2.1.1.2.1, .int v0.2.2.2.2.1.1.2.2])), (a13, .inr (4, [.ref a14, .int v0.2.2.2.2.2.1.2.1, .int v0.2.2.2.2.2.1.2.2])), (a15, .inr (6, [.ref a16, .ref a17, .int v0.2.2.2.2.2.2.1.2.2])), (a18, .inr (9, [.ref a19, .int v0.2.2.2.2.2.2.2.1.2.1, .int v0.2.2.2.2.2.2.2.1.2.2.1, .int v0.2.2.2.2.2.2.2.1.2.2.2]))]) ⟨hx, hb, hml, hown, hts⟩ (c_X7_valueOf l D ca zz a1 a2 a3 a4 a5 _ v0.1 p1 r_2 hc2) (cwV 1 hts (gV gw_2_14 gw_2_15 gw_2_16 gw_1_3 gw_2_17) rfl rfl rfl (by decide +kernel) ⟨(Nat.le_of_ble_eq_true rfl), (Nat.le_of_ble_eq_true rfl)⟩) hK hN hZ hA hP hD hS [1, 2] rfl rfl rfl rfl 1 rfl rfl hl.1 rfl (Nat.le_of_ble_eq_true rfl) dX10_countOf_15 ⟨Nat.zero_le _, Nat.zero_le _⟩ rfl (fun H locs hP hD hS => ?_)
      cases hf
      exact rt_I hx hb hr hlocks hK hP hD hS hQ rfl rfl dX10_countOf_18
abbrev wq_X11_count : List Cond := Cond.code yX11_count cX11_count 2 (some .int) :: GL
set_option maxHeartbeats 4000000 in
set_option maxRecDepth 100000 in
theorem c_X11_count (l : Launch) (D : va_G) (ca : Nat → ClassId) (zz : Nat → Nat) (a0 a1 a2 a3 a4 a5 a6 a7 a9 a10 a11 a12 a13 a14 a15 a16 a17 a18 a19 a20 a21 a41 a42 a49 a52 a54 a55 : Nat) (sz : Nat) (v0 : V11) (p1 : Int32) (r : Int32) (hf : f_X11_count v0 p1 = some r) : Met l yX11_count wq_X11_count ({ frames := 2, cells := 0, slots := 0, locals := 42 } : Room) (PR D ca zz [.ref a0, .int p1] sz [(a0, .inr (11, [.ref a1, .ref a21, .ref a41, .ref a42, .ref a49, .ref a52, .ref a54, .ref a55])), (a1, .inr (10, [.ref a2, .ref a7, .ref a9, .ref a10, .ref a11, .ref a14, .ref a16, .ref a19, .int v0.1.2.2.2.2.2.2.2.2.1, .int v0.1.2.2.2.2.2.2.2.2.2.1, .int v0.1.2.2.2.2.2.2.2.2.2.2.1, .int v0.1.2.2.2.2.2.2.2.2.2.2.2.1, .int v0.1.2.2.2.2.2.2.2.2.2.2.2.2.1, .int v0.1.2.2.2.2.2.2.2.2.2.2.2.2.2])), (a2, .inr (7, [.ref a3, .ref a4, .ref a5, .ref a6, .int v0.1.1.2.2.2.2])), (a3, .inl (ca 0, 9, .inl v0.1.1.1)), (a9, .inr (8, [.int v0.1.2.2.1.1, .int v0.1.2.2.1.2.1, .int v0.1.2.2.1.2.2])), (a10, .inr (1, [.int v0.1.2.2.2.1.1, .int v0.1.2.2.2.1.2.1, .int v0.1.2.2.2.1.2.2.1, .int v0.1.2.2.2.1.2.2.2.1, .int v0.1.2.2.2.1.2.2.2.2.1, .int v0.1.2.2.2.1.2.2.2.2.2])), (a11, .inr (3, [.ref a12, .int v0.1.2.2.2.2.1.2.1, .int v0.1.2.2.2.2.1.2.2.1, .int v0.1.2.2.2.2.1.2.2.2.1, .int v0.1.2.2.2.2.1.2.2.2.2.1, .int v0.1.2.2.2.2.1.2.2.2.2.2.1, .int v0.1.2.2.2.2.1.2.2.2.2.2.2])), (a12, .inr (4, [.ref a13, .int v0.1.2.2.2.2.1.1.2.1, .int v0.1.2.2.2.2.1.1.2.2])), (a14, .inr (4, [.ref a15, .int v0.1.2.2.2.2.2.1.2.1, .int v0.1.2.2.2.2.2.1.2.2])), (a16, .inr (6, [.ref a17, .ref a18, .int v0.1.2.2.2.2.2.2.1.2.2])), (a19, .inr (9, [.ref a20, .int v0.1.2.2.2.2.2.2.2.1.2.1, .int v0.1.2.2.2.2.2.2.2.1.2.2.1, .int v0.1.2.2.2.2.2.2.2.1.2.2.2]))]) (QI D ca r [(a0, .inr (11, [.ref a1, .ref a21, .ref a41, .ref a42, .ref a49, .ref a52, .ref a54, .ref a55])), (a1, .inr (10, [.ref a2, .ref a7, .ref a9, .ref a10, .ref a11, .ref a14, .ref a16, .ref a19, .int v0.1.2.2.2.2.2.2.2.2.1, .int v0.1.2.2.2.2.2.2.2.2.2.1, .int v0.1.2.2.2.2.2.2.2.2.2.2.1, .int v0.1.2.2.2.2.2.2.2.2.2.2.2.1, .int v0.1.2.2.2.2.2.2.2.2.2.2.2.2.1, .int v0.1.2.2.2.2.2.2.2.2.2.2.2.2.2])), (a2, .inr (7, [.ref a3, .ref a4, .ref a5, .ref a6, .int v0.1.1.2.2.2.2])), (a3, .inl (ca 0, 9, .inl v0.1.1.1)), (a9, .inr (8, [.int v0.1.2.2.1.1, .int v0.1.2.2.1.2.1, .int v0.1.2.2.1.2.2])), (a10, .inr (1, [.int v0.1.2.2.2.1.1, .int v0.1.2.2.2.1.2.1, .int v0.1.2.2.2.1.2.2.1, .int v0.1.2.2.2.1.2.2.2.1, .int v0.1.2.2.2.1.2.2.2.2.1, .int v0.1.2.2.2.1.2.2.2.2.2])), (a11, .inr (3, [.ref a12, .int v0.1.2.2.2.2.1.2.1, .int v0.1.2.2.2.2.1.2.2.1, .int v0.1.2.2.2.2.1.2.2.2.1, .int v0.1.2.2.2.2.1.2.2.2.2.1, .int v0.1.2.2.2.2.1.2.2.2.2.2.1, .int v0.1.2.2.2.2.1.2.2.2.2.2.2])), (a12, .inr (4, [.ref a13, .int v0.1.2.2.2.2.1.1.2.1, .int v0.1.2.2.2.2.1.1.2.2])), (a14, .inr (4, [.ref a15, .int v0.1.2.2.2.2.2.1.2.1, .int v0.1.2.2.2.2.2.1.2.2])), (a16, .inr (6, [.ref a17, .ref a18, .int v0.1.2.2.2.2.2.2.1.2.2])), (a19, .inr (9, [.ref a20, .int v0.1.2.2.2.2.2.2.2.1.2.1, .int v0.1.2.2.2.2.2.2.2.1.2.2.1, .int v0.1.2.2.2.2.2.2.2.1.2.2.2]))] (va_A [(a0, .inr (11, [.ref a1, .ref a21, .ref a41, .ref a42, .ref a49, .ref a52, .ref a54, .ref a55])), (a1, .inr (10, [.ref a2, .ref a7, .ref a9, .ref a10, .ref a11, .ref a14, .ref a16, .ref a19, .int v0.1.2.2.2.2.2.2.2.2.1, .int v0.1.2.2.2.2.2.2.2.2.2.1, .int v0.1.2.2.2.2.2.2.2.2.2.2.1, .int v0.1.2.2.2.2.2.2.2.2.2.2.2.1, .int v0.1.2.2.2.2.2.2.2.2.2.2.2.2.1, .int v0.1.2.2.2.2.2.2.2.2.2.2.2.2.2])), (a2, .inr (7, [.ref a3, .ref a4, .ref a5, .ref a6, .int v0.1.1.2.2.2.2])), (a3, .inl (ca 0, 9, .inl v0.1.1.1)), (a9, .inr (8, [.int v0.1.2.2.1.1, .int v0.1.2.2.1.2.1, .int v0.1.2.2.1.2.2])), (a10, .inr (1, [.int v0.1.2.2.2.1.1, .int v0.1.2.2.2.1.2.1, .int v0.1.2.2.2.1.2.2.1, .int v0.1.2.2.2.1.2.2.2.1, .int v0.1.2.2.2.1.2.2.2.2.1, .int v0.1.2.2.2.1.2.2.2.2.2])), (a11, .inr (3, [.ref a12, .int v0.1.2.2.2.2.1.2.1, .int v0.1.2.2.2.2.1.2.2.1, .int v0.1.2.2.2.2.1.2.2.2.1, .int v0.1.2.2.2.2.1.2.2.2.2.1, .int v0.1.2.2.2.2.1.2.2.2.2.2.1, .int v0.1.2.2.2.2.1.2.2.2.2.2.2])), (a12, .inr (4, [.ref a13, .int v0.1.2.2.2.2.1.1.2.1, .int v0.1.2.2.2.2.1.1.2.2])), (a14, .inr (4, [.ref a15, .int v0.1.2.2.2.2.2.1.2.1, .int v0.1.2.2.2.2.2.1.2.2])), (a16, .inr (6, [.ref a17, .ref a18, .int v0.1.2.2.2.2.2.2.1.2.2])), (a19, .inr (9, [.ref a20, .int v0.1.2.2.2.2.2.2.2.1.2.1, .int v0.1.2.2.2.2.2.2.2.1.2.2.1, .int v0.1.2.2.2.2.2.2.2.1.2.2.2]))] sz)) 0 0 (va_A [(a0, .inr (11, [.ref a1, .ref a21, .ref a41, .ref a42, .ref a49, .ref a52, .ref a54, .ref a55])), (a1, .inr (10, [.ref a2, .ref a7, .ref a9, .ref a10, .ref a11, .ref a14, .ref a16, .ref a19, .int v0.1.2.2.2.2.2.2.2.2.1, .int v0.1.2.2.2.2.2.2.2.2.2.1, .int v0.1.2.2.2.2.2.2.2.2.2.2.1, .int v0.1.2.2.2.2.2.2.2.2.2.2.2.1, .int v0.1.2.2.2.2.2.2.2.2.2.2.2.2.1, .int v0.1.2.2.2.2.2.2.2.2.2.2.2.2.2])), (a2, .inr (7, [.ref a3, .ref a4, .ref a5, .ref a6, .int v0.1.1.2.2.2.2])), (a3, .inl (ca 0, 9, .inl v0.1.1.1)), (a9, .inr (8, [.int v0.1.2.2.1.1, .int v0.1.2.2.1.2.1, .int v0.1.2.2.1.2.2])), (a10, .inr (1, [.int v0.1.2.2.2.1.1, .int v0.1.2.2.2.1.2.1, .int v0.1.2.2.2.1.2.2.1, .int v0.1.2.2.2.1.2.2.2.1, .int v0.1.2.2.2.1.2.2.2.2.1, .int v0.1.2.2.2.1.2.2.2.2.2])), (a11, .inr (3, [.ref a12, .int v0.1.2.2.2.2.1.2.1, .int v0.1.2.2.2.2.1.2.2.1, .int v0.1.2.2.2.2.1.2.2.2.1, .int v0.1.2.2.2.2.1.2.2.2.2.1, .int v0.1.2.2.2.2.1.2.2.2.2.2.1, .int v0.1.2.2.2.2.1.2.2.2.2.2.2])), (a12, .inr (4, [.ref a13, .int v0.1.2.2.2.2.1.1.2.1, .int v0.1.2.2.2.2.1.1.2.2])), (a14, .inr (4, [.ref a15, .int v0.1.2.2.2.2.2.1.2.1, .int v0.1.2.2.2.2.2.1.2.2])), (a16, .inr (6, [.ref a17, .ref a18, .int v0.1.2.2.2.2.2.2.1.2.2])), (a19, .inr (9, [.ref a20, .int v0.1.2.2.2.2.2.2.2.1.2.1, .int v0.1.2.2.2.2.2.2.2.1.2.2.1, .int v0.1.2.2.2.2.2.2.2.1.2.2.2]))] sz) := by
  refine en (y := yX11_count) (wsm := wq_X11_count) (av := [.ref a0, .int p1]) (cc := cX11_count) (maxL := 2) (ret := (some .int)) (Qf := fun A => QI D ca r [(a0, .inr (11, [.ref a1, .ref a21, .ref a41, .ref a42, .ref a49, .ref a52, .ref a54, .ref a55])), (a1, .inr (10, [.ref a2, .ref a7, .ref a9, .ref a10, .ref a11, .ref a14, .ref a16, .ref a19, .int v0.1.2.2.2.2.2.2.2.2.1, .int v0.1.2.2.2.2.2.2.2.2.2.1, .int v0.1.2.2.2.2.2.2.2.2.2.2.1, .int v0.1.2.2.2.2.2.2.2.2.2.2.2.1, .int v0.1.2.2.2.2.2.2.2.2.2.2.2.2.1, .int v0.1.2.2.2.2.2.2.2.2.2.2.2.2.2])), (a2, .inr (7, [.ref a3, .ref a4, .ref a5, .ref a6, .int v0.1.1.2.2.2.2])), (a3, .inl (ca 0, 9, .inl v0.1.1.1)), (a9, .inr (8, [.int v0.1.2.2.1.1, .int v0.1.2.2.1.2.1, .int v0.1.2.2.1.2.2])), (a10, .inr (1, [.int v0.1.2.2.2.1.1, .int v0.1.2.2.2.1.2.1, .int v0.1.2.2.2.1.2.2.1, .int v0.1.2.2.2.1.2.2.2.1, .int v0.1.2.2.2.1.2.2.2.2.1, .int v0.1.2.2.2.1.2.2.2.2.2])), (a11, .inr (3, [.ref a12, .int v0.1.2.2.2.2.1.2.1, .int v0.1.2.2.2.2.1.2.2.1, .int v0.1.2.2.2.2.1.2.2.2.1, .int v0.1.2.2.2.2.1.2.2.2.2.1, .int v0.1.2.2.2.2.1.2.2.2.2.2.1, .int v0.1.2.2.2.2.1.2.2.2.2.2.2])), (a12, .inr (4, [.ref a13, .int v0.1.2.2.2.2.1.1.2.1, .int v0.1.2.2.2.2.1.1.2.2])), (a14, .inr (4, [.ref a15, .int v0.1.2.2.2.2.2.1.2.1, .int v0.1.2.2.2.2.2.1.2.2])), (a16, .inr (6, [.ref a17, .ref a18, .int v0.1.2.2.2.2.2.2.1.2.2])), (a19, .inr (9, [.ref a20, .int v0.1.2.2.2.2.2.2.2.1.2.1, .int v0.1.2.2.2.2.2.2.2.1.2.2.1, .int v0.1.2.2.2.2.2.2.2.1.2.2.2]))] A) (by decide) rfl (Nat.le_of_ble_eq_true rfl) ?_
  intro p e s m args below meth c A Q ls hx hb hr hml hown hts hlocks hnm hA hN hZ hK hQ hP hD hS hl
  have w0 := hts _ (List.mem_cons_of_mem _ gw_2_187)
  have i11 : ∀ w ∈ u_ws RX11 TX11 8, w ∈ wq_X11_count := fun w h => List.mem_cons_of_mem _ (inX11 w h)
  unfold f_X11_count at hf
  refine lv_aload_n hx hb dX11_count_0 rfl (lv_at hl 0 rfl) ?_
  refine va_get (C := RX11) (T := TX11) (N := 8) hx hb hts i11 hown hK hP 0 rfl rfl 0 (Nat.le_of_ble_eq_true rfl) w0 (fun _ h9 => h9) rfl dX11_count_1 ?_
  refine lv_iload_n hx hb dX11_count_4 rfl (lv_at hl 1 rfl) ?_
  obtain ⟨r_1, hc1, hf⟩ := bnd1_el hf
  refine xV_I (As := [.int p1]) (wx := [(a0, .inr (11, [.ref a1, .ref a21, .ref a41, .ref a42, .ref a49, .ref a52, .ref a54, .ref a55])), (a1, .inr (10, [.ref a2, .ref a7, .ref a9, .ref a10, .ref a11, .ref a14, .ref a16, .ref a19, .int v0.1.2.2.2.2.2.2.2.2.1, .int v0.1.2.2.2.2.2.2.2.2.2.1, .int v0.1.2.2.2.2.2.2.2.2.2.2.1, .int v0.1.2.2.2.2.2.2.2.2.2.2.2.1, .int v0.1.2.2.2.2.2.2.2.2.2.2.2.2.1, .int v0.1.2.2.2.2.2.2.2.2.2.2.2.2.2])), (a2, .inr (7, [.ref a3, .ref a4, .ref a5, .ref a6, .int v0.1.1.2.2.2.2])), (a3, .inl (ca 0, 9, .inl v0.1.1.1)), (a9, .inr (8, [.int v0.1.2.2.1.1, .int v0.1.2.2.1.2.1, .int v0.1.2.2.1.2.2])), (a10, .inr (1, [.int v0.1.2.2.2.1.1, .int v0.1.2.2.2.1.2.1, .int v0.1.2.2.2.1.2.2.1, .int v0.1.2.2.2.1.2.2.2.1, .int v0.1.2.2.2.1.2.2.2.2.1, .int v0.1.2.2.2.1.2.2.2.2.2])), (a11, .inr (3, [.ref a12, .int v0.1.2.2.2.2.1.2.1, .int v0.1.2.2.2.2.1.2.2.1, .int v0.1.2.2.2.2.1.2.2.2.1, .int v0.1.2.2.2.2.1.2.2.2.2.1, .int v0.1.2.2.2.2.1.2.2.2.2.2.1, .int v0.1.2.2.2.2.1.2.2.2.2.2.2])), (a12, .inr (4, [.ref a13, .int v0.1.2.2.2.2.1.1.2.1, .int v0.1.2.2.2.2.1.1.2.2])), (a14, .inr (4, [.ref a15, .int v0.1.2.2.2.2.2.1.2.1, .int v0.1.2.2.2.2.2.1.2.2])), (a16, .inr (6, [.ref a17, .ref a18, .int v0.1.2.2.2.2.2.2.1.2.2])), (a19, .inr (9, [.ref a20, .int v0.1.2.2.2.2.2.2.2.1.2.1, .int v0.1.2.2.2.2.2.2.2.1.2.2.1, .int v0.1.2.2.2.2.2.2.2.1.2.2.2]))]) ⟨hx, hb, hml, hown, hts⟩ (c_X10_countOf l D ca zz a1 a2 a3 a4 a5 a6 a7 a9 a10 a11 a12 a13 a14 a15 a16 a17 a18 a19 a20 _ v0.1 p1 r_1 hc1) (cwV 1 hts (gV gw_4_6 gw_4_7 gw_4_8 gw_1_2 gw_4_9) rfl rfl rfl (by decide +kernel) ⟨(Nat.le_of_ble_eq_true rfl), (Nat.le_of_ble_eq_true rfl)⟩) hK hN hZ hA hP hD hS [1, 2, 3, 4, 5, 6, 7, 8, 9, 10] rfl rfl rfl rfl 1 rfl rfl hl.1 rfl (Nat.le_of_ble_eq_true rfl) dX11_count_5 ⟨Nat.zero_le _, Nat.zero_le _⟩ rfl (fun H locs hP hD hS => ?_)
  cases hf
  exact rt_I hx hb hr hlocks hK hP hD hS hQ rfl rfl dX11_count_8
abbrev wq_X11_rowsOf : List Cond := Cond.code yX11_rowsOf cX11_rowsOf 2 (some .int) :: GL
set_option maxHeartbeats 4000000 in
set_option maxRecDepth 100000 in
theorem c_X11_rowsOf (l : Launch) (D : va_G) (ca : Nat → ClassId) (zz : Nat → Nat) (a0 a1 a2 a3 a4 a5 a6 a7 a9 a10 a11 a14 a16 a19 a21 a41 a42 a49 a52 a53 a54 a55 : Nat) (sz : Nat) (v0 : V11) (p1 : Int32) (r : Int32) (v0' : V11) (hf : f_X11_rowsOf v0 p1 = some (r, v0')) : Met l yX11_rowsOf wq_X11_rowsOf ({ frames := 2, cells := 0, slots := 0, locals := 48 } : Room) (PR D ca zz [.ref a0, .int p1] sz [(a0, .inr (11, [.ref a1, .ref a21, .ref a41, .ref a42, .ref a49, .ref a52, .ref a54, .ref a55])), (a1, .inr (10, [.ref a2, .ref a7, .ref a9, .ref a10, .ref a11, .ref a14, .ref a16, .ref a19, .int v0.1.2.2.2.2.2.2.2.2.1, .int v0.1.2.2.2.2.2.2.2.2.2.1, .int v0.1.2.2.2.2.2.2.2.2.2.2.1, .int v0.1.2.2.2.2.2.2.2.2.2.2.2.1, .int v0.1.2.2.2.2.2.2.2.2.2.2.2.2.1, .int v0.1.2.2.2.2.2.2.2.2.2.2.2.2.2])), (a2, .inr (7, [.ref a3, .ref a4, .ref a5, .ref a6, .int v0.1.1.2.2.2.2])), (a3, .inl (ca 0, 9, .inl v0.1.1.1)), (a52, .inr (2, [.ref a53, .int v0.2.2.2.2.2.1.2.1, .int v0.2.2.2.2.2.1.2.2.1, .int v0.2.2.2.2.2.1.2.2.2.1, .int v0.2.2.2.2.2.1.2.2.2.2])), (a53, .inl (ca 1, 17, .inr (.inl v0.2.2.2.2.2.1.1)))]) (QI D ca r [(a0, .inr (11, [.ref a1, .ref a21, .ref a41, .ref a42, .ref a49, .ref a52, .ref a54, .ref a55])), (a1, .inr (10, [.ref a2, .ref a7, .ref a9, .ref a10, .ref a11, .ref a14, .ref a16, .ref a19, .int v0'.1.2.2.2.2.2.2.2.2.1, .int v0'.1.2.2.2.2.2.2.2.2.2.1, .int v0'.1.2.2.2.2.2.2.2.2.2.2.1, .int v0'.1.2.2.2.2.2.2.2.2.2.2.2.1, .int v0'.1.2.2.2.2.2.2.2.2.2.2.2.2.1, .int v0'.1.2.2.2.2.2.2.2.2.2.2.2.2.2])), (a2, .inr (7, [.ref a3, .ref a4, .ref a5, .ref a6, .int v0'.1.1.2.2.2.2])), (a3, .inl (ca 0, 9, .inl v0'.1.1.1)), (a52, .inr (2, [.ref a53, .int v0'.2.2.2.2.2.1.2.1, .int v0'.2.2.2.2.2.1.2.2.1, .int v0'.2.2.2.2.2.1.2.2.2.1, .int v0'.2.2.2.2.2.1.2.2.2.2])), (a53, .inl (ca 1, 17, .inr (.inl v0'.2.2.2.2.2.1.1)))] (va_A [(a0, .inr (11, [.ref a1, .ref a21, .ref a41, .ref a42, .ref a49, .ref a52, .ref a54, .ref a55])), (a1, .inr (10, [.ref a2, .ref a7, .ref a9, .ref a10, .ref a11, .ref a14, .ref a16, .ref a19, .int v0.1.2.2.2.2.2.2.2.2.1, .int v0.1.2.2.2.2.2.2.2.2.2.1, .int v0.1.2.2.2.2.2.2.2.2.2.2.1, .int v0.1.2.2.2.2.2.2.2.2.2.2.2.1, .int v0.1.2.2.2.2.2.2.2.2.2.2.2.2.1, .int v0.1.2.2.2.2.2.2.2.2.2.2.2.2.2])), (a2, .inr (7, [.ref a3, .ref a4, .ref a5, .ref a6, .int v0.1.1.2.2.2.2])), (a3, .inl (ca 0, 9, .inl v0.1.1.1)), (a52, .inr (2, [.ref a53, .int v0.2.2.2.2.2.1.2.1, .int v0.2.2.2.2.2.1.2.2.1, .int v0.2.2.2.2.2.1.2.2.2.1, .int v0.2.2.2.2.2.1.2.2.2.2])), (a53, .inl (ca 1, 17, .inr (.inl v0.2.2.2.2.2.1.1)))] sz)) 0 0 (va_A [(a0, .inr (11, [.ref a1, .ref a21, .ref a41, .ref a42, .ref a49, .ref a52, .ref a54, .ref a55])), (a1, .inr (10, [.ref a2, .ref a7, .ref a9, .ref a10, .ref a11, .ref a14, .ref a16, .ref a19, .int v0.1.2.2.2.2.2.2.2.2.1, .int v0.1.2.2.2.2.2.2.2.2.2.1, .int v0.1.2.2.2.2.2.2.2.2.2.2.1, .int v0.1.2.2.2.2.2.2.2.2.2.2.2.1, .int v0.1.2.2.2.2.2.2.2.2.2.2.2.2.1, .int v0.1.2.2.2.2.2.2.2.2.2.2.2.2.2])), (a2, .inr (7, [.ref a3, .ref a4, .ref a5, .ref a6, .int v0.1.1.2.2.2.2])), (a3, .inl (ca 0, 9, .inl v0.1.1.1)), (a52, .inr (2, [.ref a53, .int v0.2.2.2.2.2.1.2.1, .int v0.2.2.2.2.2.1.2.2.1, .int v0.2.2.2.2.2.1.2.2.2.1, .int v0.2.2.2.2.2.1.2.2.2.2])), (a53, .inl (ca 1, 17, .inr (.inl v0.2.2.2.2.2.1.1)))] sz) := by
  refine en (y := yX11_rowsOf) (wsm := wq_X11_rowsOf) (av := [.ref a0, .int p1]) (cc := cX11_rowsOf) (maxL := 2) (ret := (some .int)) (Qf := fun A => QI D ca r [(a0, .inr (11, [.ref a1, .ref a21, .ref a41, .ref a42, .ref a49, .ref a52, .ref a54, .ref a55])), (a1, .inr (10, [.ref a2, .ref a7, .ref a9, .ref a10, .ref a11, .ref a14, .ref a16, .ref a19, .int v0'.1.2.2.2.2.2.2.2.2.1, .int v0'.1.2.2.2.2.2.2.2.2.2.1, .int v0'.1.2.2.2.2.2.2.2.2.2.2.1, .int v0'.1.2.2.2.2.2.2.2.2.2.2.2.1, .int v0'.1.2.2.2.2.2.2.2.2.2.2.2.2.1, .int v0'.1.2.2.2.2.2.2.2.2.2.2.2.2.2])), (a2, .inr (7, [.ref a3, .ref a4, .ref a5, .ref a6, .int v0'.1.1.2.2.2.2])), (a3, .inl (ca 0, 9, .inl v0'.1.1.1)), (a52, .inr (2, [.ref a53, .int v0'.2.2.2.2.2.1.2.1, .int v0'.2.2.2.2.2.1.2.2.1, .int v0'.2.2.2.2.2.1.2.2.2.1, .int v0'.2.2.2.2.2.1.2.2.2.2])), (a53, .inl (ca 1, 17, .inr (.inl v0'.2.2.2.2.2.1.1)))] A) (by decide) rfl (Nat.le_of_ble_eq_true rfl) ?_
  intro p e s m args below meth c A Q ls hx hb hr hml hown hts hlocks hnm hA hN hZ hK hQ hP hD hS hl
  have w0 := hts _ (List.mem_cons_of_mem _ gw_2_192)
  have w1 := hts _ (List.mem_cons_of_mem _ gw_2_187)
  have nw34 := NW.use (args := args) (w := .fieldLinkNest RX11 79 "NoiseWatch$Watch" "settings" "LNoiseWatch$Settings;" "NoiseWatch") hN 34 rfl
  have i10 : ∀ w ∈ u_ws RX10 TX10 14, w ∈ wq_X11_rowsOf := fun w h => List.mem_cons_of_mem _ (inX10 w h)
  have i11 : ∀ w ∈ u_ws RX11 TX11 8, w ∈ wq_X11_rowsOf := fun w h => List.mem_cons_of_mem _ (inX11 w h)
  unfold f_X11_rowsOf at hf
  refine lv_aload_n hx hb dX11_rowsOf_0 rfl (lv_at hl 0 rfl) ?_
  refine va_get (C := RX11) (T := TX11) (N := 8) hx hb hts i11 hown hK hP 0 rfl rfl 5 (Nat.le_of_ble_eq_true rfl) w0 (fun _ h9 => h9) rfl dX11_rowsOf_1 ?_
  refine lv_iload_n hx hb dX11_rowsOf_4 rfl (lv_at hl 1 rfl) ?_
  refine lv_aload_n hx hb dX11_rowsOf_5 rfl (lv_at hl 0 rfl) ?_
  refine va_get (C := RX11) (T := TX11) (N := 8) hx hb hts i11 hown hK hP 0 rfl rfl 0 (Nat.le_of_ble_eq_true rfl) w1 (fun _ h9 => h9) rfl dX11_rowsOf_6 ?_
  refine va_getN (C := RX10) (T := TX10) (N := 14) hx hb hts i10 hown hK hP 1 rfl rfl 0 (Nat.le_of_ble_eq_true rfl) nw34 (fun _ h9 => h9) rfl dX11_rowsOf_9 ?_
  refine lv_iconst (v := 0) hx hb dX11_rowsOf_12 rfl ?_
  obtain ⟨r_1, hc1, hf⟩ := bnd1_el hf
  refine xV_I (As := [.int (0 : Int32)]) (wx := [(a0, .inr (11, [.ref a1, .ref a21, .ref a41, .ref a42, .ref a49, .ref a52, .ref a54, .ref a55])), (a1, .inr (10, [.ref a2, .ref a7, .ref a9, .ref a10, .ref a11, .ref a14, .ref a16, .ref a19, .int v0.1.2.2.2.2.2.2.2.2.1, .int v0.1.2.2.2.2.2.2.2.2.2.1, .int v0.1.2.2.2.2.2.2.2.2.2.2.1, .int v0.1.2.2.2.2.2.2.2.2.2.2.2.1, .int v0.1.2.2.2.2.2.2.2.2.2.2.2.2.1, .int v0.1.2.2.2.2.2.2.2.2.2.2.2.2.2])), (a2, .inr (7, [.ref a3, .ref a4, .ref a5, .ref a6, .int v0.1.1.2.2.2.2])), (a3, .inl (ca 0, 9, .inl v0.1.1.1)), (a52, .inr (2, [.ref a53, .int v0.2.2.2.2.2.1.2.1, .int v0.2.2.2.2.2.1.2.2.1, .int v0.2.2.2.2.2.1.2.2.2.1, .int v0.2.2.2.2.2.1.2.2.2.2])), (a53, .inl (ca 1, 17, .inr (.inl v0.2.2.2.2.2.1.1)))]) ⟨hx, hb, hml, hown, hts⟩ (c_X7_valueOf l D ca zz a2 a3 a4 a5 a6 _ v0.1.1 (0 : Int32) r_1 hc1) (cwV 1 hts (gV gw_4_18 gw_2_15 gw_2_16 gw_1_3 gw_2_17) rfl rfl rfl (by decide +kernel) ⟨(Nat.le_of_ble_eq_true rfl), (Nat.le_of_ble_eq_true rfl)⟩) hK hN hZ hA hP hD hS [2, 3] rfl rfl rfl rfl 2 rfl rfl hl.1 rfl (Nat.le_of_ble_eq_true rfl) dX11_rowsOf_13 ⟨Nat.zero_le _, Nat.zero_le _⟩ rfl (fun H locs hP hD hS => ?_)
  obtain ⟨u_2, hc2, hf⟩ := bnd1_el hf
  refine xV_V (As := [.int p1, .int r_1]) (wx := [(a0, .inr (11, [.ref a1, .ref a21, .ref a41, .ref a42, .ref a49, .ref a52, .ref a54, .ref a55])), (a1, .inr (10, [.ref a2, .ref a7, .ref a9, .ref a10, .ref a11, .ref a14, .ref a16, .ref a19, .int v0.1.2.2.2.2.2.2.2.2.1, .int v0.1.2.2.2.2.2.2.2.2.2.1, .int v0.1.2.2.2.2.2.2.2.2.2.2.1, .int v0.1.2.2.2.2.2.2.2.2.2.2.2.1, .int v0.1.2.2.2.2.2.2.2.2.2.2.2.2.1, .int v0.1.2.2.2.2.2.2.2.2.2.2.2.2.2])), (a2, .inr (7, [.ref a3, .ref a4, .ref a5, .ref a6, .int v0.1.1.2.2.2.2])), (a3, .inl (ca 0, 9, .inl v0.1.1.1)), (a52, .inr (2, [.ref a53, .int u_2.2.1, .int u_2.2.2.1, .int u_2.2.2.2.1, .int u_2.2.2.2.2])), (a53, .inl (ca 1, 17, .inr (.inl u_2.1)))]) ⟨hx, hb, hml, hown, hts⟩ (c_X2_fill l D ca zz a52 a53 _ v0.2.2.2.2.2.1 p1 r_1 u_2 hc2) (cwV 2 hts (gV gw_4_19 gw_2_26 gw_2_27 gw_1_4 gw_2_28) rfl rfl rfl (by decide +kernel) ⟨(Nat.le_of_ble_eq_true rfl), (Nat.le_of_ble_eq_true rfl)⟩) hK hN hZ hA hP hD hS [4, 5] rfl rfl rfl rfl 4 rfl rfl hl.1 rfl (Nat.le_of_ble_eq_true rfl) dX11_rowsOf_16 ⟨Nat.zero_le _, Nat.zero_le _⟩ rfl (fun H locs hP hD hS => ?_)
  refine lv_aload_n hx hb dX11_rowsOf_19 rfl (lv_at hl 0 rfl) ?_
  refine va_get (C := RX11) (T := TX11) (N := 8) hx hb hts i11 hown hK hP 0 rfl rfl 5 (Nat.le_of_ble_eq_true rfl) w0 (fun _ h9 => h9) rfl dX11_rowsOf_20 ?_
  refine lv_aload_n hx hb dX11_rowsOf_23 rfl (lv_at hl 0 rfl) ?_
  refine va_get (C := RX11) (T := TX11) (N := 8) hx hb hts i11 hown hK hP 0 rfl rfl 0 (Nat.le_of_ble_eq_true rfl) w1 (fun _ h9 => h9) rfl dX11_rowsOf_24 ?_
  refine va_getN (C := RX10) (T := TX10) (N := 14) hx hb hts i10 hown hK hP 1 rfl rfl 0 (Nat.le_of_ble_eq_true rfl) nw34 (fun _ h9 => h9) rfl dX11_rowsOf_27 ?_
  refine lv_iconst (v := 1) hx hb dX11_rowsOf_30 rfl ?_
  obtain ⟨r_3, hc3, hf⟩ := bnd1_el hf
  refine xV_I (As := [.int (1 : Int32)]) (wx := [(a0, .inr (11, [.ref a1, .ref a21, .ref a41, .ref a42, .ref a49, .ref a52, .ref a54, .ref a55])), (a1, .inr (10, [.ref a2, .ref a7, .ref a9, .ref a10, .ref a11, .ref a14, .ref a16, .ref a19, .int v0.1.2.2.2.2.2.2.2.2.1, .int v0.1.2.2.2.2.2.2.2.2.2.1, .int v0.1.2.2.2.2.2.2.2.2.2.2.1, .int v0.1.2.2.2.2.2.2.2.2.2.2.2.1, .int v0.1.2.2.2.2.2.2.2.2.2.2.2.2.1, .int v0.1.2.2.2.2.2.2.2.2.2.2.2.2.2])), (a2, .inr (7, [.ref a3, .ref a4, .ref a5, .ref a6, .int v0.1.1.2.2.2.2])), (a3, .inl (ca 0, 9, .inl v0.1.1.1)), (a52, .inr (2, [.ref a53, .int u_2.2.1, .int u_2.2.2.1, .int u_2.2.2.2.1, .int u_2.2.2.2.2])), (a53, .inl (ca 1, 17, .inr (.inl u_2.1)))]) ⟨hx, hb, hml, hown, hts⟩ (c_X7_valueOf l D ca zz a2 a3 a4 a5 a6 _ v0.1.1 (1 : Int32) r_3 hc3) (cwV 1 hts (gV gw_4_18 gw_2_15 gw_2_16 gw_1_3 gw_2_17) rfl rfl rfl (by decide +kernel) ⟨(Nat.le_of_ble_eq_true rfl), (Nat.le_of_ble_eq_true rfl)⟩) hK hN hZ hA hP hD hS [2, 3] rfl rfl rfl rfl 2 rfl rfl hl.1 rfl (Nat.le_of_ble_eq_true rfl) dX11_rowsOf_31 ⟨Nat.zero_le _, Nat.zero_le _⟩ rfl (fun H locs hP hD hS => ?_)
  obtain ⟨r_4, hc4, hf⟩ := bnd1_el hf
  refine xV_I (As := [.int r_3]) (wx := [(a0, .inr (11, [.ref a1, .ref a21, .ref a41, .ref a42, .ref a49, .ref a52, .ref a54, .ref a55])), (a1, .inr (10, [.ref a2, .ref a7, .ref a9, .ref a10, .ref a11, .ref a14, .ref a16, .ref a19, .int v0.1.2.2.2.2.2.2.2.2.1, .int v0.1.2.2.2.2.2.2.2.2.2.1, .int v0.1.2.2.2.2.2.2.2.2.2.2.1, .int v0.1.2.2.2.2.2.2.2.2.2.2.2.1, .int v0.1.2.2.2.2.2.2.2.2.2.2.2.2.1, .int v0.1.2.2.2.2.2.2.2.2.2.2.2.2.2])), (a2, .inr (7, [.ref a3, .ref a4, .ref a5, .ref a6, .int v0.1.1.2.2.2.2])), (a3, .inl (ca 0, 9, .inl v0.1.1.1)), (a52, .inr (2, [.ref a53, .int u_2.2.1, .int u_2.2.2.1, .int u_2.2.2.2.1, .int u_2.2.2.2.2])), (a53, .inl (ca 1, 17, .inr (.inl u_2.1)))]) ⟨hx, hb, hml, hown, hts⟩ (c_X2_leastBy l D ca zz a52 a53 _ u_2 r_3 r_4 hc4) (cwV 1 hts (gV gw_4_174 gw_2_39 gw_2_40 gw_1_4 gw_2_41) rfl rfl rfl (by decide +kernel) ⟨(Nat.le_of_ble_eq_true rfl), (Nat.le_of_ble_eq_true rfl)⟩) hK hN hZ hA hP hD hS [4, 5] rfl rfl rfl rfl 4 rfl rfl hl.1 rfl (Nat.le_of_ble_eq_true rfl) dX11_rowsOf_34 ⟨Nat.zero_le _, Nat.zero_le _⟩ rfl (fun H locs hP hD hS => ?_)
  cases hf
  exact rt_I hx hb hr hlocks hK hP hD hS hQ rfl rfl dX11_rowsOf_37
abbrev wq_X2_leastTerms : List Cond := Cond.code yX2_leastTerms cX2_leastTerms 8 (some .long) :: GL
set_option maxHeartbeats 4000000 in
set_option maxRecDepth 100000 in
theorem c_X2_leastTerms (l : Launch) (D : va_G) (ca : Nat → ClassId) (zz : Nat → Nat) (a0 a1 : Nat) (sz : Nat) (v0 : V2) (p1 : Int32) (p2 : Int32) (r : Int64) (hf : f_X2_leastTerms v0 p1 p2 = some r) : Met l yX2_leastTerms wq_X2_leastTerms ({ frames := 0, cells := 0, slots := 0, locals := 0 } : Room) (PR D ca zz [.ref a0, .int p1, .int p2] sz [(a0, .inr (2, [.ref a1, .int v0.2.1, .int v0.2.2.1, .int v0.2.2.2.1, .int v0.2.2.2.2])), (a1, .inl (ca 1, 17, .inr (.inl v0.1)))]) (QL D ca r [(a0, .inr (2, [.ref a1, .int v0.2.1, .int v0.2.2.1, .int v0.2.2.2.1, .int v0.2.2.2.2])), (a1, .inl (ca 1, 17, .inr (.inl v0.1)))] (va_A [(a0, .inr (2, [.ref a1, .int v0.2.1, .int v0.2.2.1, .int v0.2.2.2.1, .int v0.2.2.2.2])), (a1, .inl (ca 1, 17, .inr (.inl v0.1)))] sz)) 0 0 (va_A [(a0, .inr (2, [.ref a1, .int v0.2.1, .int v0.2.2.1, .int v0.2.2.2.1, .int v0.2.2.2.2])), (a1, .inl (ca 1, 17, .inr (.inl v0.1)))] sz) := by
  refine en (y := yX2_leastTerms) (wsm := wq_X2_leastTerms) (av := [.ref a0, .int p1, .int p2]) (cc := cX2_leastTerms) (maxL := 8) (ret := (some .long)) (Qf := fun A => QL D ca r [(a0, .inr (2, [.ref a1, .int v0.2.1, .int v0.2.2.1, .int v0.2.2.2.1, .int v0.2.2.2.2])), (a1, .inl (ca 1, 17, .inr (.inl v0.1)))] A) (by decide) rfl (Nat.le_of_ble_eq_true rfl) ?_
  intro p e s m args below meth c A Q ls hx hb hr hml hown hts hlocks hnm hA hN hZ hK hQ hP hD hS hl
  have w0 := hts _ (List.mem_cons_of_mem _ gw_1_82)
  have w1 := hts _ (List.mem_cons_of_mem _ gw_1_81)
  have i2 : ∀ w ∈ u_ws RX2 TX2 5, w ∈ wq_X2_leastTerms := fun w h => List.mem_cons_of_mem _ (inX2 w h)
  have b101 : ∀ (x2 : Int32) (x3 : Int64) (x5 : Int64), fc_X2_leastTerms_101 v0 x2 x3 x5 = some r → ∀ (H : Heap) (locs : List Loc) (ls : Array Slot), va_P D vwCl [(a0, .inr (2, [.ref a1, .int v0.2.1, .int v0.2.2.1, .int v0.2.2.2.1, .int v0.2.2.2.2])), (a1, .inl (ca 1, 17, .inr (.inl v0.1)))] H → va_D A [(a0, .inr (2, [.ref a1, .int v0.2.1, .int v0.2.2.1, .int v0.2.2.2.1, .int v0.2.2.2.2])), (a1, .inl (ca 1, 17, .inr (.inl v0.1)))] → va_S A s.heap H locs → lv_has ls 8 [(2, .int x2), (3, .long x3), (5, .long x5)] → W p l e ({ frames := 0, cells := 0, slots := 0, locals := 0 } : Room) s m args below meth c H locs 0 0 Q (F0 m 101 ls []) := by
    intro x2 x3 x5 hf H locs ls hP hD hS hl
    unfold fc_X2_leastTerms_101 at hf
    refine lv_iload_n hx hb dX2_leastTerms_101 rfl (lv_at hl 0 rfl) ?_
    refine xi_eq (tgt := 110) hx hb dX2_leastTerms_102 (by decide) hf (fun hf => ?_) (fun hf => ?_)
    · refine lv_lload_n hx hb dX2_leastTerms_110 rfl (lv_at hl 1 rfl) ?_
      cases hf
      exact rt_L hx hb hr hlocks hK hP hD hS hQ rfl rfl dX2_leastTerms_111
    · refine lv_lload hx hb dX2_leastTerms_105 (lv_at hl 2 rfl) ?_
      refine lv_goto (tgt := 111) hx hb dX2_leastTerms_107 (by decide) ?_
      cases hf
      exact rt_L hx hb hr hlocks hK hP hD hS hQ rfl rfl dX2_leastTerms_111
  have bl61 : ∀ (k61 : Int32 → Int64 → Int64 → Int32 → Option (Int64)) (q61 : ∀ (x2 : Int32) (x3 : Int64) (x5 : Int64) (x7 : Int32), k61 x2 x3 x5 x7 = some r → ∀ (H : Heap) (locs : List Loc) (ls : Array Slot), va_P D vwCl [(a0, .inr (2, [.ref a1, .int v0.2.1, .int v0.2.2.1, .int v0.2.2.2.1, .int v0.2.2.2.2])), (a1, .inl (ca 1, 17, .inr (.inl v0.1)))] H → va_D A [(a0, .inr (2, [.ref a1, .int v0.2.1, .int v0.2.2.1, .int v0.2.2.2.1, .int v0.2.2.2.2])), (a1, .inl (ca 1, 17, .inr (.inl v0.1)))] → va_S A s.heap H locs → lv_has ls 8 [(2, .int x2), (3, .long x3), (5, .long x5), (7, .int x7)] → W p l e ({ frames := 0, cells := 0, slots := 0, locals := 0 } : Room) s m args below meth c H locs 0 0 Q (F0 m 61 ls [])) (x2 : Int32) (x3 : Int64) (x5 : Int64) (x7 : Int32), fl_X2_leastTerms_61 v0 k61 x2 x3 x5 x7 = some r → ∀ (H : Heap) (locs : List Loc) (ls : Array Slot), va_P D vwCl [(a0, .inr (2, [.ref a1, .int v0.2.1, .int v0.2.2.1, .int v0.2.2.2.1, .int v0.2.2.2.2])), (a1, .inl (ca 1, 17, .inr (.inl v0.1)))] H → va_D A [(a0, .inr (2, [.ref a1, .int v0.2.1, .int v0.2.2.1, .int v0.2.2.2.1, .int v0.2.2.2.2])), (a1, .inl (ca 1, 17, .inr (.inl v0.1)))] → va_S A s.heap H locs → lv_has ls 8 [(2, .int x2), (3, .long x3), (5, .long x5), (7, .int x7)] → W p l e ({ frames := 0, cells := 0, slots := 0, locals := 0 } : Room) s m args below meth c H locs 0 0 Q (F0 m 61 ls []) := by
    intro k61 q61 x2 x3 x5 x7 hf H locs ls hP hD hS hl
    unfold fl_X2_leastTerms_61 at hf
    refine lv_iload hx hb dX2_leastTerms_61 (lv_at hl 3 rfl) ?_
    refine lv_bipush (v := 60) hx hb dX2_leastTerms_63 rfl ?_
    refine xc_ge (tgt := 101) hx hb dX2_leastTerms_65 (by decide) hf (fun hf => ?_) (fun hf => ?_)
    · exact b101 x2 x3 x5 hf _ _ _ hP hD hS (lv_sub hl [0, 1, 2] rfl)
    · refine lv_lload_n hx hb dX2_leastTerms_68 rfl (lv_at hl 1 rfl) ?_
      refine lv_lconst (v := 1) hx hb dX2_leastTerms_69 rfl ?_
      refine lv_land hx hb dX2_leastTerms_70 ?_
      refine lv_lconst (v := 0) hx hb dX2_leastTerms_71 rfl ?_
      refine xl_ne (tgt := 101) hx hb dX2_leastTerms_72 dX2_leastTerms_73 (by decide) hf (fun hf => ?_) (fun hf => ?_)
      · exact b101 x2 x3 x5 hf _ _ _ hP hD hS (lv_sub hl [0, 1, 2] rfl)
      · refine lv_lload hx hb dX2_leastTerms_76 (lv_at hl 2 rfl) ?_
        refine lv_lconst (v := 1) hx hb dX2_leastTerms_78 rfl ?_
        refine lv_land hx hb dX2_leastTerms_79 ?_
        refine lv_lconst (v := 0) hx hb dX2_leastTerms_80 rfl ?_
        refine xl_ne (tgt := 101) hx hb dX2_leastTerms_81 dX2_leastTerms_82 (by decide) hf (fun hf => ?_) (fun hf => ?_)
        · exact b101 x2 x3 x5 hf _ _ _ hP hD hS (lv_sub hl [0, 1, 2] rfl)
        · refine lv_lload_n hx hb dX2_leastTerms_85 rfl (lv_at hl 1 rfl) ?_
          refine lv_iconst (v := 1) hx hb dX2_leastTerms_86 rfl ?_
          refine lv_lshr (v := jlshr x3 (1 : Int32)) hx hb dX2_leastTerms_87 rfl ?_
          refine xnml hf (fun x_2 hf => ?_)
          refine lv_lstore_n (lv' := [(3, .long x_2), (2, .int x2), (5, .long x5), (7, .int x7)]) hx hb dX2_leastTerms_88 rfl hl (Nat.le_of_ble_eq_true rfl) rfl (fun ls hl => ?_)
          refine lv_lload hx hb dX2_leastTerms_89 (lv_at hl 2 rfl) ?_
          refine lv_iconst (v := 1) hx hb dX2_leastTerms_91 rfl ?_
          refine lv_lshr (v := jlshr x5 (1 : Int32)) hx hb dX2_leastTerms_92 rfl ?_
          refine xnml hf (fun x_3 hf => ?_)
          refine lv_lstore (lv' := [(5, .long x_3), (3, .long x_2), (2, .int x2), (7, .int x7)]) hx hb dX2_leastTerms_93 hl (Nat.le_of_ble_eq_true rfl) rfl (fun ls hl => ?_)
          obtain ⟨x_4, ex_4, hf⟩ := bnd_el hf
          refine lv_iinc (v := x_4) (lv' := [(7, .int x_4), (5, .long x_3), (3, .long x_2), (2, .int x2)]) hx hb dX2_leastTerms_95 hl (k := 3) rfl (by rw [ex_4]; rfl) (Nat.le_of_ble_eq_true rfl) rfl (fun ls hl => ?_)
          refine lv_goto (tgt := 61) hx hb dX2_leastTerms_98 (by decide) ?_
          exact q61 x2 x_2 x_3 x_4 hf _ _ _ hP hD hS (lv_sub hl [3, 2, 1, 0] rfl)
  have b61 : ∀ (n : Nat) (x2 : Int32) (x3 : Int64) (x5 : Int64) (x7 : Int32), fb_X2_leastTerms_61 v0 n x2 x3 x5 x7 = some r → ∀ (H : Heap) (locs : List Loc) (ls : Array Slot), va_P D vwCl [(a0, .inr (2, [.ref a1, .int v0.2.1, .int v0.2.2.1, .int v0.2.2.2.1, .int v0.2.2.2.2])), (a1, .inl (ca 1, 17, .inr (.inl v0.1)))] H → va_D A [(a0, .inr (2, [.ref a1, .int v0.2.1, .int v0.2.2.1, .int v0.2.2.2.1, .int v0.2.2.2.2])), (a1, .inl (ca 1, 17, .inr (.inl v0.1)))] → va_S A s.heap H locs → lv_has ls 8 [(2, .int x2), (3, .long x3), (5, .long x5), (7, .int x7)] → W p l e ({ frames := 0, cells := 0, slots := 0, locals := 0 } : Room) s m args below meth c H locs 0 0 Q (F0 m 61 ls []) := by
    intro n
    induction n with
    | zero => intro x2 x3 x5 x7 hf; exact no_el hf
    | succ n ih => exact bl61 (fb_X2_leastTerms_61 v0 n) ih
  have b31 : ∀ (x2 : Int32) (t0 : Int64), fc_X2_leastTerms_31 v0 x2 t0 = some r → ∀ (H : Heap) (locs : List Loc) (ls : Array Slot), va_P D vwCl [(a0, .inr (2, [.ref a1, .int v0.2.1, .int v0.2.2.1, .int v0.2.2.2.1, .int v0.2.2.2.2])), (a1, .inl (ca 1, 17, .inr (.inl v0.1)))] H → va_D A [(a0, .inr (2, [.ref a1, .int v0.2.1, .int v0.2.2.1, .int v0.2.2.2.1, .int v0.2.2.2.2])), (a1, .inl (ca 1, 17, .inr (.inl v0.1)))] → va_S A s.heap H locs → lv_has ls 8 [(0, .ref a0), (2, .int x2)] → W p l e ({ frames := 0, cells := 0, slots := 0, locals := 0 } : Room) s m args below meth c H locs 0 0 Q (F0 m 31 ls [.long t0]) := by
    intro x2 t0 hf H locs ls hP hD hS hl
    unfold fc_X2_leastTerms_31 at hf
    refine lv_lstore_n (lv' := [(3, .long t0), (0, .ref a0), (2, .int x2)]) hx hb dX2_leastTerms_31 rfl hl (Nat.le_of_ble_eq_true rfl) rfl (fun ls hl => ?_)
    refine lv_lload_n hx hb dX2_leastTerms_32 rfl (lv_at hl 0 rfl) ?_
    refine lv_lconst (v := 0) hx hb dX2_leastTerms_33 rfl ?_
    refine xl_ne (tgt := 48) hx hb dX2_leastTerms_34 dX2_leastTerms_35 (by decide) hf (fun hf => ?_) (fun hf => ?_)
    · refine lv_lconst (v := 1) hx hb dX2_leastTerms_48 rfl ?_
      refine lv_iconst (v := 4) hx hb dX2_leastTerms_49 rfl ?_
      refine lv_aload_n hx hb dX2_leastTerms_50 rfl (lv_at hl 1 rfl) ?_
      refine va_get (C := RX2) (T := TX2) (N := 5) hx hb hts i2 hown hK hP 0 rfl rfl 1 (Nat.le_of_ble_eq_true rfl) w0 (fun _ h9 => h9) rfl dX2_leastTerms_51 ?_
      refine lv_imul hx hb dX2_leastTerms_54 ?_
      refine lv_lshl (v := jlshl (1 : Int64) ((4 : Int32) * v0.2.1)) hx hb dX2_leastTerms_55 rfl ?_
      refine xnml hf (fun x_1 hf => ?_)
      refine lv_lstore (lv' := [(5, .long x_1), (3, .long t0), (0, .ref a0), (2, .int x2)]) hx hb dX2_leastTerms_56 hl (Nat.le_of_ble_eq_true rfl) rfl (fun ls hl => ?_)
      refine lv_iconst (v := 0) hx hb dX2_leastTerms_58 rfl ?_
      refine lv_istore (lv' := [(7, .int (0 : Int32)), (5, .long x_1), (3, .long t0), (0, .ref a0), (2, .int x2)]) hx hb dX2_leastTerms_59 hl (Nat.le_of_ble_eq_true rfl) rfl (fun ls hl => ?_)
      exact b61 FU x2 t0 x_1 (0 : Int32) hf _ _ _ hP hD hS (lv_sub hl [4, 2, 1, 0] rfl)
    · refine lv_iload_n hx hb dX2_leastTerms_38 rfl (lv_at hl 2 rfl) ?_
      refine xi_eq (tgt := 46) hx hb dX2_leastTerms_39 (by decide) hf (fun hf => ?_) (fun hf => ?_)
      · refine lv_lconst (v := 0) hx hb dX2_leastTerms_46 rfl ?_
        cases hf
        exact rt_L hx hb hr hlocks hK hP hD hS hQ rfl rfl dX2_leastTerms_47
      · refine lv_lconst (v := 1) hx hb dX2_leastTerms_42 rfl ?_
        refine lv_goto (tgt := 47) hx hb dX2_leastTerms_43 (by decide) ?_
        cases hf
        exact rt_L hx hb hr hlocks hK hP hD hS hQ rfl rfl dX2_leastTerms_47
  have b21 : ∀ (x2 : Int32), fc_X2_leastTerms_21 v0 x2 = some r → ∀ (H : Heap) (locs : List Loc) (ls : Array Slot), va_P D vwCl [(a0, .inr (2, [.ref a1, .int v0.2.1, .int v0.2.2.1, .int v0.2.2.2.1, .int v0.2.2.2.2])), (a1, .inl (ca 1, 17, .inr (.inl v0.1)))] H → va_D A [(a0, .inr (2, [.ref a1, .int v0.2.1, .int v0.2.2.1, .int v0.2.2.2.1, .int v0.2.2.2.2])), (a1, .inl (ca 1, 17, .inr (.inl v0.1)))] → va_S A s.heap H locs → lv_has ls 8 [(0, .ref a0), (2, .int x2)] → W p l e ({ frames := 0, cells := 0, slots := 0, locals := 0 } : Room) s m args below meth c H locs 0 0 Q (F0 m 21 ls []) := by
    intro x2 hf H locs ls hP hD hS hl
    unfold fc_X2_leastTerms_21 at hf
    refine lv_lconst (v := 0) hx hb dX2_leastTerms_21 rfl ?_
    refine lv_goto (tgt := 31) hx hb dX2_leastTerms_22 (by decide) ?_
    exact b31 x2 (0 : Int64) hf _ _ _ hP hD hS (lv_sub hl [0, 1] rfl)
  unfold f_X2_leastTerms at hf
  refine lv_iload_n hx hb dX2_leastTerms_0 rfl (lv_at hl 1 rfl) ?_
  refine xi_lt (tgt := 21) hx hb dX2_leastTerms_1 (by decide) hf (fun hf => ?_) (fun hf => ?_)
  · exact b21 p2 hf _ _ _ hP hD hS (lv_sub hl [0, 2] rfl)
  · refine lv_iload_n hx hb dX2_leastTerms_4 rfl (lv_at hl 1 rfl) ?_
    refine lv_aload_n hx hb dX2_leastTerms_5 rfl (lv_at hl 0 rfl) ?_
    refine va_get (C := RX2) (T := TX2) (N := 5) hx hb hts i2 hown hK hP 0 rfl rfl 1 (Nat.le_of_ble_eq_true rfl) w0 (fun _ h9 => h9) rfl dX2_leastTerms_6 ?_
    refine xc_gt (tgt := 21) hx hb dX2_leastTerms_9 (by decide) hf (fun hf => ?_) (fun hf => ?_)
    · exact b21 p2 hf _ _ _ hP hD hS (lv_sub hl [0, 2] rfl)
    · refine lv_iload_n hx hb dX2_leastTerms_12 rfl (lv_at hl 1 rfl) ?_
      refine lv_aload_n hx hb dX2_leastTerms_13 rfl (lv_at hl 0 rfl) ?_
      refine va_get (C := RX2) (T := TX2) (N := 5) hx hb hts i2 hown hK hP 0 rfl rfl 0 (Nat.le_of_ble_eq_true rfl) w1 (fun _ h9 => h9) rfl dX2_leastTerms_14 ?_
      refine va_alen hx hb hK hP 1 1 rfl rfl (v := (17 : Int32)) rfl dX2_leastTerms_17 ?_
      refine xc_lt (tgt := 25) hx hb dX2_leastTerms_18 (by decide) hf (fun hf => ?_) (fun hf => ?_)
      · refine lv_aload_n hx hb dX2_leastTerms_25 rfl (lv_at hl 0 rfl) ?_
        refine va_get (C := RX2) (T := TX2) (N := 5) hx hb hts i2 hown hK hP 0 rfl rfl 0 (Nat.le_of_ble_eq_true rfl) w1 (fun _ h9 => h9) rfl dX2_leastTerms_26 ?_
        refine lv_iload_n hx hb dX2_leastTerms_29 rfl (lv_at hl 1 rfl) ?_
        refine xlald hx hb hK hP 1 rfl hf dX2_leastTerms_30 (fun hf => ?_)
        exact b31 p2 (v0.1 (p1).toNatClampNeg) hf _ _ _ hP hD hS (lv_sub hl [0, 2] rfl)
      · exact b21 p2 hf _ _ _ hP hD hS (lv_sub hl [0, 2] rfl)
abbrev wq_X11_odds : List Cond := Cond.code yX11_odds cX11_odds 4 (some .long) :: GL
set_option maxHeartbeats 4000000 in
set_option maxRecDepth 100000 in
theorem c_X11_odds (l : Launch) (D : va_G) (ca : Nat → ClassId) (zz : Nat → Nat) (a0 a1 a2 a3 a4 a5 a6 a7 a8 a9 a10 a11 a14 a16 a19 a21 a41 a42 a49 a52 a53 a54 a55 : Nat) (sz : Nat) (v0 : V11) (p1 : Int32) (p2 : Int32) (r : Int64) (v0' : V11) (hf : f_X11_odds v0 p1 p2 = some (r, v0')) : Met l yX11_odds wq_X11_odds ({ frames := 2, cells := 0, slots := 0, locals := 48 } : Room) (PR D ca zz [.ref a0, .int p1, .int p2] sz [(a0, .inr (11, [.ref a1, .ref a21, .ref a41, .ref a42, .ref a49, .ref a52, .ref a54, .ref a55])), (a1, .inr (10, [.ref a2, .ref a7, .ref a9, .ref a10, .ref a11, .ref a14, .ref a16, .ref a19, .int v0.1.2.2.2.2.2.2.2.2.1, .int v0.1.2.2.2.2.2.2.2.2.2.1, .int v0.1.2.2.2.2.2.2.2.2.2.2.1, .int v0.1.2.2.2.2.2.2.2.2.2.2.2.1, .int v0.1.2.2.2.2.2.2.2.2.2.2.2.2.1, .int v0.1.2.2.2.2.2.2.2.2.2.2.2.2.2])), (a2, .inr (7, [.ref a3, .ref a4, .ref a5, .ref a6, .int v0.1.1.2.2.2.2])), (a3, .inl (ca 0, 9, .inl v0.1.1.1)), (a7, .inr (2, [.ref a8, .int v0.1.2.1.2.1, .int v0.1.2.1.2.2.1, .int v0.1.2.1.2.2.2.1, .int v0.1.2.1.2.2.2.2])), (a52, .inr (2, [.ref a53, .int v0.2.2.2.2.2.1.2.1, .int v0.2.2.2.2.2.1.2.2.1, .int v0.2.2.2.2.2.1.2.2.2.1, .int v0.2.2.2.2.2.1.2.2.2.2])), (a53, .inl (ca 1, 17, .inr (.inl v0.2.2.2.2.2.1.1)))]) (QL D ca r [(a0, .inr (11, [.ref a1, .ref a21, .ref a41, .ref a42, .ref a49, .ref a52, .ref a54, .ref a55])), (a1, .inr (10, [.ref a2, .ref a7, .ref a9, .ref a10, .ref a11, .ref a14, .ref a16, .ref a19, .int v0'.1.2.2.2.2.2.2.2.2.1, .int v0'.1.2.2.2.2.2.2.2.2.2.1, .int v0'.1.2.2.2.2.2.2.2.2.2.2.1, .int v0'.1.2.2.2.2.2.2.2.2.2.2.2.1, .int v0'.1.2.2.2.2.2.2.2.2.2.2.2.2.1, .int v0'.1.2.2.2.2.2.2.2.2.2.2.2.2.2])), (a2, .inr (7, [.ref a3, .ref a4, .ref a5, .ref a6, .int v0'.1.1.2.2.2.2])), (a3, .inl (ca 0, 9, .inl v0'.1.1.1)), (a7, .inr (2, [.ref a8, .int v0'.1.2.1.2.1, .int v0'.1.2.1.2.2.1, .int v0'.1.2.1.2.2.2.1, .int v0'.1.2.1.2.2.2.2])), (a52, .inr (2, [.ref a53, .int v0'.2.2.2.2.2.1.2.1, .int v0'.2.2.2.2.2.1.2.2.1, .int v0'.2.2.2.2.2.1.2.2.2.1, .int v0'.2.2.2.2.2.1.2.2.2.2])), (a53, .inl (ca 1, 17, .inr (.inl v0'.2.2.2.2.2.1.1)))] (va_A [(a0, .inr (11, [.ref a1, .ref a21, .ref a41, .ref a42, .ref a49, .ref a52, .ref a54, .ref a55])), (a1, .inr (10, [.ref a2, .ref a7, .ref a9, .ref a10, .ref a11, .ref a14, .ref a16, .ref a19, .int v0.1.2.2.2.2.2.2.2.2.1, .int v0.1.2.2.2.2.2.2.2.2.2.1, .int v0.1.2.2.2.2.2.2.2.2.2.2.1, .int v0.1.2.2.2.2.2.2.2.2.2.2.2.1, .int v0.1.2.2.2.2.2.2.2.2.2.2.2.2.1, .int v0.1.2.2.2.2.2.2.2.2.2.2.2.2.2])), (a2, .inr (7, [.ref a3, .ref a4, .ref a5, .ref a6, .int v0.1.1.2.2.2.2])), (a3, .inl (ca 0, 9, .inl v0.1.1.1)), (a7, .inr (2, [.ref a8, .int v0.1.2.1.2.1, .int v0.1.2.1.2.2.1, .int v0.1.2.1.2.2.2.1, .int v0.1.2.1.2.2.2.2])), (a52, .inr (2, [.ref a53, .int v0.2.2.2.2.2.1.2.1, .int v0.2.2.2.2.2.1.2.2.1, .int v0.2.2.2.2.2.1.2.2.2.1, .int v0.2.2.2.2.2.1.2.2.2.2])), (a53, .inl (ca 1, 17, .inr (.inl v0.2.2.2.2.2.1.1)))] sz)) 0 0 (va_A [(a0, .inr (11, [.ref a1, .ref a21, .ref a41, .ref a42, .ref a49, .ref a52, .ref a54, .ref a55])), (a1, .inr (10, [.ref a2, .ref a7, .ref a9, .ref a10, .ref a11, .ref a14, .ref a16, .ref a19, .int v0.1.2.2.2.2.2.2.2.2.1, .int v0.1.2.2.2.2.2.2.2.2.2.1, .int v0.1.2.2.2.2.2.2.2.2.2.2.1, .int v0.1.2.2.2.2.2.2.2.2.2.2.2.1, .int v0.1.2.2.2.2.2.2.2.2.2.2.2.2.1, .int v0.1.2.2.2.2.2.2.2.2.2.2.2.2.2])), (a2, .inr (7, [.ref a3, .ref a4, .ref a5, .ref a6, .int v0.1.1.2.2.2.2])), (a3, .inl (ca 0, 9, .inl v0.1.1.1)), (a7, .inr (2, [.ref a8, .int v0.1.2.1.2.1, .int v0.1.2.1.2.2.1, .int v0.1.2.1.2.2.2.1, .int v0.1.2.1.2.2.2.2])), (a52, .inr (2, [.ref a53, .int v0.2.2.2.2.2.1.2.1, .int v0.2.2.2.2.2.1.2.2.1, .int v0.2.2.2.2.2.1.2.2.2.1, .int v0.2.2.2.2.2.1.2.2.2.2])), (a53, .inl (ca 1, 17, .inr (.inl v0.2.2.2.2.2.1.1)))] sz) := by
  refine en (y := yX11_odds) (wsm := wq_X11_odds) (av := [.ref a0, .int p1, .int p2]) (cc := cX11_odds) (maxL := 4) (ret := (some .long)) (Qf := fun A => QL D ca r [(a0, .inr (11, [.ref a1, .ref a21, .ref a41, .ref a42, .ref a49, .ref a52, .ref a54, .ref a55])), (a1, .inr (10, [.ref a2, .ref a7, .ref a9, .ref a10, .ref a11, .ref a14, .ref a16, .ref a19, .int v0'.1.2.2.2.2.2.2.2.2.1, .int v0'.1.2.2.2.2.2.2.2.2.2.1, .int v0'.1.2.2.2.2.2.2.2.2.2.2.1, .int v0'.1.2.2.2.2.2.2.2.2.2.2.2.1, .int v0'.1.2.2.2.2.2.2.2.2.2.2.2.2.1, .int v0'.1.2.2.2.2.2.2.2.2.2.2.2.2.2])), (a2, .inr (7, [.ref a3, .ref a4, .ref a5, .ref a6, .int v0'.1.1.2.2.2.2])), (a3, .inl (ca 0, 9, .inl v0'.1.1.1)), (a7, .inr (2, [.ref a8, .int v0'.1.2.1.2.1, .int v0'.1.2.1.2.2.1, .int v0'.1.2.1.2.2.2.1, .int v0'.1.2.1.2.2.2.2])), (a52, .inr (2, [.ref a53, .int v0'.2.2.2.2.2.1.2.1, .int v0'.2.2.2.2.2.1.2.2.1, .int v0'.2.2.2.2.2.1.2.2.2.1, .int v0'.2.2.2.2.2.1.2.2.2.2])), (a53, .inl (ca 1, 17, .inr (.inl v0'.2.2.2.2.2.1.1)))] A) (by decide) rfl (Nat.le_of_ble_eq_true rfl) ?_
  intro p e s m args below meth c A Q ls hx hb hr hml hown hts hlocks hnm hA hN hZ hK hQ hP hD hS hl
  have w0 := hts _ (List.mem_cons_of_mem _ gw_2_187)
  have w1 := hts _ (List.mem_cons_of_mem _ gw_4_24)
  have w2 := hts _ (List.mem_cons_of_mem _ gw_2_192)
  have nw34 := NW.use (args := args) (w := .fieldLinkNest RX11 79 "NoiseWatch$Watch" "settings" "LNoiseWatch$Settings;" "NoiseWatch") hN 34 rfl
  have nw35 := NW.use (args := args) (w := .fieldLinkNest RX11 135 "NoiseWatch$Watch" "limits" "LNoiseWatch$Odds;" "NoiseWatch") hN 35 rfl
  have nw9 := NW.use (args := args) (w := .fieldLinkNest RX11 144 "NoiseWatch$Odds" "changes" "I" "NoiseWatch") hN 9 rfl
  have nw7 := NW.use (args := args) (w := .fieldLinkNest RX11 141 "NoiseWatch$Odds" "proportion" "I" "NoiseWatch") hN 7 rfl
  have i10 : ∀ w ∈ u_ws RX10 TX10 14, w ∈ wq_X11_odds := fun w h => List.mem_cons_of_mem _ (inX10 w h)
  have i11 : ∀ w ∈ u_ws RX11 TX11 8, w ∈ wq_X11_odds := fun w h => List.mem_cons_of_mem _ (inX11 w h)
  have i2 : ∀ w ∈ u_ws RX2 TX2 5, w ∈ wq_X11_odds := fun w h => List.mem_cons_of_mem _ (inX2 w h)
  unfold f_X11_odds at hf
  refine lv_aload_n hx hb dX11_odds_0 rfl (lv_at hl 0 rfl) ?_
  refine va_get (C := RX11) (T := TX11) (N := 8) hx hb hts i11 hown hK hP 0 rfl rfl 0 (Nat.le_of_ble_eq_true rfl) w0 (fun _ h9 => h9) rfl dX11_odds_1 ?_
  refine va_getN (C := RX10) (T := TX10) (N := 14) hx hb hts i10 hown hK hP 1 rfl rfl 0 (Nat.le_of_ble_eq_true rfl) nw34 (fun _ h9 => h9) rfl dX11_odds_4 ?_
  refine lv_iconst (v := 2) hx hb dX11_odds_7 rfl ?_
  obtain ⟨r_1, hc1, hf⟩ := bnd1_el hf
  refine xV_I (As := [.int (2 : Int32)]) (wx := [(a0, .inr (11, [.ref a1, .ref a21, .ref a41, .ref a42, .ref a49, .ref a52, .ref a54, .ref a55])), (a1, .inr (10, [.ref a2, .ref a7, .ref a9, .ref a10, .ref a11, .ref a14, .ref a16, .ref a19, .int v0.1.2.2.2.2.2.2.2.2.1, .int v0.1.2.2.2.2.2.2.2.2.2.1, .int v0.1.2.2.2.2.2.2.2.2.2.2.1, .int v0.1.2.2.2.2.2.2.2.2.2.2.2.1, .int v0.1.2.2.2.2.2.2.2.2.2.2.2.2.1, .int v0.1.2.2.2.2.2.2.2.2.2.2.2.2.2])), (a2, .inr (7, [.ref a3, .ref a4, .ref a5, .ref a6, .int v0.1.1.2.2.2.2])), (a3, .inl (ca 0, 9, .inl v0.1.1.1)), (a7, .inr (2, [.ref a8, .int v0.1.2.1.2.1, .int v0.1.2.1.2.2.1, .int v0.1.2.1.2.2.2.1, .int v0.1.2.1.2.2.2.2])), (a52, .inr (2, [.ref a53, .int v0.2.2.2.2.2.1.2.1, .int v0.2.2.2.2.2.1.2.2.1, .int v0.2.2.2.2.2.1.2.2.2.1, .int v0.2.2.2.2.2.1.2.2.2.2])), (a53, .inl (ca 1, 17, .inr (.inl v0.2.2.2.2.2.1.1)))]) ⟨hx, hb, hml, hown, hts⟩ (c_X7_valueOf l D ca zz a2 a3 a4 a5 a6 _ v0.1.1 (2 : Int32) r_1 hc1) (cwV 1 hts (gV gw_4_18 gw_2_15 gw_2_16 gw_1_3 gw_2_17) rfl rfl rfl (by decide +kernel) ⟨(Nat.le_of_ble_eq_true rfl), (Nat.le_of_ble_eq_true rfl)⟩) hK hN hZ hA hP hD hS [2, 3] rfl rfl rfl rfl 2 rfl rfl hl.1 rfl (Nat.le_of_ble_eq_true rfl) dX11_odds_8 ⟨Nat.zero_le _, Nat.zero_le _⟩ rfl (fun H locs hP hD hS => ?_)
  refine lv_iconst (v := 1) hx hb dX11_odds_11 rfl ?_
  refine lv_isub hx hb dX11_odds_12 ?_
  refine xnm hf (fun x_2 hf => ?_)
  refine lv_istore_n (lv' := [(3, .int x_2), (0, .ref a0), (1, .int p1), (2, .int p2)]) hx hb dX11_odds_13 rfl hl (Nat.le_of_ble_eq_true rfl) rfl (fun ls hl => ?_)
  refine lv_iload_n hx hb dX11_odds_14 rfl (lv_at hl 2 rfl) ?_
  refine xi_ne (tgt := 58) hx hb dX11_odds_15 (by decide) hf (fun hf => ?_) (fun hf => ?_)
  · refine lv_iload_n hx hb dX11_odds_58 rfl (lv_at hl 2 rfl) ?_
    refine lv_iconst (v := 1) hx hb dX11_odds_59 rfl ?_
    refine xc_ne (tgt := 92) hx hb dX11_odds_60 (by decide) hf (fun hf => ?_) (fun hf => ?_)
    · refine lv_ldc2 hx hb hown w1 dX11_odds_92 ?_
      cases hf
      exact rt_L hx hb hr hlocks hK hP hD hS hQ rfl rfl dX11_odds_95
    · refine lv_aload_n hx hb dX11_odds_63 rfl (lv_at hl 1 rfl) ?_
      refine va_get (C := RX11) (T := TX11) (N := 8) hx hb hts i11 hown hK hP 0 rfl rfl 5 (Nat.le_of_ble_eq_true rfl) w2 (fun _ h9 => h9) rfl dX11_odds_64 ?_
      refine lv_iload_n hx hb dX11_odds_67 rfl (lv_at hl 0 rfl) ?_
      refine lv_bipush (v := 8) hx hb dX11_odds_68 rfl ?_
      obtain ⟨u_3, hc3, hf⟩ := bnd1_el hf
      refine xV_V (As := [.int x_2, .int (8 : Int32)]) (wx := [(a0, .inr (11, [.ref a1, .ref a21, .ref a41, .ref a42, .ref a49, .ref a52, .ref a54, .ref a55])), (a1, .inr (10, [.ref a2, .ref a7, .ref a9, .ref a10, .ref a11, .ref a14, .ref a16, .ref a19, .int v0.1.2.2.2.2.2.2.2.2.1, .int v0.1.2.2.2.2.2.2.2.2.2.1, .int v0.1.2.2.2.2.2.2.2.2.2.2.1, .int v0.1.2.2.2.2.2.2.2.2.2.2.2.1, .int v0.1.2.2.2.2.2.2.2.2.2.2.2.2.1, .int v0.1.2.2.2.2.2.2.2.2.2.2.2.2.2])), (a2, .inr (7, [.ref a3, .ref a4, .ref a5, .ref a6, .int v0.1.1.2.2.2.2])), (a3, .inl (ca 0, 9, .inl v0.1.1.1)), (a7, .inr (2, [.ref a8, .int v0.1.2.1.2.1, .int v0.1.2.1.2.2.1, .int v0.1.2.1.2.2.2.1, .int v0.1.2.1.2.2.2.2])), (a52, .inr (2, [.ref a53, .int u_3.2.1, .int u_3.2.2.1, .int u_3.2.2.2.1, .int u_3.2.2.2.2])), (a53, .inl (ca 1, 17, .inr (.inl u_3.1)))]) ⟨hx, hb, hml, hown, hts⟩ (c_X2_fill l D ca zz a52 a53 _ v0.2.2.2.2.2.1 x_2 (8 : Int32) u_3 hc3) (cwV 2 hts (gV gw_4_19 gw_2_26 gw_2_27 gw_1_4 gw_2_28) rfl rfl rfl (by decide +kernel) ⟨(Nat.le_of_ble_eq_true rfl), (Nat.le_of_ble_eq_true rfl)⟩) hK hN hZ hA hP hD hS [5, 6] rfl rfl rfl rfl 5 rfl rfl hl.1 rfl (Nat.le_of_ble_eq_true rfl) dX11_odds_70 ⟨Nat.zero_le _, Nat.zero_le _⟩ rfl (fun H locs hP hD hS => ?_)
      refine lv_aload_n hx hb dX11_odds_73 rfl (lv_at hl 1 rfl) ?_
      refine va_get (C := RX11) (T := TX11) (N := 8) hx hb hts i11 hown hK hP 0 rfl rfl 5 (Nat.le_of_ble_eq_true rfl) w2 (fun _ h9 => h9) rfl dX11_odds_74 ?_
      refine lv_aload_n hx hb dX11_odds_77 rfl (lv_at hl 1 rfl) ?_
      refine va_get (C := RX11) (T := TX11) (N := 8) hx hb hts i11 hown hK hP 0 rfl rfl 0 (Nat.le_of_ble_eq_true rfl) w0 (fun _ h9 => h9) rfl dX11_odds_78 ?_
      refine va_getN (C := RX10) (T := TX10) (N := 14) hx hb hts i10 hown hK hP 1 rfl rfl 1 (Nat.le_of_ble_eq_true rfl) nw35 (fun _ h9 => h9) rfl dX11_odds_81 ?_
      refine va_getN (C := RX2) (T := TX2) (N := 5) hx hb hts i2 hown hK hP 4 rfl rfl 4 (Nat.le_of_ble_eq_true rfl) nw9 (fun _ h9 => h9) rfl dX11_odds_84 ?_
      refine lv_iload_n hx hb dX11_odds_87 rfl (lv_at hl 3 rfl) ?_
      obtain ⟨r_4, hc4, hf⟩ := bnd1_el hf
      refine xV_L (As := [.int v0.1.2.1.2.2.2.2, .int p2]) (wx := [(a0, .inr (11, [.ref a1, .ref a21, .ref a41, .ref a42, .ref a49, .ref a52, .ref a54, .ref a55])), (a1, .inr (10, [.ref a2, .ref a7, .ref a9, .ref a10, .ref a11, .ref a14, .ref a16, .ref a19, .int v0.1.2.2.2.2.2.2.2.2.1, .int v0.1.2.2.2.2.2.2.2.2.2.1, .int v0.1.2.2.2.2.2.2.2.2.2.2.1, .int v0.1.2.2.2.2.2.2.2.2.2.2.2.1, .int v0.1.2.2.2.2.2.2.2.2.2.2.2.2.1, .int v0.1.2.2.2.2.2.2.2.2.2.2.2.2.2])), (a2, .inr (7, [.ref a3, .ref a4, .ref a5, .ref a6, .int v0.1.1.2.2.2.2])), (a3, .inl (ca 0, 9, .inl v0.1.1.1)), (a7, .inr (2, [.ref a8, .int v0.1.2.1.2.1, .int v0.1.2.1.2.2.1, .int v0.1.2.1.2.2.2.1, .int v0.1.2.1.2.2.2.2])), (a52, .inr (2, [.ref a53, .int u_3.2.1, .int u_3.2.2.1, .int u_3.2.2.2.1, .int u_3.2.2.2.2])), (a53, .inl (ca 1, 17, .inr (.inl u_3.1)))]) ⟨hx, hb, hml, hown, hts⟩ (c_X2_leastTerms l D ca zz a52 a53 _ u_3 v0.1.2.1.2.2.2.2 p2 r_4 hc4) (cwV 2 hts (gV gw_4_20 gw_4_21 gw_4_22 gw_1_4 gw_4_23) rfl rfl rfl (by decide +kernel) ⟨(Nat.le_of_ble_eq_true rfl), (Nat.le_of_ble_eq_true rfl)⟩) hK hN hZ hA hP hD hS [5, 6] rfl rfl rfl rfl 5 rfl rfl hl.1 rfl (Nat.le_of_ble_eq_true rfl) dX11_odds_88 ⟨Nat.zero_le _, Nat.zero_le _⟩ rfl (fun H locs hP hD hS => ?_)
      cases hf
      exact rt_L hx hb hr hlocks hK hP hD hS hQ rfl rfl dX11_odds_91
  · refine lv_aload_n hx hb dX11_odds_18 rfl (lv_at hl 1 rfl) ?_
    refine va_get (C := RX11) (T := TX11) (N := 8) hx hb hts i11 hown hK hP 0 rfl rfl 5 (Nat.le_of_ble_eq_true rfl) w2 (fun _ h9 => h9) rfl dX11_odds_19 ?_
    refine lv_iload_n hx hb dX11_odds_22 rfl (lv_at hl 0 rfl) ?_
    refine lv_aload_n hx hb dX11_odds_23 rfl (lv_at hl 1 rfl) ?_
    refine va_get (C := RX11) (T := TX11) (N := 8) hx hb hts i11 hown hK hP 0 rfl rfl 0 (Nat.le_of_ble_eq_true rfl) w0 (fun _ h9 => h9) rfl dX11_odds_24 ?_
    refine va_getN (C := RX10) (T := TX10) (N := 14) hx hb hts i10 hown hK hP 1 rfl rfl 0 (Nat.le_of_ble_eq_true rfl) nw34 (fun _ h9 => h9) rfl dX11_odds_27 ?_
    refine lv_iconst (v := 0) hx hb dX11_odds_30 rfl ?_
    obtain ⟨r_5, hc5, hf⟩ := bnd1_el hf
    refine xV_I (As := [.int (0 : Int32)]) (wx := [(a0, .inr (11, [.ref a1, .ref a21, .ref a41, .ref a42, .ref a49, .ref a52, .ref a54, .ref a55])), (a1, .inr (10, [.ref a2, .ref a7, .ref a9, .ref a10, .ref a11, .ref a14, .ref a16, .ref a19, .int v0.1.2.2.2.2.2.2.2.2.1, .int v0.1.2.2.2.2.2.2.2.2.2.1, .int v0.1.2.2.2.2.2.2.2.2.2.2.1, .int v0.1.2.2.2.2.2.2.2.2.2.2.2.1, .int v0.1.2.2.2.2.2.2.2.2.2.2.2.2.1, .int v0.1.2.2.2.2.2.2.2.2.2.2.2.2.2])), (a2, .inr (7, [.ref a3, .ref a4, .ref a5, .ref a6, .int v0.1.1.2.2.2.2])), (a3, .inl (ca 0, 9, .inl v0.1.1.1)), (a7, .inr (2, [.ref a8, .int v0.1.2.1.2.1, .int v0.1.2.1.2.2.1, .int v0.1.2.1.2.2.2.1, .int v0.1.2.1.2.2.2.2])), (a52, .inr (2, [.ref a53, .int v0.2.2.2.2.2.1.2.1, .int v0.2.2.2.2.2.1.2.2.1, .int v0.2.2.2.2.2.1.2.2.2.1, .int v0.2.2.2.2.2.1.2.2.2.2])), (a53, .inl (ca 1, 17, .inr (.inl v0.2.2.2.2.2.1.1)))]) ⟨hx, hb, hml, hown, hts⟩ (c_X7_valueOf l D ca zz a2 a3 a4 a5 a6 _ v0.1.1 (0 : Int32) r_5 hc5) (cwV 1 hts (gV gw_4_18 gw_2_15 gw_2_16 gw_1_3 gw_2_17) rfl rfl rfl (by decide +kernel) ⟨(Nat.le_of_ble_eq_true rfl), (Nat.le_of_ble_eq_true rfl)⟩) hK hN hZ hA hP hD hS [2, 3] rfl rfl rfl rfl 2 rfl rfl hl.1 rfl (Nat.le_of_ble_eq_true rfl) dX11_odds_31 ⟨Nat.zero_le _, Nat.zero_le _⟩ rfl (fun H locs hP hD hS => ?_)
    obtain ⟨u_6, hc6, hf⟩ := bnd1_el hf
    refine xV_V (As := [.int x_2, .int r_5]) (wx := [(a0, .inr (11, [.ref a1, .ref a21, .ref a41, .ref a42, .ref a49, .ref a52, .ref a54, .ref a55])), (a1, .inr (10, [.ref a2, .ref a7, .ref a9, .ref a10, .ref a11, .ref a14, .ref a16, .ref a19, .int v0.1.2.2.2.2.2.2.2.2.1, .int v0.1.2.2.2.2.2.2.2.2.2.1, .int v0.1.2.2.2.2.2.2.2.2.2.2.1, .int v0.1.2.2.2.2.2.2.2.2.2.2.2.1, .int v0.1.2.2.2.2.2.2.2.2.2.2.2.2.1, .int v0.1.2.2.2.2.2.2.2.2.2.2.2.2.2])), (a2, .inr (7, [.ref a3, .ref a4, .ref a5, .ref a6, .int v0.1.1.2.2.2.2])), (a3, .inl (ca 0, 9, .inl v0.1.1.1)), (a7, .inr (2, [.ref a8, .int v0.1.2.1.2.1, .int v0.1.2.1.2.2.1, .int v0.1.2.1.2.2.2.1, .int v0.1.2.1.2.2.2.2])), (a52, .inr (2, [.ref a53, .int u_6.2.1, .int u_6.2.2.1, .int u_6.2.2.2.1, .int u_6.2.2.2.2])), (a53, .inl (ca 1, 17, .inr (.inl u_6.1)))]) ⟨hx, hb, hml, hown, hts⟩ (c_X2_fill l D ca zz a52 a53 _ v0.2.2.2.2.2.1 x_2 r_5 u_6 hc6) (cwV 2 hts (gV gw_4_19 gw_2_26 gw_2_27 gw_1_4 gw_2_28) rfl rfl rfl (by decide +kernel) ⟨(Nat.le_of_ble_eq_true rfl), (Nat.le_of_ble_eq_true rfl)⟩) hK hN hZ hA hP hD hS [5, 6] rfl rfl rfl rfl 5 rfl rfl hl.1 rfl (Nat.le_of_ble_eq_true rfl) dX11_odds_34 ⟨Nat.zero_le _, Nat.zero_le _⟩ rfl (fun H locs hP hD hS => ?_)
    refine lv_aload_n hx hb dX11_odds_37 rfl (lv_at hl 1 rfl) ?_
    refine va_get (C := RX11) (T := TX11) (N := 8) hx hb hts i11 hown hK hP 0 rfl rfl 5 (Nat.le_of_ble_eq_true rfl) w2 (fun _ h9 => h9) rfl dX11_odds_38 ?_
    refine lv_aload_n hx hb dX11_odds_41 rfl (lv_at hl 1 rfl) ?_
    refine va_get (C := RX11) (T := TX11) (N := 8) hx hb hts i11 hown hK hP 0 rfl rfl 0 (Nat.le_of_ble_eq_true rfl) w0 (fun _ h9 => h9) rfl dX11_odds_42 ?_
    refine va_getN (C := RX10) (T := TX10) (N := 14) hx hb hts i10 hown hK hP 1 rfl rfl 1 (Nat.le_of_ble_eq_true rfl) nw35 (fun _ h9 => h9) rfl dX11_odds_45 ?_
    refine va_getN (C := RX2) (T := TX2) (N := 5) hx hb hts i2 hown hK hP 4 rfl rfl 3 (Nat.le_of_ble_eq_true rfl) nw7 (fun _ h9 => h9) rfl dX11_odds_48 ?_
    refine lv_iconst (v := 1) hx hb dX11_odds_51 rfl ?_
    refine lv_isub hx hb dX11_odds_52 ?_
    refine lv_iload_n hx hb dX11_odds_53 rfl (lv_at hl 3 rfl) ?_
    obtain ⟨r_7, hc7, hf⟩ := bnd1_el hf
    refine xV_L (As := [.int (v0.1.2.1.2.2.2.1 - (1 : Int32)), .int p2]) (wx := [(a0, .inr (11, [.ref a1, .ref a21, .ref a41, .ref a42, .ref a49, .ref a52, .ref a54, .ref a55])), (a1, .inr (10, [.ref a2, .ref a7, .ref a9, .ref a10, .ref a11, .ref a14, .ref a16, .ref a19, .int v0.1.2.2.2.2.2.2.2.2.1, .int v0.1.2.2.2.2.2.2.2.2.2.1, .int v0.1.2.2.2.2.2.2.2.2.2.2.1, .int v0.1.2.2.2.2.2.2.2.2.2.2.2.1, .int v0.1.2.2.2.2.2.2.2.2.2.2.2.2.1, .int v0.1.2.2.2.2.2.2.2.2.2.2.2.2.2])), (a2, .inr (7, [.ref a3, .ref a4, .ref a5, .ref a6, .int v0.1.1.2.2.2.2])), (a3, .inl (ca 0, 9, .inl v0.1.1.1)), (a7, .inr (2, [.ref a8, .int v0.1.2.1.2.1, .int v0.1.2.1.2.2.1, .int v0.1.2.1.2.2.2.1, .int v0.1.2.1.2.2.2.2])), (a52, .inr (2, [.ref a53, .int u_6.2.1, .int u_6.2.2.1, .int u_6.2.2.2.1, .int u_6.2.2.2.2])), (a53, .inl (ca 1, 17, .inr (.inl u_6.1)))]) ⟨hx, hb, hml, hown, hts⟩ (c_X2_leastTerms l D ca zz a52 a53 _ u_6 (v0.1.2.1.2.2.2.1 - (1 : Int32)) p2 r_7 hc7) (cwV 2 hts (gV gw_4_20 gw_4_21 gw_4_22 gw_1_4 gw_4_23) rfl rfl rfl (by decide +kernel) ⟨(Nat.le_of_ble_eq_true rfl), (Nat.le_of_ble_eq_true rfl)⟩) hK hN hZ hA hP hD hS [5, 6] rfl rfl rfl rfl 5 rfl rfl hl.1 rfl (Nat.le_of_ble_eq_true rfl) dX11_odds_54 ⟨Nat.zero_le _, Nat.zero_le _⟩ rfl (fun H locs hP hD hS => ?_)
    cases hf
    exact rt_L hx hb hr hlocks hK hP hD hS hQ rfl rfl dX11_odds_57
abbrev wq_X4_bitAt : List Cond := Cond.code yX4_bitAt cX4_bitAt 2 (some .int) :: GL
set_option maxHeartbeats 4000000 in
set_option maxRecDepth 100000 in
theorem c_X4_bitAt (l : Launch) (D : va_G) (ca : Nat → ClassId) (zz : Nat → Nat) (a0 a1 : Nat) (sz : Nat) (v0 : V4) (p1 : Int32) (r : Int32) (hf : f_X4_bitAt v0 p1 = some r) : Met l yX4_bitAt wq_X4_bitAt ({ frames := 0, cells := 0, slots := 0, locals := 0 } : Room) (PR D ca zz [.ref a0, .int p1] sz [(a0, .inr (4, [.ref a1, .int v0.2.1, .int v0.2.2])), (a1, .inl (ca 0, 512, .inl v0.1))]) (QI D ca r [(a0, .inr (4, [.ref a1, .int v0.2.1, .int v0.2.2])), (a1, .inl (ca 0, 512, .inl v0.1))] (va_A [(a0, .inr (4, [.ref a1, .int v0.2.1, .int v0.2.2])), (a1, .inl (ca 0, 512, .inl v0.1))] sz)) 0 0 (va_A [(a0, .inr (4, [.ref a1, .int v0.2.1, .int v0.2.2])), (a1, .inl (ca 0, 512, .inl v0.1))] sz) := by
  refine en (y := yX4_bitAt) (wsm := wq_X4_bitAt) (av := [.ref a0, .int p1]) (cc := cX4_bitAt) (maxL := 2) (ret := (some .int)) (Qf := fun A => QI D ca r [(a0, .inr (4, [.ref a1, .int v0.2.1, .int v0.2.2])), (a1, .inl (ca 0, 512, .inl v0.1))] A) (by decide) rfl (Nat.le_of_ble_eq_true rfl) ?_
  intro p e s m args below meth c A Q ls hx hb hr hml hown hts hlocks hnm hA hN hZ hK hQ hP hD hS hl
  have w0 := hts _ (List.mem_cons_of_mem _ gw_1_167)
  have w1 := hts _ (List.mem_cons_of_mem _ gw_1_165)
  have w2 := hts _ (List.mem_cons_of_mem _ gw_1_166)
  have i4 : ∀ w ∈ u_ws RX4 TX4 3, w ∈ wq_X4_bitAt := fun w h => List.mem_cons_of_mem _ (inX4 w h)
  unfold f_X4_bitAt at hf
  refine lv_iload_n hx hb dX4_bitAt_0 rfl (lv_at hl 1 rfl) ?_
  refine xi_lt (tgt := 12) hx hb dX4_bitAt_1 (by decide) hf (fun hf => ?_) (fun hf => ?_)
  · refine lv_iconst (v := -1) hx hb dX4_bitAt_12 rfl ?_
    refine lv_goto (tgt := 31) hx hb dX4_bitAt_13 (by decide) ?_
    cases hf
    exact rt_I hx hb hr hlocks hK hP hD hS hQ rfl rfl dX4_bitAt_31
  · refine lv_iload_n hx hb dX4_bitAt_4 rfl (lv_at hl 1 rfl) ?_
    refine lv_aload_n hx hb dX4_bitAt_5 rfl (lv_at hl 0 rfl) ?_
    refine va_get (C := RX4) (T := TX4) (N := 3) hx hb hts i4 hown hK hP 0 rfl rfl 2 (Nat.le_of_ble_eq_true rfl) w0 (fun _ h9 => h9) rfl dX4_bitAt_6 ?_
    refine xc_lt (tgt := 16) hx hb dX4_bitAt_9 (by decide) hf (fun hf => ?_) (fun hf => ?_)
    · refine lv_aload_n hx hb dX4_bitAt_16 rfl (lv_at hl 0 rfl) ?_
      refine va_get (C := RX4) (T := TX4) (N := 3) hx hb hts i4 hown hK hP 0 rfl rfl 0 (Nat.le_of_ble_eq_true rfl) w1 (fun _ h9 => h9) rfl dX4_bitAt_17 ?_
      refine lv_aload_n hx hb dX4_bitAt_20 rfl (lv_at hl 0 rfl) ?_
      refine va_get (C := RX4) (T := TX4) (N := 3) hx hb hts i4 hown hK hP 0 rfl rfl 1 (Nat.le_of_ble_eq_true rfl) w2 (fun _ h9 => h9) rfl dX4_bitAt_21 ?_
      refine lv_iload_n hx hb dX4_bitAt_24 rfl (lv_at hl 1 rfl) ?_
      refine lv_iadd hx hb dX4_bitAt_25 ?_
      refine lv_sipush (v := 511) hx hb dX4_bitAt_26 rfl ?_
      refine lv_iand hx hb dX4_bitAt_29 ?_
      refine xiald hx hb hK hP 1 rfl hf dX4_bitAt_30 (fun hf => ?_)
      cases hf
      exact rt_I hx hb hr hlocks hK hP hD hS hQ rfl rfl dX4_bitAt_31
    · refine lv_iconst (v := -1) hx hb dX4_bitAt_12 rfl ?_
      refine lv_goto (tgt := 31) hx hb dX4_bitAt_13 (by decide) ?_
      cases hf
      exact rt_I hx hb hr hlocks hK hP hD hS hQ rfl rfl dX4_bitAt_31
abbrev wq_X11_history : List Cond := Cond.code yX11_history cX11_history 2 (some .int) :: GL
set_option maxHeartbeats 4000000 in
set_option maxRecDepth 100000 in
theorem c_X11_history (l : Launch) (D : va_G) (ca : Nat → ClassId) (zz : Nat → Nat) (a0 a1 a2 a7 a9 a10 a11 a14 a15 a16 a19 a21 a41 a42 a49 a52 a54 a55 : Nat) (sz : Nat) (v0 : V11) (p1 : Int32) (r : Int32) (hf : f_X11_history v0 p1 = some r) : Met l yX11_history wq_X11_history ({ frames := 1, cells := 0, slots := 0, locals := 21 } : Room) (PR D ca zz [.ref a0, .int p1] sz [(a0, .inr (11, [.ref a1, .ref a21, .ref a41, .ref a42, .ref a49, .ref a52, .ref a54, .ref a55])), (a1, .inr (10, [.ref a2, .ref a7, .ref a9, .ref a10, .ref a11, .ref a14, .ref a16, .ref a19, .int v0.1.2.2.2.2.2.2.2.2.1, .int v0.1.2.2.2.2.2.2.2.2.2.1, .int v0.1.2.2.2.2.2.2.2.2.2.2.1, .int v0.1.2.2.2.2.2.2.2.2.2.2.2.1, .int v0.1.2.2.2.2.2.2.2.2.2.2.2.2.1, .int v0.1.2.2.2.2.2.2.2.2.2.2.2.2.2])), (a14, .inr (4, [.ref a15, .int v0.1.2.2.2.2.2.1.2.1, .int v0.1.2.2.2.2.2.1.2.2])), (a15, .inl (ca 0, 512, .inl v0.1.2.2.2.2.2.1.1))]) (QI D ca r [(a0, .inr (11, [.ref a1, .ref a21, .ref a41, .ref a42, .ref a49, .ref a52, .ref a54, .ref a55])), (a1, .inr (10, [.ref a2, .ref a7, .ref a9, .ref a10, .ref a11, .ref a14, .ref a16, .ref a19, .int v0.1.2.2.2.2.2.2.2.2.1, .int v0.1.2.2.2.2.2.2.2.2.2.1, .int v0.1.2.2.2.2.2.2.2.2.2.2.1, .int v0.1.2.2.2.2.2.2.2.2.2.2.2.1, .int v0.1.2.2.2.2.2.2.2.2.2.2.2.2.1, .int v0.1.2.2.2.2.2.2.2.2.2.2.2.2.2])), (a14, .inr (4, [.ref a15, .int v0.1.2.2.2.2.2.1.2.1, .int v0.1.2.2.2.2.2.1.2.2])), (a15, .inl (ca 0, 512, .inl v0.1.2.2.2.2.2.1.1))] (va_A [(a0, .inr (11, [.ref a1, .ref a21, .ref a41, .ref a42, .ref a49, .ref a52, .ref a54, .ref a55])), (a1, .inr (10, [.ref a2, .ref a7, .ref a9, .ref a10, .ref a11, .ref a14, .ref a16, .ref a19, .int v0.1.2.2.2.2.2.2.2.2.1, .int v0.1.2.2.2.2.2.2.2.2.2.1, .int v0.1.2.2.2.2.2.2.2.2.2.2.1, .int v0.1.2.2.2.2.2.2.2.2.2.2.2.1, .int v0.1.2.2.2.2.2.2.2.2.2.2.2.2.1, .int v0.1.2.2.2.2.2.2.2.2.2.2.2.2.2])), (a14, .inr (4, [.ref a15, .int v0.1.2.2.2.2.2.1.2.1, .int v0.1.2.2.2.2.2.1.2.2])), (a15, .inl (ca 0, 512, .inl v0.1.2.2.2.2.2.1.1))] sz)) 0 0 (va_A [(a0, .inr (11, [.ref a1, .ref a21, .ref a41, .ref a42, .ref a49, .ref a52, .ref a54, .ref a55])), (a1, .inr (10, [.ref a2, .ref a7, .ref a9, .ref a10, .ref a11, .ref a14, .ref a16, .ref a19, .int v0.1.2.2.2.2.2.2.2.2.1, .int v0.1.2.2.2.2.2.2.2.2.2.1, .int v0.1.2.2.2.2.2.2.2.2.2.2.1, .int v0.1.2.2.2.2.2.2.2.2.2.2.2.1, .int v0.1.2.2.2.2.2.2.2.2.2.2.2.2.1, .int v0.1.2.2.2.2.2.2.2.2.2.2.2.2.2])), (a14, .inr (4, [.ref a15, .int v0.1.2.2.2.2.2.1.2.1, .int v0.1.2.2.2.2.2.1.2.2])), (a15, .inl (ca 0, 512, .inl v0.1.2.2.2.2.2.1.1))] sz) := by
  refine en (y := yX11_history) (wsm := wq_X11_history) (av := [.ref a0, .int p1]) (cc := cX11_history) (maxL := 2) (ret := (some .int)) (Qf := fun A => QI D ca r [(a0, .inr (11, [.ref a1, .ref a21, .ref a41, .ref a42, .ref a49, .ref a52, .ref a54, .ref a55])), (a1, .inr (10, [.ref a2, .ref a7, .ref a9, .ref a10, .ref a11, .ref a14, .ref a16, .ref a19, .int v0.1.2.2.2.2.2.2.2.2.1, .int v0.1.2.2.2.2.2.2.2.2.2.1, .int v0.1.2.2.2.2.2.2.2.2.2.2.1, .int v0.1.2.2.2.2.2.2.2.2.2.2.2.1, .int v0.1.2.2.2.2.2.2.2.2.2.2.2.2.1, .int v0.1.2.2.2.2.2.2.2.2.2.2.2.2.2])), (a14, .inr (4, [.ref a15, .int v0.1.2.2.2.2.2.1.2.1, .int v0.1.2.2.2.2.2.1.2.2])), (a15, .inl (ca 0, 512, .inl v0.1.2.2.2.2.2.1.1))] A) (by decide) rfl (Nat.le_of_ble_eq_true rfl) ?_
  intro p e s m args below meth c A Q ls hx hb hr hml hown hts hlocks hnm hA hN hZ hK hQ hP hD hS hl
  have w0 := hts _ (List.mem_cons_of_mem _ gw_2_187)
  have nw37 := NW.use (args := args) (w := .fieldLinkNest RX11 169 "NoiseWatch$Watch" "heard" "LNoiseWatch$Queue;" "NoiseWatch") hN 37 rfl
  have i10 : ∀ w ∈ u_ws RX10 TX10 14, w ∈ wq_X11_history := fun w h => List.mem_cons_of_mem _ (inX10 w h)
  have i11 : ∀ w ∈ u_ws RX11 TX11 8, w ∈ wq_X11_history := fun w h => List.mem_cons_of_mem _ (inX11 w h)
  unfold f_X11_history at hf
  refine lv_aload_n hx hb dX11_history_0 rfl (lv_at hl 0 rfl) ?_
  refine va_get (C := RX11) (T := TX11) (N := 8) hx hb hts i11 hown hK hP 0 rfl rfl 0 (Nat.le_of_ble_eq_true rfl) w0 (fun _ h9 => h9) rfl dX11_history_1 ?_
  refine va_getN (C := RX10) (T := TX10) (N := 14) hx hb hts i10 hown hK hP 1 rfl rfl 5 (Nat.le_of_ble_eq_true rfl) nw37 (fun _ h9 => h9) rfl dX11_history_4 ?_
  refine lv_iload_n hx hb dX11_history_7 rfl (lv_at hl 1 rfl) ?_
  obtain ⟨r_1, hc1, hf⟩ := bnd1_el hf
  refine xV_I (As := [.int p1]) (wx := [(a0, .inr (11, [.ref a1, .ref a21, .ref a41, .ref a42, .ref a49, .ref a52, .ref a54, .ref a55])), (a1, .inr (10, [.ref a2, .ref a7, .ref a9, .ref a10, .ref a11, .ref a14, .ref a16, .ref a19, .int v0.1.2.2.2.2.2.2.2.2.1, .int v0.1.2.2.2.2.2.2.2.2.2.1, .int v0.1.2.2.2.2.2.2.2.2.2.2.1, .int v0.1.2.2.2.2.2.2.2.2.2.2.2.1, .int v0.1.2.2.2.2.2.2.2.2.2.2.2.2.1, .int v0.1.2.2.2.2.2.2.2.2.2.2.2.2.2])), (a14, .inr (4, [.ref a15, .int v0.1.2.2.2.2.2.1.2.1, .int v0.1.2.2.2.2.2.1.2.2])), (a15, .inl (ca 0, 512, .inl v0.1.2.2.2.2.2.1.1))]) ⟨hx, hb, hml, hown, hts⟩ (c_X4_bitAt l D ca zz a14 a15 _ v0.1.2.2.2.2.2.1 p1 r_1 hc1) (cwV 1 hts (gV gw_4_29 gw_4_30 gw_4_31 gw_1_8 gw_4_32) rfl rfl rfl (by decide +kernel) ⟨(Nat.le_of_ble_eq_true rfl), (Nat.le_of_ble_eq_true rfl)⟩) hK hN hZ hA hP hD hS [2, 3] rfl rfl rfl rfl 2 rfl rfl hl.1 rfl (Nat.le_of_ble_eq_true rfl) dX11_history_8 ⟨Nat.zero_le _, Nat.zero_le _⟩ rfl (fun H locs hP hD hS => ?_)
  cases hf
  exact rt_I hx hb hr hlocks hK hP hD hS hQ rfl rfl dX11_history_11
abbrev wq_X11_pool : List Cond := Cond.code yX11_pool cX11_pool 2 (some .int) :: GL
set_option maxHeartbeats 4000000 in
set_option maxRecDepth 100000 in
theorem c_X11_pool (l : Launch) (D : va_G) (ca : Nat → ClassId) (zz : Nat → Nat) (a0 a1 a2 a7 a9 a10 a11 a12 a13 a14 a16 a19 a21 a41 a42 a49 a52 a54 a55 : Nat) (sz : Nat) (v0 : V11) (p1 : Int32) (r : Int32) (hf : f_X11_pool v0 p1 = some r) : Met l yX11_pool wq_X11_pool ({ frames := 1, cells := 0, slots := 0, locals := 21 } : Room) (PR D ca zz [.ref a0, .int p1] sz [(a0, .inr (11, [.ref a1, .ref a21, .ref a41, .ref a42, .ref a49, .ref a52, .ref a54, .ref a55])), (a1, .inr (10, [.ref a2, .ref a7, .ref a9, .ref a10, .ref a11, .ref a14, .ref a16, .ref a19, .int v0.1.2.2.2.2.2.2.2.2.1, .int v0.1.2.2.2.2.2.2.2.2.2.1, .int v0.1.2.2.2.2.2.2.2.2.2.2.1, .int v0.1.2.2.2.2.2.2.2.2.2.2.2.1, .int v0.1.2.2.2.2.2.2.2.2.2.2.2.2.1, .int v0.1.2.2.2.2.2.2.2.2.2.2.2.2.2])), (a11, .inr (3, [.ref a12, .int v0.1.2.2.2.2.1.2.1, .int v0.1.2.2.2.2.1.2.2.1, .int v0.1.2.2.2.2.1.2.2.2.1, .int v0.1.2.2.2.2.1.2.2.2.2.1, .int v0.1.2.2.2.2.1.2.2.2.2.2.1, .int v0.1.2.2.2.2.1.2.2.2.2.2.2])), (a12, .inr (4, [.ref a13, .int v0.1.2.2.2.2.1.1.2.1, .int v0.1.2.2.2.2.1.1.2.2])), (a13, .inl (ca 0, 512, .inl v0.1.2.2.2.2.1.1.1))]) (QI D ca r [(a0, .inr (11, [.ref a1, .ref a21, .ref a41, .ref a42, .ref a49, .ref a52, .ref a54, .ref a55])), (a1, .inr (10, [.ref a2, .ref a7, .ref a9, .ref a10, .ref a11, .ref a14, .ref a16, .ref a19, .int v0.1.2.2.2.2.2.2.2.2.1, .int v0.1.2.2.2.2.2.2.2.2.2.1, .int v0.1.2.2.2.2.2.2.2.2.2.2.1, .int v0.1.2.2.2.2.2.2.2.2.2.2.2.1, .int v0.1.2.2.2.2.2.2.2.2.2.2.2.2.1, .int v0.1.2.2.2.2.2.2.2.2.2.2.2.2.2])), (a11, .inr (3, [.ref a12, .int v0.1.2.2.2.2.1.2.1, .int v0.1.2.2.2.2.1.2.2.1, .int v0.1.2.2.2.2.1.2.2.2.1, .int v0.1.2.2.2.2.1.2.2.2.2.1, .int v0.1.2.2.2.2.1.2.2.2.2.2.1, .int v0.1.2.2.2.2.1.2.2.2.2.2.2])), (a12, .inr (4, [.ref a13, .int v0.1.2.2.2.2.1.1.2.1, .int v0.1.2.2.2.2.1.1.2.2])), (a13, .inl (ca 0, 512, .inl v0.1.2.2.2.2.1.1.1))] (va_A [(a0, .inr (11, [.ref a1, .ref a21, .ref a41, .ref a42, .ref a49, .ref a52, .ref a54, .ref a55])), (a1, .inr (10, [.ref a2, .ref a7, .ref a9, .ref a10, .ref a11, .ref a14, .ref a16, .ref a19, .int v0.1.2.2.2.2.2.2.2.2.1, .int v0.1.2.2.2.2.2.2.2.2.2.1, .int v0.1.2.2.2.2.2.2.2.2.2.2.1, .int v0.1.2.2.2.2.2.2.2.2.2.2.2.1, .int v0.1.2.2.2.2.2.2.2.2.2.2.2.2.1, .int v0.1.2.2.2.2.2.2.2.2.2.2.2.2.2])), (a11, .inr (3, [.ref a12, .int v0.1.2.2.2.2.1.2.1, .int v0.1.2.2.2.2.1.2.2.1, .int v0.1.2.2.2.2.1.2.2.2.1, .int v0.1.2.2.2.2.1.2.2.2.2.1, .int v0.1.2.2.2.2.1.2.2.2.2.2.1, .int v0.1.2.2.2.2.1.2.2.2.2.2.2])), (a12, .inr (4, [.ref a13, .int v0.1.2.2.2.2.1.1.2.1, .int v0.1.2.2.2.2.1.1.2.2])), (a13, .inl (ca 0, 512, .inl v0.1.2.2.2.2.1.1.1))] sz)) 0 0 (va_A [(a0, .inr (11, [.ref a1, .ref a21, .ref a41, .ref a42, .ref a49, .ref a52, .ref a54, .ref a55])), (a1, .inr (10, [.ref a2, .ref a7, .ref a9, .ref a10, .ref a11, .ref a14, .ref a16, .ref a19, .int v0.1.2.2.2.2.2.2.2.2.1, .int v0.1.2.2.2.2.2.2.2.2.2.1, .int v0.1.2.2.2.2.2.2.2.2.2.2.1, .int v0.1.2.2.2.2.2.2.2.2.2.2.2.1, .int v0.1.2.2.2.2.2.2.2.2.2.2.2.2.1, .int v0.1.2.2.2.2.2.2.2.2.2.2.2.2.2])), (a11, .inr (3, [.ref a12, .int v0.1.2.2.2.2.1.2.1, .int v0.1.2.2.2.2.1.2.2.1, .int v0.1.2.2.2.2.1.2.2.2.1, .int v0.1.2.2.2.2.1.2.2.2.2.1, .int v0.1.2.2.2.2.1.2.2.2.2.2.1, .int v0.1.2.2.2.2.1.2.2.2.2.2.2])), (a12, .inr (4, [.ref a13, .int v0.1.2.2.2.2.1.1.2.1, .int v0.1.2.2.2.2.1.1.2.2])), (a13, .inl (ca 0, 512, .inl v0.1.2.2.2.2.1.1.1))] sz) := by
  refine en (y := yX11_pool) (wsm := wq_X11_pool) (av := [.ref a0, .int p1]) (cc := cX11_pool) (maxL := 2) (ret := (some .int)) (Qf := fun A => QI D ca r [(a0, .inr (11, [.ref a1, .ref a21, .ref a41, .ref a42, .ref a49, .ref a52, .ref a54, .ref a55])), (a1, .inr (10, [.ref a2, .ref a7, .ref a9, .ref a10, .ref a11, .ref a14, .ref a16, .ref a19, .int v0.1.2.2.2.2.2.2.2.2.1, .int v0.1.2.2.2.2.2.2.2.2.2.1, .int v0.1.2.2.2.2.2.2.2.2.2.2.1, .int v0.1.2.2.2.2.2.2.2.2.2.2.2.1, .int v0.1.2.2.2.2.2.2.2.2.2.2.2.2.1, .int v0.1.2.2.2.2.2.2.2.2.2.2.2.2.2])), (a11, .inr (3, [.ref a12, .int v0.1.2.2.2.2.1.2.1, .int v0.1.2.2.2.2.1.2.2.1, .int v0.1.2.2.2.2.1.2.2.2.1, .int v0.1.2.2.2.2.1.2.2.2.2.1, .int v0.1.2.2.2.2.1.2.2.2.2.2.1, .int v0.1.2.2.2.2.1.2.2.2.2.2.2])), (a12, .inr (4, [.ref a13, .int v0.1.2.2.2.2.1.1.2.1, .int v0.1.2.2.2.2.1.1.2.2])), (a13, .inl (ca 0, 512, .inl v0.1.2.2.2.2.1.1.1))] A) (by decide) rfl (Nat.le_of_ble_eq_true rfl) ?_
  intro p e s m args below meth c A Q ls hx hb hr hml hown hts hlocks hnm hA hN hZ hK hQ hP hD hS hl
  have w0 := hts _ (List.mem_cons_of_mem _ gw_2_187)
  have nw36 := NW.use (args := args) (w := .fieldLinkNest RX11 120 "NoiseWatch$Watch" "pool" "LNoiseWatch$Pool;" "NoiseWatch") hN 36 rfl
  have nw23 := NW.use (args := args) (w := .fieldLinkNest RX11 178 "NoiseWatch$Pool" "bits" "LNoiseWatch$Queue;" "NoiseWatch") hN 23 rfl
  have i10 : ∀ w ∈ u_ws RX10 TX10 14, w ∈ wq_X11_pool := fun w h => List.mem_cons_of_mem _ (inX10 w h)
  have i11 : ∀ w ∈ u_ws RX11 TX11 8, w ∈ wq_X11_pool := fun w h => List.mem_cons_of_mem _ (inX11 w h)
  have i3 : ∀ w ∈ u_ws RX3 TX3 7, w ∈ wq_X11_pool := fun w h => List.mem_cons_of_mem _ (inX3 w h)
  unfold f_X11_pool at hf
  refine lv_aload_n hx hb dX11_pool_0 rfl (lv_at hl 0 rfl) ?_
  refine va_get (C := RX11) (T := TX11) (N := 8) hx hb hts i11 hown hK hP 0 rfl rfl 0 (Nat.le_of_ble_eq_true rfl) w0 (fun _ h9 => h9) rfl dX11_pool_1 ?_
  refine va_getN (C := RX10) (T := TX10) (N := 14) hx hb hts i10 hown hK hP 1 rfl rfl 4 (Nat.le_of_ble_eq_true rfl) nw36 (fun _ h9 => h9) rfl dX11_pool_4 ?_
  refine va_getN (C := RX3) (T := TX3) (N := 7) hx hb hts i3 hown hK hP 2 rfl rfl 0 (Nat.le_of_ble_eq_true rfl) nw23 (fun _ h9 => h9) rfl dX11_pool_7 ?_
  refine lv_iload_n hx hb dX11_pool_10 rfl (lv_at hl 1 rfl) ?_
  obtain ⟨r_1, hc1, hf⟩ := bnd1_el hf
  refine xV_I (As := [.int p1]) (wx := [(a0, .inr (11, [.ref a1, .ref a21, .ref a41, .ref a42, .ref a49, .ref a52, .ref a54, .ref a55])), (a1, .inr (10, [.ref a2, .ref a7, .ref a9, .ref a10, .ref a11, .ref a14, .ref a16, .ref a19, .int v0.1.2.2.2.2.2.2.2.2.1, .int v0.1.2.2.2.2.2.2.2.2.2.1, .int v0.1.2.2.2.2.2.2.2.2.2.2.1, .int v0.1.2.2.2.2.2.2.2.2.2.2.2.1, .int v0.1.2.2.2.2.2.2.2.2.2.2.2.2.1, .int v0.1.2.2.2.2.2.2.2.2.2.2.2.2.2])), (a11, .inr (3, [.ref a12, .int v0.1.2.2.2.2.1.2.1, .int v0.1.2.2.2.2.1.2.2.1, .int v0.1.2.2.2.2.1.2.2.2.1, .int v0.1.2.2.2.2.1.2.2.2.2.1, .int v0.1.2.2.2.2.1.2.2.2.2.2.1, .int v0.1.2.2.2.2.1.2.2.2.2.2.2])), (a12, .inr (4, [.ref a13, .int v0.1.2.2.2.2.1.1.2.1, .int v0.1.2.2.2.2.1.1.2.2])), (a13, .inl (ca 0, 512, .inl v0.1.2.2.2.2.1.1.1))]) ⟨hx, hb, hml, hown, hts⟩ (c_X4_bitAt l D ca zz a12 a13 _ v0.1.2.2.2.2.1.1 p1 r_1 hc1) (cwV 1 hts (gV gw_4_29 gw_4_30 gw_4_31 gw_1_8 gw_4_32) rfl rfl rfl (by decide +kernel) ⟨(Nat.le_of_ble_eq_true rfl), (Nat.le_of_ble_eq_true rfl)⟩) hK hN hZ hA hP hD hS [3, 4] rfl rfl rfl rfl 3 rfl rfl hl.1 rfl (Nat.le_of_ble_eq_true rfl) dX11_pool_11 ⟨Nat.zero_le _, Nat.zero_le _⟩ rfl (fun H locs hP hD hS => ?_)
  cases hf
  exact rt_I hx hb hr hlocks hK hP hD hS hQ rfl rfl dX11_pool_14
abbrev wq_X6_has : List Cond := Cond.code yX6_has cX6_has 2 (some .boolean) :: GL
set_option maxHeartbeats 4000000 in
set_option maxRecDepth 100000 in
theorem c_X6_has (l : Launch) (D : va_G) (ca : Nat → ClassId) (zz : Nat → Nat) (a0 a1 a2 : Nat) (sz : Nat) (v0 : V6) (p1 : Int32) (r : Int32) (hf : f_X6_has v0 p1 = some r) : Met l yX6_has wq_X6_has ({ frames := 0, cells := 0, slots := 0, locals := 0 } : Room) (PR D ca zz [.ref a0, .int p1] sz [(a0, .inr (6, [.ref a1, .ref a2, .int v0.2.2]))]) (QI D ca r [(a0, .inr (6, [.ref a1, .ref a2, .int v0.2.2]))] (va_A [(a0, .inr (6, [.ref a1, .ref a2, .int v0.2.2]))] sz)) 0 0 (va_A [(a0, .inr (6, [.ref a1, .ref a2, .int v0.2.2]))] sz) := by
  refine en (y := yX6_has) (wsm := wq_X6_has) (av := [.ref a0, .int p1]) (cc := cX6_has) (maxL := 2) (ret := (some .boolean)) (Qf := fun A => QI D ca r [(a0, .inr (6, [.ref a1, .ref a2, .int v0.2.2]))] A) (by decide) rfl (Nat.le_of_ble_eq_true rfl) ?_
  intro p e s m args below meth c A Q ls hx hb hr hml hown hts hlocks hnm hA hN hZ hK hQ hP hD hS hl
  have w0 := hts _ (List.mem_cons_of_mem _ gw_1_218)
  have i6 : ∀ w ∈ u_ws RX6 TX6 3, w ∈ wq_X6_has := fun w h => List.mem_cons_of_mem _ (inX6 w h)
  unfold f_X6_has at hf
  refine lv_iload_n hx hb dX6_has_0 rfl (lv_at hl 1 rfl) ?_
  refine xi_lt (tgt := 22) hx hb dX6_has_1 (by decide) hf (fun hf => ?_) (fun hf => ?_)
  · refine lv_iconst (v := 0) hx hb dX6_has_22 rfl ?_
    cases hf
    exact rt_Z hx hb hr hlocks hK hP hD hS hQ (Or.inl rfl) rfl rfl dX6_has_23
  · refine lv_iload_n hx hb dX6_has_4 rfl (lv_at hl 1 rfl) ?_
    refine lv_aload_n hx hb dX6_has_5 rfl (lv_at hl 0 rfl) ?_
    refine va_get (C := RX6) (T := TX6) (N := 3) hx hb hts i6 hown hK hP 0 rfl rfl 2 (Nat.le_of_ble_eq_true rfl) w0 (fun _ h9 => h9) rfl dX6_has_6 ?_
    refine xc_ge (tgt := 22) hx hb dX6_has_9 (by decide) hf (fun hf => ?_) (fun hf => ?_)
    · refine lv_iconst (v := 0) hx hb dX6_has_22 rfl ?_
      cases hf
      exact rt_Z hx hb hr hlocks hK hP hD hS hQ (Or.inl rfl) rfl rfl dX6_has_23
    · refine lv_iload_n hx hb dX6_has_12 rfl (lv_at hl 1 rfl) ?_
      refine lv_bipush (v := 15) hx hb dX6_has_13 rfl ?_
      refine xc_ge (tgt := 22) hx hb dX6_has_15 (by decide) hf (fun hf => ?_) (fun hf => ?_)
      · refine lv_iconst (v := 0) hx hb dX6_has_22 rfl ?_
        cases hf
        exact rt_Z hx hb hr hlocks hK hP hD hS hQ (Or.inl rfl) rfl rfl dX6_has_23
      · refine lv_iconst (v := 1) hx hb dX6_has_18 rfl ?_
        refine lv_goto (tgt := 23) hx hb dX6_has_19 (by decide) ?_
        cases hf
        exact rt_Z hx hb hr hlocks hK hP hD hS hQ (Or.inr rfl) rfl rfl dX6_has_23
abbrev wq_X6_lengthOf : List Cond := Cond.code yX6_lengthOf cX6_lengthOf 2 (some .int) :: GL
set_option maxHeartbeats 4000000 in
set_option maxRecDepth 100000 in
theorem c_X6_lengthOf (l : Launch) (D : va_G) (ca : Nat → ClassId) (zz : Nat → Nat) (a0 a1 a2 : Nat) (sz : Nat) (v0 : V6) (p1 : Int32) (r : Int32) (hf : f_X6_lengthOf v0 p1 = some r) : Met l yX6_lengthOf wq_X6_lengthOf ({ frames := 1, cells := 0, slots := 0, locals := 21 } : Room) (PR D ca zz [.ref a0, .int p1] sz [(a0, .inr (6, [.ref a1, .ref a2, .int v0.2.2])), (a2, .inl (ca 0, 15, .inl v0.2.1))]) (QI D ca r [(a0, .inr (6, [.ref a1, .ref a2, .int v0.2.2])), (a2, .inl (ca 0, 15, .inl v0.2.1))] (va_A [(a0, .inr (6, [.ref a1, .ref a2, .int v0.2.2])), (a2, .inl (ca 0, 15, .inl v0.2.1))] sz)) 0 0 (va_A [(a0, .inr (6, [.ref a1, .ref a2, .int v0.2.2])), (a2, .inl (ca 0, 15, .inl v0.2.1))] sz) := by
  refine en (y := yX6_lengthOf) (wsm := wq_X6_lengthOf) (av := [.ref a0, .int p1]) (cc := cX6_lengthOf) (maxL := 2) (ret := (some .int)) (Qf := fun A => QI D ca r [(a0, .inr (6, [.ref a1, .ref a2, .int v0.2.2])), (a2, .inl (ca 0, 15, .inl v0.2.1))] A) (by decide) rfl (Nat.le_of_ble_eq_true rfl) ?_
  intro p e s m args below meth c A Q ls hx hb hr hml hown hts hlocks hnm hA hN hZ hK hQ hP hD hS hl
  have w0 := hts _ (List.mem_cons_of_mem _ gw_1_217)
  have i6 : ∀ w ∈ u_ws RX6 TX6 3, w ∈ wq_X6_lengthOf := fun w h => List.mem_cons_of_mem _ (inX6 w h)
  unfold f_X6_lengthOf at hf
  refine lv_aload_n hx hb dX6_lengthOf_0 rfl (lv_at hl 0 rfl) ?_
  refine lv_iload_n hx hb dX6_lengthOf_1 rfl (lv_at hl 1 rfl) ?_
  obtain ⟨r_1, hc1, hf⟩ := bnd1_el hf
  refine xV_I (As := [.int p1]) (wx := [(a0, .inr (6, [.ref a1, .ref a2, .int v0.2.2])), (a2, .inl (ca 0, 15, .inl v0.2.1))]) ⟨hx, hb, hml, hown, hts⟩ (c_X6_has l D ca zz a0 a1 a2 _ v0 p1 r_1 hc1) (cwV 1 hts (gV gw_4_45 gw_4_47 gw_s_1_12 gw_1_9 gw_4_48) rfl rfl rfl (by decide +kernel) ⟨(Nat.le_of_ble_eq_true rfl), (Nat.le_of_ble_eq_true rfl)⟩) hK hN hZ hA hP hD hS [0] rfl rfl rfl rfl 0 rfl rfl hl.1 rfl (Nat.le_of_ble_eq_true rfl) dX6_lengthOf_2 ⟨Nat.zero_le _, Nat.zero_le _⟩ rfl (fun H locs hP hD hS => ?_)
  refine xi_eq (tgt := 17) hx hb dX6_lengthOf_5 (by decide) hf (fun hf => ?_) (fun hf => ?_)
  · refine lv_iconst (v := -1) hx hb dX6_lengthOf_17 rfl ?_
    cases hf
    exact rt_I hx hb hr hlocks hK hP hD hS hQ rfl rfl dX6_lengthOf_18
  · refine lv_aload_n hx hb dX6_lengthOf_8 rfl (lv_at hl 0 rfl) ?_
    refine va_get (C := RX6) (T := TX6) (N := 3) hx hb hts i6 hown hK hP 0 rfl rfl 1 (Nat.le_of_ble_eq_true rfl) w0 (fun _ h9 => h9) rfl dX6_lengthOf_9 ?_
    refine lv_iload_n hx hb dX6_lengthOf_12 rfl (lv_at hl 1 rfl) ?_
    refine xiald hx hb hK hP 1 rfl hf dX6_lengthOf_13 (fun hf => ?_)
    refine lv_goto (tgt := 18) hx hb dX6_lengthOf_14 (by decide) ?_
    cases hf
    exact rt_I hx hb hr hlocks hK hP hD hS hQ rfl rfl dX6_lengthOf_18
abbrev wq_X6_sampleOf : List Cond := Cond.code yX6_sampleOf cX6_sampleOf 3 (some .int) :: GL
set_option maxHeartbeats 4000000 in
set_option maxRecDepth 100000 in
theorem c_X6_sampleOf (l : Launch) (D : va_G) (ca : Nat → ClassId) (zz : Nat → Nat) (a0 a1 a2 : Nat) (sz : Nat) (v0 : V6) (p1 : Int32) (p2 : Int32) (r : Int32) (hf : f_X6_sampleOf v0 p1 p2 = some r) : Met l yX6_sampleOf wq_X6_sampleOf ({ frames := 1, cells := 0, slots := 0, locals := 21 } : Room) (PR D ca zz [.ref a0, .int p1, .int p2] sz [(a0, .inr (6, [.ref a1, .ref a2, .int v0.2.2])), (a1, .inl (ca 0, 15, .inl v0.1)), (a2, .inl (ca 0, 15, .inl v0.2.1))]) (QI D ca r [(a0, .inr (6, [.ref a1, .ref a2, .int v0.2.2])), (a1, .inl (ca 0, 15, .inl v0.1)), (a2, .inl (ca 0, 15, .inl v0.2.1))] (va_A [(a0, .inr (6, [.ref a1, .ref a2, .int v0.2.2])), (a1, .inl (ca 0, 15, .inl v0.1)), (a2, .inl (ca 0, 15, .inl v0.2.1))] sz)) 0 0 (va_A [(a0, .inr (6, [.ref a1, .ref a2, .int v0.2.2])), (a1, .inl (ca 0, 15, .inl v0.1)), (a2, .inl (ca 0, 15, .inl v0.2.1))] sz) := by
  refine en (y := yX6_sampleOf) (wsm := wq_X6_sampleOf) (av := [.ref a0, .int p1, .int p2]) (cc := cX6_sampleOf) (maxL := 3) (ret := (some .int)) (Qf := fun A => QI D ca r [(a0, .inr (6, [.ref a1, .ref a2, .int v0.2.2])), (a1, .inl (ca 0, 15, .inl v0.1)), (a2, .inl (ca 0, 15, .inl v0.2.1))] A) (by decide) rfl (Nat.le_of_ble_eq_true rfl) ?_
  intro p e s m args below meth c A Q ls hx hb hr hml hown hts hlocks hnm hA hN hZ hK hQ hP hD hS hl
  have w0 := hts _ (List.mem_cons_of_mem _ gw_1_217)
  have w1 := hts _ (List.mem_cons_of_mem _ gw_1_216)
  have i6 : ∀ w ∈ u_ws RX6 TX6 3, w ∈ wq_X6_sampleOf := fun w h => List.mem_cons_of_mem _ (inX6 w h)
  unfold f_X6_sampleOf at hf
  refine lv_aload_n hx hb dX6_sampleOf_0 rfl (lv_at hl 0 rfl) ?_
  refine lv_iload_n hx hb dX6_sampleOf_1 rfl (lv_at hl 1 rfl) ?_
  obtain ⟨r_1, hc1, hf⟩ := bnd1_el hf
  refine xV_I (As := [.int p1]) (wx := [(a0, .inr (6, [.ref a1, .ref a2, .int v0.2.2])), (a1, .inl (ca 0, 15, .inl v0.1)), (a2, .inl (ca 0, 15, .inl v0.2.1))]) ⟨hx, hb, hml, hown, hts⟩ (c_X6_has l D ca zz a0 a1 a2 _ v0 p1 r_1 hc1) (cwV 1 hts (gV gw_4_45 gw_4_47 gw_s_1_12 gw_1_9 gw_4_48) rfl rfl rfl (by decide +kernel) ⟨(Nat.le_of_ble_eq_true rfl), (Nat.le_of_ble_eq_true rfl)⟩) hK hN hZ hA hP hD hS [0] rfl rfl rfl rfl 0 rfl rfl hl.1 rfl (Nat.le_of_ble_eq_true rfl) dX6_sampleOf_2 ⟨Nat.zero_le _, Nat.zero_le _⟩ rfl (fun H locs hP hD hS => ?_)
  refine xi_eq (tgt := 35) hx hb dX6_sampleOf_5 (by decide) hf (fun hf => ?_) (fun hf => ?_)
  · refine lv_iconst (v := -1) hx hb dX6_sampleOf_35 rfl ?_
    cases hf
    exact rt_I hx hb hr hlocks hK hP hD hS hQ rfl rfl dX6_sampleOf_36
  · refine lv_iload_n hx hb dX6_sampleOf_8 rfl (lv_at hl 2 rfl) ?_
    refine xi_lt (tgt := 35) hx hb dX6_sampleOf_9 (by decide) hf (fun hf => ?_) (fun hf => ?_)
    · refine lv_iconst (v := -1) hx hb dX6_sampleOf_35 rfl ?_
      cases hf
      exact rt_I hx hb hr hlocks hK hP hD hS hQ rfl rfl dX6_sampleOf_36
    · refine lv_iload_n hx hb dX6_sampleOf_12 rfl (lv_at hl 2 rfl) ?_
      refine lv_aload_n hx hb dX6_sampleOf_13 rfl (lv_at hl 0 rfl) ?_
      refine va_get (C := RX6) (T := TX6) (N := 3) hx hb hts i6 hown hK hP 0 rfl rfl 1 (Nat.le_of_ble_eq_true rfl) w0 (fun _ h9 => h9) rfl dX6_sampleOf_14 ?_
      refine lv_iload_n hx hb dX6_sampleOf_17 rfl (lv_at hl 1 rfl) ?_
      refine xiald hx hb hK hP 2 rfl hf dX6_sampleOf_18 (fun hf => ?_)
      refine xc_ge (tgt := 35) hx hb dX6_sampleOf_19 (by decide) hf (fun hf => ?_) (fun hf => ?_)
      · refine lv_iconst (v := -1) hx hb dX6_sampleOf_35 rfl ?_
        cases hf
        exact rt_I hx hb hr hlocks hK hP hD hS hQ rfl rfl dX6_sampleOf_36
      · refine lv_aload_n hx hb dX6_sampleOf_22 rfl (lv_at hl 0 rfl) ?_
        refine va_get (C := RX6) (T := TX6) (N := 3) hx hb hts i6 hown hK hP 0 rfl rfl 0 (Nat.le_of_ble_eq_true rfl) w1 (fun _ h9 => h9) rfl dX6_sampleOf_23 ?_
        refine lv_iload_n hx hb dX6_sampleOf_26 rfl (lv_at hl 1 rfl) ?_
        refine xiald hx hb hK hP 1 rfl hf dX6_sampleOf_27 (fun hf => ?_)
        refine lv_iload_n hx hb dX6_sampleOf_28 rfl (lv_at hl 2 rfl) ?_
        refine lv_iushr (v := jushr (v0.1 (p1).toNatClampNeg) p2) hx hb dX6_sampleOf_29 rfl ?_
        refine lv_iconst (v := 1) hx hb dX6_sampleOf_30 rfl ?_
        refine lv_iand hx hb dX6_sampleOf_31 ?_
        refine lv_goto (tgt := 36) hx hb dX6_sampleOf_32 (by decide) ?_
        cases hf
        exact rt_I hx hb hr hlocks hK hP hD hS hQ rfl rfl dX6_sampleOf_36
abbrev wq_X11_row : List Cond := Cond.code yX11_row cX11_row 4 (some .int) :: GL
set_option maxHeartbeats 4000000 in
set_option maxRecDepth 100000 in
theorem c_X11_row (l : Launch) (D : va_G) (ca : Nat → ClassId) (zz : Nat → Nat) (a0 a1 a2 a7 a9 a10 a11 a14 a16 a17 a18 a19 a21 a41 a42 a49 a52 a54 a55 : Nat) (sz : Nat) (v0 : V11) (p1 : Int32) (p2 : Int32) (p3 : Int32) (r : Int32) (hf : f_X11_row v0 p1 p2 p3 = some r) : Met l yX11_row wq_X11_row ({ frames := 2, cells := 0, slots := 0, locals := 43 } : Room) (PR D ca zz [.ref a0, .int p1, .int p2, .int p3] sz [(a0, .inr (11, [.ref a1, .ref a21, .ref a41, .ref a42, .ref a49, .ref a52, .ref a54, .ref a55])), (a1, .inr (10, [.ref a2, .ref a7, .ref a9, .ref a10, .ref a11, .ref a14, .ref a16, .ref a19, .int v0.1.2.2.2.2.2.2.2.2.1, .int v0.1.2.2.2.2.2.2.2.2.2.1, .int v0.1.2.2.2.2.2.2.2.2.2.2.1, .int v0.1.2.2.2.2.2.2.2.2.2.2.2.1, .int v0.1.2.2.2.2.2.2.2.2.2.2.2.2.1, .int v0.1.2.2.2.2.2.2.2.2.2.2.2.2.2])), (a16, .inr (6, [.ref a17, .ref a18, .int v0.1.2.2.2.2.2.2.1.2.2])), (a17, .inl (ca 0, 15, .inl v0.1.2.2.2.2.2.2.1.1)), (a18, .inl (ca 0, 15, .inl v0.1.2.2.2.2.2.2.1.2.1))]) (QI D ca r [(a0, .inr (11, [.ref a1, .ref a21, .ref a41, .ref a42, .ref a49, .ref a52, .ref a54, .ref a55])), (a1, .inr (10, [.ref a2, .ref a7, .ref a9, .ref a10, .ref a11, .ref a14, .ref a16, .ref a19, .int v0.1.2.2.2.2.2.2.2.2.1, .int v0.1.2.2.2.2.2.2.2.2.2.1, .int v0.1.2.2.2.2.2.2.2.2.2.2.1, .int v0.1.2.2.2.2.2.2.2.2.2.2.2.1, .int v0.1.2.2.2.2.2.2.2.2.2.2.2.2.1, .int v0.1.2.2.2.2.2.2.2.2.2.2.2.2.2])), (a16, .inr (6, [.ref a17, .ref a18, .int v0.1.2.2.2.2.2.2.1.2.2])), (a17, .inl (ca 0, 15, .inl v0.1.2.2.2.2.2.2.1.1)), (a18, .inl (ca 0, 15, .inl v0.1.2.2.2.2.2.2.1.2.1))] (va_A [(a0, .inr (11, [.ref a1, .ref a21, .ref a41, .ref a42, .ref a49, .ref a52, .ref a54, .ref a55])), (a1, .inr (10, [.ref a2, .ref a7, .ref a9, .ref a10, .ref a11, .ref a14, .ref a16, .ref a19, .int v0.1.2.2.2.2.2.2.2.2.1, .int v0.1.2.2.2.2.2.2.2.2.2.1, .int v0.1.2.2.2.2.2.2.2.2.2.2.1, .int v0.1.2.2.2.2.2.2.2.2.2.2.2.1, .int v0.1.2.2.2.2.2.2.2.2.2.2.2.2.1, .int v0.1.2.2.2.2.2.2.2.2.2.2.2.2.2])), (a16, .inr (6, [.ref a17, .ref a18, .int v0.1.2.2.2.2.2.2.1.2.2])), (a17, .inl (ca 0, 15, .inl v0.1.2.2.2.2.2.2.1.1)), (a18, .inl (ca 0, 15, .inl v0.1.2.2.2.2.2.2.1.2.1))] sz)) 0 0 (va_A [(a0, .inr (11, [.ref a1, .ref a21, .ref a41, .ref a42, .ref a49, .ref a52, .ref a54, .ref a55])), (a1, .inr (10, [.ref a2, .ref a7, .ref a9, .ref a10, .ref a11, .ref a14, .ref a16, .ref a19, .int v0.1.2.2.2.2.2.2.2.2.1, .int v0.1.2.2.2.2.2.2.2.2.2.1, .int v0.1.2.2.2.2.2.2.2.2.2.2.1, .int v0.1.2.2.2.2.2.2.2.2.2.2.2.1, .int v0.1.2.2.2.2.2.2.2.2.2.2.2.2.1, .int v0.1.2.2.2.2.2.2.2.2.2.2.2.2.2])), (a16, .inr (6, [.ref a17, .ref a18, .int v0.1.2.2.2.2.2.2.1.2.2])), (a17, .inl (ca 0, 15, .inl v0.1.2.2.2.2.2.2.1.1)), (a18, .inl (ca 0, 15, .inl v0.1.2.2.2.2.2.2.1.2.1))] sz) := by
  refine en (y := yX11_row) (wsm := wq_X11_row) (av := [.ref a0, .int p1, .int p2, .int p3]) (cc := cX11_row) (maxL := 4) (ret := (some .int)) (Qf := fun A => QI D ca r [(a0, .inr (11, [.ref a1, .ref a21, .ref a41, .ref a42, .ref a49, .ref a52, .ref a54, .ref a55])), (a1, .inr (10, [.ref a2, .ref a7, .ref a9, .ref a10, .ref a11, .ref a14, .ref a16, .ref a19, .int v0.1.2.2.2.2.2.2.2.2.1, .int v0.1.2.2.2.2.2.2.2.2.2.1, .int v0.1.2.2.2.2.2.2.2.2.2.2.1, .int v0.1.2.2.2.2.2.2.2.2.2.2.2.1, .int v0.1.2.2.2.2.2.2.2.2.2.2.2.2.1, .int v0.1.2.2.2.2.2.2.2.2.2.2.2.2.2])), (a16, .inr (6, [.ref a17, .ref a18, .int v0.1.2.2.2.2.2.2.1.2.2])), (a17, .inl (ca 0, 15, .inl v0.1.2.2.2.2.2.2.1.1)), (a18, .inl (ca 0, 15, .inl v0.1.2.2.2.2.2.2.1.2.1))] A) (by decide) rfl (Nat.le_of_ble_eq_true rfl) ?_
  intro p e s m args below meth c A Q ls hx hb hr hml hown hts hlocks hnm hA hN hZ hK hQ hP hD hS hl
  have w0 := hts _ (List.mem_cons_of_mem _ gw_2_187)
  have nw38 := NW.use (args := args) (w := .fieldLinkNest RX11 181 "NoiseWatch$Watch" "rows" "LNoiseWatch$Rows;" "NoiseWatch") hN 38 rfl
  have i10 : ∀ w ∈ u_ws RX10 TX10 14, w ∈ wq_X11_row := fun w h => List.mem_cons_of_mem _ (inX10 w h)
  have i11 : ∀ w ∈ u_ws RX11 TX11 8, w ∈ wq_X11_row := fun w h => List.mem_cons_of_mem _ (inX11 w h)
  unfold f_X11_row at hf
  refine lv_iload_n hx hb dX11_row_0 rfl (lv_at hl 3 rfl) ?_
  refine xi_eq (tgt := 18) hx hb dX11_row_1 (by decide) hf (fun hf => ?_) (fun hf => ?_)
  · refine lv_aload_n hx hb dX11_row_18 rfl (lv_at hl 0 rfl) ?_
    refine va_get (C := RX11) (T := TX11) (N := 8) hx hb hts i11 hown hK hP 0 rfl rfl 0 (Nat.le_of_ble_eq_true rfl) w0 (fun _ h9 => h9) rfl dX11_row_19 ?_
    refine va_getN (C := RX10) (T := TX10) (N := 14) hx hb hts i10 hown hK hP 1 rfl rfl 6 (Nat.le_of_ble_eq_true rfl) nw38 (fun _ h9 => h9) rfl dX11_row_22 ?_
    refine lv_iload_n hx hb dX11_row_25 rfl (lv_at hl 1 rfl) ?_
    refine lv_iload_n hx hb dX11_row_26 rfl (lv_at hl 2 rfl) ?_
    obtain ⟨r_1, hc1, hf⟩ := bnd1_el hf
    refine xV_I (As := [.int p1, .int p2]) (wx := [(a0, .inr (11, [.ref a1, .ref a21, .ref a41, .ref a42, .ref a49, .ref a52, .ref a54, .ref a55])), (a1, .inr (10, [.ref a2, .ref a7, .ref a9, .ref a10, .ref a11, .ref a14, .ref a16, .ref a19, .int v0.1.2.2.2.2.2.2.2.2.1, .int v0.1.2.2.2.2.2.2.2.2.2.1, .int v0.1.2.2.2.2.2.2.2.2.2.2.1, .int v0.1.2.2.2.2.2.2.2.2.2.2.2.1, .int v0.1.2.2.2.2.2.2.2.2.2.2.2.2.1, .int v0.1.2.2.2.2.2.2.2.2.2.2.2.2.2])), (a16, .inr (6, [.ref a17, .ref a18, .int v0.1.2.2.2.2.2.2.1.2.2])), (a17, .inl (ca 0, 15, .inl v0.1.2.2.2.2.2.2.1.1)), (a18, .inl (ca 0, 15, .inl v0.1.2.2.2.2.2.2.1.2.1))]) ⟨hx, hb, hml, hown, hts⟩ (c_X6_sampleOf l D ca zz a16 a17 a18 _ v0.1.2.2.2.2.2.2.1 p1 p2 r_1 hc1) (cwV 2 hts (gV gw_4_49 gw_4_50 gw_4_51 gw_1_9 gw_4_52) rfl rfl rfl (by decide +kernel) ⟨(Nat.le_of_ble_eq_true rfl), (Nat.le_of_ble_eq_true rfl)⟩) hK hN hZ hA hP hD hS [2, 3, 4] rfl rfl rfl rfl 2 rfl rfl hl.1 rfl (Nat.le_of_ble_eq_true rfl) dX11_row_27 ⟨Nat.zero_le _, Nat.zero_le _⟩ rfl (fun H locs hP hD hS => ?_)
    cases hf
    exact rt_I hx hb hr hlocks hK hP hD hS hQ rfl rfl dX11_row_30
  · refine lv_aload_n hx hb dX11_row_4 rfl (lv_at hl 0 rfl) ?_
    refine va_get (C := RX11) (T := TX11) (N := 8) hx hb hts i11 hown hK hP 0 rfl rfl 0 (Nat.le_of_ble_eq_true rfl) w0 (fun _ h9 => h9) rfl dX11_row_5 ?_
    refine va_getN (C := RX10) (T := TX10) (N := 14) hx hb hts i10 hown hK hP 1 rfl rfl 6 (Nat.le_of_ble_eq_true rfl) nw38 (fun _ h9 => h9) rfl dX11_row_8 ?_
    refine lv_iload_n hx hb dX11_row_11 rfl (lv_at hl 1 rfl) ?_
    obtain ⟨r_2, hc2, hf⟩ := bnd1_el hf
    refine xV_I (As := [.int p1]) (wx := [(a0, .inr (11, [.ref a1, .ref a21, .ref a41, .ref a42, .ref a49, .ref a52, .ref a54, .ref a55])), (a1, .inr (10, [.ref a2, .ref a7, .ref a9, .ref a10, .ref a11, .ref a14, .ref a16, .ref a19, .int v0.1.2.2.2.2.2.2.2.2.1, .int v0.1.2.2.2.2.2.2.2.2.2.1, .int v0.1.2.2.2.2.2.2.2.2.2.2.1, .int v0.1.2.2.2.2.2.2.2.2.2.2.2.1, .int v0.1.2.2.2.2.2.2.2.2.2.2.2.2.1, .int v0.1.2.2.2.2.2.2.2.2.2.2.2.2.2])), (a16, .inr (6, [.ref a17, .ref a18, .int v0.1.2.2.2.2.2.2.1.2.2])), (a17, .inl (ca 0, 15, .inl v0.1.2.2.2.2.2.2.1.1)), (a18, .inl (ca 0, 15, .inl v0.1.2.2.2.2.2.2.1.2.1))]) ⟨hx, hb, hml, hown, hts⟩ (c_X6_lengthOf l D ca zz a16 a17 a18 _ v0.1.2.2.2.2.2.2.1 p1 r_2 hc2) (cwV 1 hts (gV gw_4_41 gw_4_42 gw_4_43 gw_1_9 gw_4_44) rfl rfl rfl (by decide +kernel) ⟨(Nat.le_of_ble_eq_true rfl), (Nat.le_of_ble_eq_true rfl)⟩) hK hN hZ hA hP hD hS [2, 4] rfl rfl rfl rfl 2 rfl rfl hl.1 rfl (Nat.le_of_ble_eq_true rfl) dX11_row_12 ⟨Nat.zero_le _, Nat.zero_le _⟩ rfl (fun H locs hP hD hS => ?_)
    refine lv_goto (tgt := 30) hx hb dX11_row_15 (by decide) ?_
    cases hf
    exact rt_I hx hb hr hlocks hK hP hD hS hQ rfl rfl dX11_row_30
abbrev wq_X0_load : List Cond := Cond.code yX0_load cX0_load 5 none :: GL
set_option maxHeartbeats 4000000 in
set_option maxRecDepth 100000 in
theorem c_X0_load (l : Launch) (D : va_G) (ca : Nat → ClassId) (zz : Nat → Nat) (a0 a1 a2 b0 b1 : Nat) (sz : Nat) (v0 : V0) (v1 : V4) (p2 : Int32) (v0' : V0) (hf : f_X0_load v0 v1 p2 = some v0') : Met l yX0_load wq_X0_load ({ frames := 1, cells := 0, slots := 0, locals := 21 } : Room) (PR D ca zz [.ref a0, .ref b0, .int p2] sz [(a0, .inr (0, [.ref a1, .ref a2, .int v0.2.2.1, .int v0.2.2.2.1, .int v0.2.2.2.2])), (a1, .inl (ca 0, 400, .inl v0.1)), (b0, .inr (4, [.ref b1, .int v1.2.1, .int v1.2.2])), (b1, .inl (ca 0, 512, .inl v1.1))]) (QV D ca [(a0, .inr (0, [.ref a1, .ref a2, .int v0'.2.2.1, .int v0'.2.2.2.1, .int v0'.2.2.2.2])), (a1, .inl (ca 0, 400, .inl v0'.1)), (b0, .inr (4, [.ref b1, .int v1.2.1, .int v1.2.2])), (b1, .inl (ca 0, 512, .inl v1.1))] (va_A [(a0, .inr (0, [.ref a1, .ref a2, .int v0.2.2.1, .int v0.2.2.2.1, .int v0.2.2.2.2])), (a1, .inl (ca 0, 400, .inl v0.1)), (b0, .inr (4, [.ref b1, .int v1.2.1, .int v1.2.2])), (b1, .inl (ca 0, 512, .inl v1.1))] sz)) 0 0 (va_A [(a0, .inr (0, [.ref a1, .ref a2, .int v0.2.2.1, .int v0.2.2.2.1, .int v0.2.2.2.2])), (a1, .inl (ca 0, 400, .inl v0.1)), (b0, .inr (4, [.ref b1, .int v1.2.1, .int v1.2.2])), (b1, .inl (ca 0, 512, .inl v1.1))] sz) := by
  refine en (y := yX0_load) (wsm := wq_X0_load) (av := [.ref a0, .ref b0, .int p2]) (cc := cX0_load) (maxL := 5) (ret := none) (Qf := fun A => QV D ca [(a0, .inr (0, [.ref a1, .ref a2, .int v0'.2.2.1, .int v0'.2.2.2.1, .int v0'.2.2.2.2])), (a1, .inl (ca 0, 400, .inl v0'.1)), (b0, .inr (4, [.ref b1, .int v1.2.1, .int v1.2.2])), (b1, .inl (ca 0, 512, .inl v1.1))] A) (by decide) rfl (Nat.le_of_ble_eq_true rfl) ?_
  intro p e s m args below meth c A Q ls hx hb hr hml hown hts hlocks hnm hA hN hZ hK hQ hP hD hS hl
  have w0 := hts _ (List.mem_cons_of_mem _ gw_4_65)
  have w1 := hts _ (List.mem_cons_of_mem _ gw_2_30)
  have w2 := hts _ (List.mem_cons_of_mem _ gw_1_11)
  have w3 := hts _ (List.mem_cons_of_mem _ gw_2_31)
  have w4 := hts _ (List.mem_cons_of_mem _ gw_4_66)
  have w5 := hts _ (List.mem_cons_of_mem _ gw_2_33)
  have w6 := hts _ (List.mem_cons_of_mem _ gw_2_34)
  have w7 := hts _ (List.mem_cons_of_mem _ gw_2_167)
  have w8 := hts _ (List.mem_cons_of_mem _ gw_2_165)
  have nw18 := NW.use (args := args) (w := .fieldLinkNest RX0 37 "NoiseWatch$Queue" "size" "I" "NoiseWatch") hN 18 rfl
  have i0 : ∀ w ∈ u_ws RX0 TX0 5, w ∈ wq_X0_load := fun w h => List.mem_cons_of_mem _ (inX0 w h)
  have i4 : ∀ w ∈ u_ws RX4 TX4 3, w ∈ wq_X0_load := fun w h => List.mem_cons_of_mem _ (inX4 w h)
  have bl28 : ∀ (k28 : V0 → Int32 → Int32 → Option (V0)) (q28 : ∀ (v0 : V0) (x3 : Int32) (x4 : Int32), k28 v0 x3 x4 = some v0' → ∀ (H : Heap) (locs : List Loc) (ls : Array Slot), va_P D vwCl [(a0, .inr (0, [.ref a1, .ref a2, .int v0.2.2.1, .int v0.2.2.2.1, .int v0.2.2.2.2])), (a1, .inl (ca 0, 400, .inl v0.1)), (b0, .inr (4, [.ref b1, .int v1.2.1, .int v1.2.2])), (b1, .inl (ca 0, 512, .inl v1.1))] H → va_D A [(a0, .inr (0, [.ref a1, .ref a2, .int v0.2.2.1, .int v0.2.2.2.1, .int v0.2.2.2.2])), (a1, .inl (ca 0, 400, .inl v0.1)), (b0, .inr (4, [.ref b1, .int v1.2.1, .int v1.2.2])), (b1, .inl (ca 0, 512, .inl v1.1))] → va_S A s.heap H locs → lv_has ls 5 [(0, .ref a0), (1, .ref b0), (3, .int x3), (4, .int x4)] → W p l e ({ frames := 1, cells := 0, slots := 0, locals := 21 } : Room) s m args below meth c H locs 0 0 Q (F0 m 28 ls [])) (v0 : V0) (x3 : Int32) (x4 : Int32), fl_X0_load_28 v1 k28 v0 x3 x4 = some v0' → ∀ (H : Heap) (locs : List Loc) (ls : Array Slot), va_P D vwCl [(a0, .inr (0, [.ref a1, .ref a2, .int v0.2.2.1, .int v0.2.2.2.1, .int v0.2.2.2.2])), (a1, .inl (ca 0, 400, .inl v0.1)), (b0, .inr (4, [.ref b1, .int v1.2.1, .int v1.2.2])), (b1, .inl (ca 0, 512, .inl v1.1))] H → va_D A [(a0, .inr (0, [.ref a1, .ref a2, .int v0.2.2.1, .int v0.2.2.2.1, .int v0.2.2.2.2])), (a1, .inl (ca 0, 400, .inl v0.1)), (b0, .inr (4, [.ref b1, .int v1.2.1, .int v1.2.2])), (b1, .inl (ca 0, 512, .inl v1.1))] → va_S A s.heap H locs → lv_has ls 5 [(0, .ref a0), (1, .ref b0), (3, .int x3), (4, .int x4)] → W p l e ({ frames := 1, cells := 0, slots := 0, locals := 21 } : Room) s m args below meth c H locs 0 0 Q (F0 m 28 ls []) := by
    intro k28 q28 v0 x3 x4 hf H locs ls hP hD hS hl
    unfold fl_X0_load_28 at hf
    refine lv_iload hx hb dX0_load_28 (lv_at hl 3 rfl) ?_
    refine lv_aload_n hx hb dX0_load_30 rfl (lv_at hl 0 rfl) ?_
    refine va_get (C := RX0) (T := TX0) (N := 5) hx hb hts i0 hown hK hP 0 rfl rfl 2 (Nat.le_of_ble_eq_true rfl) w7 (fun _ h9 => h9) rfl dX0_load_31 ?_
    refine xc_ge (tgt := 66) hx hb dX0_load_34 (by decide) hf (fun hf => ?_) (fun hf => ?_)
    · cases hf
      exact rt_V hx hb hr hlocks hK hP hD hS hQ rfl dX0_load_66
    · refine lv_iload hx hb dX0_load_37 (lv_at hl 3 rfl) ?_
      refine lv_sipush (v := 400) hx hb dX0_load_39 rfl ?_
      refine xc_ge (tgt := 66) hx hb dX0_load_42 (by decide) hf (fun hf => ?_) (fun hf => ?_)
      · cases hf
        exact rt_V hx hb hr hlocks hK hP hD hS hQ rfl dX0_load_66
      · refine lv_aload_n hx hb dX0_load_45 rfl (lv_at hl 0 rfl) ?_
        refine va_get (C := RX0) (T := TX0) (N := 5) hx hb hts i0 hown hK hP 0 rfl rfl 0 (Nat.le_of_ble_eq_true rfl) w8 (fun _ h9 => h9) rfl dX0_load_46 ?_
        refine lv_iload hx hb dX0_load_49 (lv_at hl 3 rfl) ?_
        refine lv_aload_n hx hb dX0_load_51 rfl (lv_at hl 1 rfl) ?_
        refine lv_iload_n hx hb dX0_load_52 rfl (lv_at hl 2 rfl) ?_
        refine lv_iload hx hb dX0_load_53 (lv_at hl 3 rfl) ?_
        refine lv_iadd hx hb dX0_load_55 ?_
        obtain ⟨r_4, hc4, hf⟩ := bnd1_el hf
        refine xV_I (As := [.int (x3 + x4)]) (wx := [(a0, .inr (0, [.ref a1, .ref a2, .int v0.2.2.1, .int v0.2.2.2.1, .int v0.2.2.2.2])), (a1, .inl (ca 0, 400, .inl v0.1)), (b0, .inr (4, [.ref b1, .int v1.2.1, .int v1.2.2])), (b1, .inl (ca 0, 512, .inl v1.1))]) ⟨hx, hb, hml, hown, hts⟩ (c_X4_bitAt l D ca zz b0 b1 _ v1 (x3 + x4) r_4 hc4) (cwV 1 hts (gV gw_4_67 gw_4_30 gw_4_31 gw_1_8 gw_4_32) rfl rfl rfl (by decide +kernel) ⟨(Nat.le_of_ble_eq_true rfl), (Nat.le_of_ble_eq_true rfl)⟩) hK hN hZ hA hP hD hS [2, 3] rfl rfl rfl rfl 2 rfl rfl hl.1 rfl (Nat.le_of_ble_eq_true rfl) dX0_load_56 ⟨Nat.zero_le _, Nat.zero_le _⟩ rfl (fun H locs hP hD hS => ?_)
        refine xiast (wx := [(a0, .inr (0, [.ref a1, .ref a2, .int v0.2.2.1, .int v0.2.2.2.1, .int v0.2.2.2.2])), (a1, .inl (ca 0, 400, .inl ((upd v0.1 (x4).toNatClampNeg r_4)))), (b0, .inr (4, [.ref b1, .int v1.2.1, .int v1.2.2])), (b1, .inl (ca 0, 512, .inl v1.1))]) hx hb hK hP hD hS 1 rfl hf dX0_load_59 rfl (fun H locs hf hP hD hS => ?_)
        obtain ⟨y_5, ey_5, hf⟩ := bnd_el hf
        rw [← ey_5] at hP hD
        obtain ⟨x_6, ex_6, hf⟩ := bnd_el hf
        refine lv_iinc (v := x_6) (lv' := [(4, .int x_6), (0, .ref a0), (1, .ref b0), (3, .int x3)]) hx hb dX0_load_60 hl (k := 3) rfl (by rw [ex_6]; rfl) (Nat.le_of_ble_eq_true rfl) rfl (fun ls hl => ?_)
        refine lv_goto (tgt := 28) hx hb dX0_load_63 (by decide) ?_
        exact q28 ((y_5, v0.2)) x3 x_6 hf _ _ _ hP hD hS (lv_sub hl [1, 2, 3, 0] rfl)
  have b28 : ∀ (n : Nat) (v0 : V0) (x3 : Int32) (x4 : Int32), fb_X0_load_28 v1 n v0 x3 x4 = some v0' → ∀ (H : Heap) (locs : List Loc) (ls : Array Slot), va_P D vwCl [(a0, .inr (0, [.ref a1, .ref a2, .int v0.2.2.1, .int v0.2.2.2.1, .int v0.2.2.2.2])), (a1, .inl (ca 0, 400, .inl v0.1)), (b0, .inr (4, [.ref b1, .int v1.2.1, .int v1.2.2])), (b1, .inl (ca 0, 512, .inl v1.1))] H → va_D A [(a0, .inr (0, [.ref a1, .ref a2, .int v0.2.2.1, .int v0.2.2.2.1, .int v0.2.2.2.2])), (a1, .inl (ca 0, 400, .inl v0.1)), (b0, .inr (4, [.ref b1, .int v1.2.1, .int v1.2.2])), (b1, .inl (ca 0, 512, .inl v1.1))] → va_S A s.heap H locs → lv_has ls 5 [(0, .ref a0), (1, .ref b0), (3, .int x3), (4, .int x4)] → W p l e ({ frames := 1, cells := 0, slots := 0, locals := 21 } : Room) s m args below meth c H locs 0 0 Q (F0 m 28 ls []) := by
    intro n
    induction n with
    | zero => intro v0 x3 x4 hf; exact no_el hf
    | succ n ih => exact bl28 (fb_X0_load_28 v1 n) ih
  unfold f_X0_load at hf
  refine lv_aload_n hx hb dX0_load_0 rfl (lv_at hl 0 rfl) ?_
  refine lv_iconst (v := 0) hx hb dX0_load_1 rfl ?_
  refine lv_iload_n hx hb dX0_load_2 rfl (lv_at hl 2 rfl) ?_
  refine lv_sipush (v := 400) hx hb dX0_load_3 rfl ?_
  refine va_mmin hx hb (hml.trans hl.1.symm) hown w0 w1 w2 w3 (Nat.le_of_ble_eq_true rfl) (Nat.le_of_ble_eq_true rfl) (Nat.zero_le _) (Nat.zero_le _) dX0_load_6 ?_
  refine xnm hf (fun x_1 hf => ?_)
  refine va_mmax hx hb (hml.trans hl.1.symm) hown w4 w5 w2 w6 (Nat.le_of_ble_eq_true rfl) (Nat.le_of_ble_eq_true rfl) (Nat.zero_le _) (Nat.zero_le _) dX0_load_9 ?_
  refine xnm hf (fun x_2 hf => ?_)
  refine xput (C := RX0) (T := TX0) (N := 5) (wx := [(a0, .inr (0, [.ref a1, .ref a2, .int x_2, .int v0.2.2.2.1, .int v0.2.2.2.2])), (a1, .inl (ca 0, 400, .inl v0.1)), (b0, .inr (4, [.ref b1, .int v1.2.1, .int v1.2.2])), (b1, .inl (ca 0, 512, .inl v1.1))]) hx hb hts i0 tyX0 tyX0_ok nmX0 hown hK hP hD hS 0 rfl rfl 2 (Nat.le_of_ble_eq_true rfl) w7 (fun _ h9 => h9) rfl rfl rfl rfl (Nat.le_of_ble_eq_true rfl) dX0_load_12 rfl (fun H locs hP hD hS => ?_)
  refine lv_aload_n hx hb dX0_load_15 rfl (lv_at hl 1 rfl) ?_
  refine va_getN (C := RX4) (T := TX4) (N := 3) hx hb hts i4 hown hK hP 2 rfl rfl 2 (Nat.le_of_ble_eq_true rfl) nw18 (fun _ h9 => h9) rfl dX0_load_16 ?_
  refine lv_aload_n hx hb dX0_load_19 rfl (lv_at hl 0 rfl) ?_
  refine va_get (C := RX0) (T := TX0) (N := 5) hx hb hts i0 hown hK hP 0 rfl rfl 2 (Nat.le_of_ble_eq_true rfl) w7 (fun _ h9 => h9) rfl dX0_load_20 ?_
  refine lv_isub hx hb dX0_load_23 ?_
  refine xnm hf (fun x_3 hf => ?_)
  refine lv_istore_n (lv' := [(3, .int x_3), (0, .ref a0), (1, .ref b0), (2, .int p2)]) hx hb dX0_load_24 rfl hl (Nat.le_of_ble_eq_true rfl) rfl (fun ls hl => ?_)
  refine lv_iconst (v := 0) hx hb dX0_load_25 rfl ?_
  refine lv_istore (lv' := [(4, .int (0 : Int32)), (3, .int x_3), (0, .ref a0), (1, .ref b0), (2, .int p2)]) hx hb dX0_load_26 hl (Nat.le_of_ble_eq_true rfl) rfl (fun ls hl => ?_)
  exact b28 FU ((v0.1, v0.2.1, x_2, v0.2.2.2)) x_3 (0 : Int32) hf _ _ _ hP hD hS (lv_sub hl [2, 3, 1, 0] rfl)
abbrev wq_X11_loadLatest : List Cond := Cond.code yX11_loadLatest cX11_loadLatest 3 (some .boolean) :: GL
set_option maxHeartbeats 4000000 in
set_option maxRecDepth 100000 in
theorem c_X11_loadLatest (l : Launch) (D : va_G) (ca : Nat → ClassId) (zz : Nat → Nat) (a0 a1 a2 a7 a9 a10 a11 a14 a15 a16 a19 a21 a41 a42 a49 a50 a51 a52 a54 a55 : Nat) (sz : Nat) (v0 : V11) (p1 : Int32) (p2 : Int32) (r : Int32) (v0' : V11) (hf : f_X11_loadLatest v0 p1 p2 = some (r, v0')) : Met l yX11_loadLatest wq_X11_loadLatest ({ frames := 2, cells := 0, slots := 0, locals := 45 } : Room) (PR D ca zz [.ref a0, .int p1, .int p2] sz [(a0, .inr (11, [.ref a1, .ref a21, .ref a41, .ref a42, .ref a49, .ref a52, .ref a54, .ref a55])), (a1, .inr (10, [.ref a2, .ref a7, .ref a9, .ref a10, .ref a11, .ref a14, .ref a16, .ref a19, .int v0.1.2.2.2.2.2.2.2.2.1, .int v0.1.2.2.2.2.2.2.2.2.2.1, .int v0.1.2.2.2.2.2.2.2.2.2.2.1, .int v0.1.2.2.2.2.2.2.2.2.2.2.2.1, .int v0.1.2.2.2.2.2.2.2.2.2.2.2.2.1, .int v0.1.2.2.2.2.2.2.2.2.2.2.2.2.2])), (a14, .inr (4, [.ref a15, .int v0.1.2.2.2.2.2.1.2.1, .int v0.1.2.2.2.2.2.1.2.2])), (a15, .inl (ca 0, 512, .inl v0.1.2.2.2.2.2.1.1)), (a49, .inr (0, [.ref a50, .ref a51, .int v0.2.2.2.2.1.2.2.1, .int v0.2.2.2.2.1.2.2.2.1, .int v0.2.2.2.2.1.2.2.2.2])), (a50, .inl (ca 0, 400, .inl v0.2.2.2.2.1.1))]) (QI D ca r [(a0, .inr (11, [.ref a1, .ref a21, .ref a41, .ref a42, .ref a49, .ref a52, .ref a54, .ref a55])), (a1, .inr (10, [.ref a2, .ref a7, .ref a9, .ref a10, .ref a11, .ref a14, .ref a16, .ref a19, .int v0'.1.2.2.2.2.2.2.2.2.1, .int v0'.1.2.2.2.2.2.2.2.2.2.1, .int v0'.1.2.2.2.2.2.2.2.2.2.2.1, .int v0'.1.2.2.2.2.2.2.2.2.2.2.2.1, .int v0'.1.2.2.2.2.2.2.2.2.2.2.2.2.1, .int v0'.1.2.2.2.2.2.2.2.2.2.2.2.2.2])), (a14, .inr (4, [.ref a15, .int v0'.1.2.2.2.2.2.1.2.1, .int v0'.1.2.2.2.2.2.1.2.2])), (a15, .inl (ca 0, 512, .inl v0'.1.2.2.2.2.2.1.1)), (a49, .inr (0, [.ref a50, .ref a51, .int v0'.2.2.2.2.1.2.2.1, .int v0'.2.2.2.2.1.2.2.2.1, .int v0'.2.2.2.2.1.2.2.2.2])), (a50, .inl (ca 0, 400, .inl v0'.2.2.2.2.1.1))] (va_A [(a0, .inr (11, [.ref a1, .ref a21, .ref a41, .ref a42, .ref a49, .ref a52, .ref a54, .ref a55])), (a1, .inr (10, [.ref a2, .ref a7, .ref a9, .ref a10, .ref a11, .ref a14, .ref a16, .ref a19, .int v0.1.2.2.2.2.2.2.2.2.1, .int v0.1.2.2.2.2.2.2.2.2.2.1, .int v0.1.2.2.2.2.2.2.2.2.2.2.1, .int v0.1.2.2.2.2.2.2.2.2.2.2.2.1, .int v0.1.2.2.2.2.2.2.2.2.2.2.2.2.1, .int v0.1.2.2.2.2.2.2.2.2.2.2.2.2.2])), (a14, .inr (4, [.ref a15, .int v0.1.2.2.2.2.2.1.2.1, .int v0.1.2.2.2.2.2.1.2.2])), (a15, .inl (ca 0, 512, .inl v0.1.2.2.2.2.2.1.1)), (a49, .inr (0, [.ref a50, .ref a51, .int v0.2.2.2.2.1.2.2.1, .int v0.2.2.2.2.1.2.2.2.1, .int v0.2.2.2.2.1.2.2.2.2])), (a50, .inl (ca 0, 400, .inl v0.2.2.2.2.1.1))] sz)) 0 0 (va_A [(a0, .inr (11, [.ref a1, .ref a21, .ref a41, .ref a42, .ref a49, .ref a52, .ref a54, .ref a55])), (a1, .inr (10, [.ref a2, .ref a7, .ref a9, .ref a10, .ref a11, .ref a14, .ref a16, .ref a19, .int v0.1.2.2.2.2.2.2.2.2.1, .int v0.1.2.2.2.2.2.2.2.2.2.1, .int v0.1.2.2.2.2.2.2.2.2.2.2.1, .int v0.1.2.2.2.2.2.2.2.2.2.2.2.1, .int v0.1.2.2.2.2.2.2.2.2.2.2.2.2.1, .int v0.1.2.2.2.2.2.2.2.2.2.2.2.2.2])), (a14, .inr (4, [.ref a15, .int v0.1.2.2.2.2.2.1.2.1, .int v0.1.2.2.2.2.2.1.2.2])), (a15, .inl (ca 0, 512, .inl v0.1.2.2.2.2.2.1.1)), (a49, .inr (0, [.ref a50, .ref a51, .int v0.2.2.2.2.1.2.2.1, .int v0.2.2.2.2.1.2.2.2.1, .int v0.2.2.2.2.1.2.2.2.2])), (a50, .inl (ca 0, 400, .inl v0.2.2.2.2.1.1))] sz) := by
  refine en (y := yX11_loadLatest) (wsm := wq_X11_loadLatest) (av := [.ref a0, .int p1, .int p2]) (cc := cX11_loadLatest) (maxL := 3) (ret := (some .boolean)) (Qf := fun A => QI D ca r [(a0, .inr (11, [.ref a1, .ref a21, .ref a41, .ref a42, .ref a49, .ref a52, .ref a54, .ref a55])), (a1, .inr (10, [.ref a2, .ref a7, .ref a9, .ref a10, .ref a11, .ref a14, .ref a16, .ref a19, .int v0'.1.2.2.2.2.2.2.2.2.1, .int v0'.1.2.2.2.2.2.2.2.2.2.1, .int v0'.1.2.2.2.2.2.2.2.2.2.2.1, .int v0'.1.2.2.2.2.2.2.2.2.2.2.2.1, .int v0'.1.2.2.2.2.2.2.2.2.2.2.2.2.1, .int v0'.1.2.2.2.2.2.2.2.2.2.2.2.2.2])), (a14, .inr (4, [.ref a15, .int v0'.1.2.2.2.2.2.1.2.1, .int v0'.1.2.2.2.2.2.1.2.2])), (a15, .inl (ca 0, 512, .inl v0'.1.2.2.2.2.2.1.1)), (a49, .inr (0, [.ref a50, .ref a51, .int v0'.2.2.2.2.1.2.2.1, .int v0'.2.2.2.2.1.2.2.2.1, .int v0'.2.2.2.2.1.2.2.2.2])), (a50, .inl (ca 0, 400, .inl v0'.2.2.2.2.1.1))] A) (by decide) rfl (Nat.le_of_ble_eq_true rfl) ?_
  intro p e s m args below meth c A Q ls hx hb hr hml hown hts hlocks hnm hA hN hZ hK hQ hP hD hS hl
  have w0 := hts _ (List.mem_cons_of_mem _ gw_2_187)
  have w1 := hts _ (List.mem_cons_of_mem _ gw_2_191)
  have nw37 := NW.use (args := args) (w := .fieldLinkNest RX11 169 "NoiseWatch$Watch" "heard" "LNoiseWatch$Queue;" "NoiseWatch") hN 37 rfl
  have nw21 := NW.use (args := args) (w := .fieldLinkNest RX11 248 "NoiseWatch$Queue" "size" "I" "NoiseWatch") hN 21 rfl
  have i10 : ∀ w ∈ u_ws RX10 TX10 14, w ∈ wq_X11_loadLatest := fun w h => List.mem_cons_of_mem _ (inX10 w h)
  have i11 : ∀ w ∈ u_ws RX11 TX11 8, w ∈ wq_X11_loadLatest := fun w h => List.mem_cons_of_mem _ (inX11 w h)
  have i4 : ∀ w ∈ u_ws RX4 TX4 3, w ∈ wq_X11_loadLatest := fun w h => List.mem_cons_of_mem _ (inX4 w h)
  unfold f_X11_loadLatest at hf
  refine lv_iload_n hx hb dX11_loadLatest_0 rfl (lv_at hl 1 rfl) ?_
  refine lv_iload_n hx hb dX11_loadLatest_1 rfl (lv_at hl 2 rfl) ?_
  refine xc_lt (tgt := 19) hx hb dX11_loadLatest_2 (by decide) hf (fun hf => ?_) (fun hf => ?_)
  · refine lv_iconst (v := 0) hx hb dX11_loadLatest_19 rfl ?_
    cases hf
    exact rt_Z hx hb hr hlocks hK hP hD hS hQ (Or.inl rfl) rfl rfl dX11_loadLatest_20
  · refine lv_iload_n hx hb dX11_loadLatest_5 rfl (lv_at hl 1 rfl) ?_
    refine lv_aload_n hx hb dX11_loadLatest_6 rfl (lv_at hl 0 rfl) ?_
    refine va_get (C := RX11) (T := TX11) (N := 8) hx hb hts i11 hown hK hP 0 rfl rfl 0 (Nat.le_of_ble_eq_true rfl) w0 (fun _ h9 => h9) rfl dX11_loadLatest_7 ?_
    refine va_getN (C := RX10) (T := TX10) (N := 14) hx hb hts i10 hown hK hP 1 rfl rfl 5 (Nat.le_of_ble_eq_true rfl) nw37 (fun _ h9 => h9) rfl dX11_loadLatest_10 ?_
    refine va_getN (C := RX4) (T := TX4) (N := 3) hx hb hts i4 hown hK hP 2 rfl rfl 2 (Nat.le_of_ble_eq_true rfl) nw21 (fun _ h9 => h9) rfl dX11_loadLatest_13 ?_
    refine xc_le (tgt := 21) hx hb dX11_loadLatest_16 (by decide) hf (fun hf => ?_) (fun hf => ?_)
    · refine lv_aload_n hx hb dX11_loadLatest_21 rfl (lv_at hl 0 rfl) ?_
      refine va_get (C := RX11) (T := TX11) (N := 8) hx hb hts i11 hown hK hP 0 rfl rfl 4 (Nat.le_of_ble_eq_true rfl) w1 (fun _ h9 => h9) rfl dX11_loadLatest_22 ?_
      refine lv_aload_n hx hb dX11_loadLatest_25 rfl (lv_at hl 0 rfl) ?_
      refine va_get (C := RX11) (T := TX11) (N := 8) hx hb hts i11 hown hK hP 0 rfl rfl 0 (Nat.le_of_ble_eq_true rfl) w0 (fun _ h9 => h9) rfl dX11_loadLatest_26 ?_
      refine va_getN (C := RX10) (T := TX10) (N := 14) hx hb hts i10 hown hK hP 1 rfl rfl 5 (Nat.le_of_ble_eq_true rfl) nw37 (fun _ h9 => h9) rfl dX11_loadLatest_29 ?_
      refine lv_iload_n hx hb dX11_loadLatest_32 rfl (lv_at hl 1 rfl) ?_
      obtain ⟨u_1, hc1, hf⟩ := bnd1_el hf
      refine xV_V (As := [.ref a14, .int p1]) (wx := [(a0, .inr (11, [.ref a1, .ref a21, .ref a41, .ref a42, .ref a49, .ref a52, .ref a54, .ref a55])), (a1, .inr (10, [.ref a2, .ref a7, .ref a9, .ref a10, .ref a11, .ref a14, .ref a16, .ref a19, .int v0.1.2.2.2.2.2.2.2.2.1, .int v0.1.2.2.2.2.2.2.2.2.2.1, .int v0.1.2.2.2.2.2.2.2.2.2.2.1, .int v0.1.2.2.2.2.2.2.2.2.2.2.2.1, .int v0.1.2.2.2.2.2.2.2.2.2.2.2.2.1, .int v0.1.2.2.2.2.2.2.2.2.2.2.2.2.2])), (a14, .inr (4, [.ref a15, .int v0.1.2.2.2.2.2.1.2.1, .int v0.1.2.2.2.2.2.1.2.2])), (a15, .inl (ca 0, 512, .inl v0.1.2.2.2.2.2.1.1)), (a49, .inr (0, [.ref a50, .ref a51, .int u_1.2.2.1, .int u_1.2.2.2.1, .int u_1.2.2.2.2])), (a50, .inl (ca 0, 400, .inl u_1.1))]) ⟨hx, hb, hml, hown, hts⟩ (c_X0_load l D ca zz a49 a50 a51 a14 a15 _ v0.2.2.2.2.1 v0.1.2.2.2.2.2.1 p1 u_1 hc1) (cwV 2 hts (gV gw_4_61 gw_4_62 gw_4_63 gw_1_14 gw_4_64) rfl rfl rfl (by decide +kernel) ⟨(Nat.le_of_ble_eq_true rfl), (Nat.le_of_ble_eq_true rfl)⟩) hK hN hZ hA hP hD hS [4, 5, 2, 3] rfl rfl rfl rfl 4 rfl rfl hl.1 rfl (Nat.le_of_ble_eq_true rfl) dX11_loadLatest_33 ⟨Nat.zero_le _, Nat.zero_le _⟩ rfl (fun H locs hP hD hS => ?_)
      refine lv_iconst (v := 1) hx hb dX11_loadLatest_36 rfl ?_
      cases hf
      exact rt_Z hx hb hr hlocks hK hP hD hS hQ (Or.inr rfl) rfl rfl dX11_loadLatest_37
    · refine lv_iconst (v := 0) hx hb dX11_loadLatest_19 rfl ?_
      cases hf
      exact rt_Z hx hb hr hlocks hK hP hD hS hQ (Or.inl rfl) rfl rfl dX11_loadLatest_20
abbrev wq_X0_measureCommon : List Cond := Cond.code yX0_measureCommon cX0_measureCommon 3 none :: GL
set_option maxHeartbeats 4000000 in
set_option maxRecDepth 100000 in
theorem c_X0_measureCommon (l : Launch) (D : va_G) (ca : Nat → ClassId) (zz : Nat → Nat) (a0 a1 a2 : Nat) (sz : Nat) (v0 : V0) (v0' : V0) (hf : f_X0_measureCommon v0 = some v0') : Met l yX0_measureCommon wq_X0_measureCommon ({ frames := 1, cells := 0, slots := 0, locals := 21 } : Room) (PR D ca zz [.ref a0] sz [(a0, .inr (0, [.ref a1, .ref a2, .int v0.2.2.1, .int v0.2.2.2.1, .int v0.2.2.2.2])), (a1, .inl (ca 0, 400, .inl v0.1))]) (QV D ca [(a0, .inr (0, [.ref a1, .ref a2, .int v0'.2.2.1, .int v0'.2.2.2.1, .int v0'.2.2.2.2])), (a1, .inl (ca 0, 400, .inl v0'.1))] (va_A [(a0, .inr (0, [.ref a1, .ref a2, .int v0.2.2.1, .int v0.2.2.2.1, .int v0.2.2.2.2])), (a1, .inl (ca 0, 400, .inl v0.1))] sz)) 0 0 (va_A [(a0, .inr (0, [.ref a1, .ref a2, .int v0.2.2.1, .int v0.2.2.2.1, .int v0.2.2.2.2])), (a1, .inl (ca 0, 400, .inl v0.1))] sz) := by
  refine en (y := yX0_measureCommon) (wsm := wq_X0_measureCommon) (av := [.ref a0]) (cc := cX0_measureCommon) (maxL := 3) (ret := none) (Qf := fun A => QV D ca [(a0, .inr (0, [.ref a1, .ref a2, .int v0'.2.2.1, .int v0'.2.2.2.1, .int v0'.2.2.2.2])), (a1, .inl (ca 0, 400, .inl v0'.1))] A) (by decide) rfl (Nat.le_of_ble_eq_true rfl) ?_
  intro p e s m args below meth c A Q ls hx hb hr hml hown hts hlocks hnm hA hN hZ hK hQ hP hD hS hl
  have w0 := hts _ (List.mem_cons_of_mem _ gw_2_167)
  have w1 := hts _ (List.mem_cons_of_mem _ gw_4_66)
  have w2 := hts _ (List.mem_cons_of_mem _ gw_2_33)
  have w3 := hts _ (List.mem_cons_of_mem _ gw_1_11)
  have w4 := hts _ (List.mem_cons_of_mem _ gw_2_34)
  have w5 := hts _ (List.mem_cons_of_mem _ gw_2_168)
  have w6 := hts _ (List.mem_cons_of_mem _ gw_2_170)
  have w7 := hts _ (List.mem_cons_of_mem _ gw_2_165)
  have i0 : ∀ w ∈ u_ws RX0 TX0 5, w ∈ wq_X0_measureCommon := fun w h => List.mem_cons_of_mem _ (inX0 w h)
  have b34 : ∀ (v0 : V0) (x1 : Int32), fc_X0_measureCommon_34 v0 x1 = some v0' → ∀ (H : Heap) (locs : List Loc) (ls : Array Slot), va_P D vwCl [(a0, .inr (0, [.ref a1, .ref a2, .int v0.2.2.1, .int v0.2.2.2.1, .int v0.2.2.2.2])), (a1, .inl (ca 0, 400, .inl v0.1))] H → va_D A [(a0, .inr (0, [.ref a1, .ref a2, .int v0.2.2.1, .int v0.2.2.2.1, .int v0.2.2.2.2])), (a1, .inl (ca 0, 400, .inl v0.1))] → va_S A s.heap H locs → lv_has ls 3 [(0, .ref a0), (1, .int x1)] → W p l e ({ frames := 1, cells := 0, slots := 0, locals := 21 } : Room) s m args below meth c H locs 0 0 Q (F0 m 34 ls []) := by
    intro v0 x1 hf H locs ls hP hD hS hl
    unfold fc_X0_measureCommon_34 at hf
    refine lv_aload_n hx hb dX0_measureCommon_34 rfl (lv_at hl 0 rfl) ?_
    refine lv_iload_n hx hb dX0_measureCommon_35 rfl (lv_at hl 1 rfl) ?_
    refine lv_aload_n hx hb dX0_measureCommon_36 rfl (lv_at hl 0 rfl) ?_
    refine va_get (C := RX0) (T := TX0) (N := 5) hx hb hts i0 hown hK hP 0 rfl rfl 2 (Nat.le_of_ble_eq_true rfl) w0 (fun _ h9 => h9) rfl dX0_measureCommon_37 ?_
    refine lv_iload_n hx hb dX0_measureCommon_40 rfl (lv_at hl 1 rfl) ?_
    refine lv_isub hx hb dX0_measureCommon_41 ?_
    refine va_mmax hx hb (hml.trans hl.1.symm) hown w1 w2 w3 w4 (Nat.le_of_ble_eq_true rfl) (Nat.le_of_ble_eq_true rfl) (Nat.zero_le _) (Nat.zero_le _) dX0_measureCommon_42 ?_
    refine xnm hf (fun x_1 hf => ?_)
    refine xput (C := RX0) (T := TX0) (N := 5) (wx := [(a0, .inr (0, [.ref a1, .ref a2, .int v0.2.2.1, .int x_1, .int v0.2.2.2.2])), (a1, .inl (ca 0, 400, .inl v0.1))]) hx hb hts i0 tyX0 tyX0_ok nmX0 hown hK hP hD hS 0 rfl rfl 3 (Nat.le_of_ble_eq_true rfl) w5 (fun _ h9 => h9) rfl rfl rfl rfl (Nat.le_of_ble_eq_true rfl) dX0_measureCommon_45 rfl (fun H locs hP hD hS => ?_)
    refine lv_aload_n hx hb dX0_measureCommon_48 rfl (lv_at hl 0 rfl) ?_
    refine lv_aload_n hx hb dX0_measureCommon_49 rfl (lv_at hl 0 rfl) ?_
    refine va_get (C := RX0) (T := TX0) (N := 5) hx hb hts i0 hown hK hP 0 rfl rfl 2 (Nat.le_of_ble_eq_true rfl) w0 (fun _ h9 => h9) rfl dX0_measureCommon_50 ?_
    refine xput (C := RX0) (T := TX0) (N := 5) (wx := [(a0, .inr (0, [.ref a1, .ref a2, .int v0.2.2.1, .int x_1, .int v0.2.2.1])), (a1, .inl (ca 0, 400, .inl v0.1))]) hx hb hts i0 tyX0 tyX0_ok nmX0 hown hK hP hD hS 0 rfl rfl 4 (Nat.le_of_ble_eq_true rfl) w6 (fun _ h9 => h9) rfl rfl rfl rfl (Nat.le_of_ble_eq_true rfl) dX0_measureCommon_53 rfl (fun H locs hP hD hS => ?_)
    cases hf
    exact rt_V hx hb hr hlocks hK hP hD hS hQ rfl dX0_measureCommon_56
  have bl4 : ∀ (k4 : V0 → Int32 → Int32 → Option (V0)) (q4 : ∀ (v0 : V0) (x1 : Int32) (x2 : Int32), k4 v0 x1 x2 = some v0' → ∀ (H : Heap) (locs : List Loc) (ls : Array Slot), va_P D vwCl [(a0, .inr (0, [.ref a1, .ref a2, .int v0.2.2.1, .int v0.2.2.2.1, .int v0.2.2.2.2])), (a1, .inl (ca 0, 400, .inl v0.1))] H → va_D A [(a0, .inr (0, [.ref a1, .ref a2, .int v0.2.2.1, .int v0.2.2.2.1, .int v0.2.2.2.2])), (a1, .inl (ca 0, 400, .inl v0.1))] → va_S A s.heap H locs → lv_has ls 3 [(0, .ref a0), (1, .int x1), (2, .int x2)] → W p l e ({ frames := 1, cells := 0, slots := 0, locals := 21 } : Room) s m args below meth c H locs 0 0 Q (F0 m 4 ls [])) (v0 : V0) (x1 : Int32) (x2 : Int32), fl_X0_measureCommon_4 k4 v0 x1 x2 = some v0' → ∀ (H : Heap) (locs : List Loc) (ls : Array Slot), va_P D vwCl [(a0, .inr (0, [.ref a1, .ref a2, .int v0.2.2.1, .int v0.2.2.2.1, .int v0.2.2.2.2])), (a1, .inl (ca 0, 400, .inl v0.1))] H → va_D A [(a0, .inr (0, [.ref a1, .ref a2, .int v0.2.2.1, .int v0.2.2.2.1, .int v0.2.2.2.2])), (a1, .inl (ca 0, 400, .inl v0.1))] → va_S A s.heap H locs → lv_has ls 3 [(0, .ref a0), (1, .int x1), (2, .int x2)] → W p l e ({ frames := 1, cells := 0, slots := 0, locals := 21 } : Room) s m args below meth c H locs 0 0 Q (F0 m 4 ls []) := by
    intro k4 q4 v0 x1 x2 hf H locs ls hP hD hS hl
    unfold fl_X0_measureCommon_4 at hf
    refine lv_iload_n hx hb dX0_measureCommon_4 rfl (lv_at hl 2 rfl) ?_
    refine lv_aload_n hx hb dX0_measureCommon_5 rfl (lv_at hl 0 rfl) ?_
    refine va_get (C := RX0) (T := TX0) (N := 5) hx hb hts i0 hown hK hP 0 rfl rfl 2 (Nat.le_of_ble_eq_true rfl) w0 (fun _ h9 => h9) rfl dX0_measureCommon_6 ?_
    refine xc_ge (tgt := 34) hx hb dX0_measureCommon_9 (by decide) hf (fun hf => ?_) (fun hf => ?_)
    · exact b34 v0 x1 hf _ _ _ hP hD hS (lv_sub hl [0, 1] rfl)
    · refine lv_iload_n hx hb dX0_measureCommon_12 rfl (lv_at hl 2 rfl) ?_
      refine lv_sipush (v := 400) hx hb dX0_measureCommon_13 rfl ?_
      refine xc_ge (tgt := 34) hx hb dX0_measureCommon_16 (by decide) hf (fun hf => ?_) (fun hf => ?_)
      · exact b34 v0 x1 hf _ _ _ hP hD hS (lv_sub hl [0, 1] rfl)
      · refine lv_iload_n hx hb dX0_measureCommon_19 rfl (lv_at hl 1 rfl) ?_
        refine lv_aload_n hx hb dX0_measureCommon_20 rfl (lv_at hl 0 rfl) ?_
        refine va_get (C := RX0) (T := TX0) (N := 5) hx hb hts i0 hown hK hP 0 rfl rfl 0 (Nat.le_of_ble_eq_true rfl) w7 (fun _ h9 => h9) rfl dX0_measureCommon_21 ?_
        refine lv_iload_n hx hb dX0_measureCommon_24 rfl (lv_at hl 2 rfl) ?_
        refine xiald hx hb hK hP 1 rfl hf dX0_measureCommon_25 (fun hf => ?_)
        refine lv_iadd hx hb dX0_measureCommon_26 ?_
        refine xnm hf (fun x_2 hf => ?_)
        refine lv_istore_n (lv' := [(1, .int x_2), (0, .ref a0), (2, .int x2)]) hx hb dX0_measureCommon_27 rfl hl (Nat.le_of_ble_eq_true rfl) rfl (fun ls hl => ?_)
        obtain ⟨x_3, ex_3, hf⟩ := bnd_el hf
        refine lv_iinc (v := x_3) (lv' := [(2, .int x_3), (1, .int x_2), (0, .ref a0)]) hx hb dX0_measureCommon_28 hl (k := 2) rfl (by rw [ex_3]; rfl) (Nat.le_of_ble_eq_true rfl) rfl (fun ls hl => ?_)
        refine lv_goto (tgt := 4) hx hb dX0_measureCommon_31 (by decide) ?_
        exact q4 v0 x_2 x_3 hf _ _ _ hP hD hS (lv_sub hl [2, 1, 0] rfl)
  have b4 : ∀ (n : Nat) (v0 : V0) (x1 : Int32) (x2 : Int32), fb_X0_measureCommon_4 n v0 x1 x2 = some v0' → ∀ (H : Heap) (locs : List Loc) (ls : Array Slot), va_P D vwCl [(a0, .inr (0, [.ref a1, .ref a2, .int v0.2.2.1, .int v0.2.2.2.1, .int v0.2.2.2.2])), (a1, .inl (ca 0, 400, .inl v0.1))] H → va_D A [(a0, .inr (0, [.ref a1, .ref a2, .int v0.2.2.1, .int v0.2.2.2.1, .int v0.2.2.2.2])), (a1, .inl (ca 0, 400, .inl v0.1))] → va_S A s.heap H locs → lv_has ls 3 [(0, .ref a0), (1, .int x1), (2, .int x2)] → W p l e ({ frames := 1, cells := 0, slots := 0, locals := 21 } : Room) s m args below meth c H locs 0 0 Q (F0 m 4 ls []) := by
    intro n
    induction n with
    | zero => intro v0 x1 x2 hf; exact no_el hf
    | succ n ih => exact bl4 (fb_X0_measureCommon_4 n) ih
  unfold f_X0_measureCommon at hf
  refine lv_iconst (v := 0) hx hb dX0_measureCommon_0 rfl ?_
  refine lv_istore_n (lv' := [(1, .int (0 : Int32)), (0, .ref a0)]) hx hb dX0_measureCommon_1 rfl hl (Nat.le_of_ble_eq_true rfl) rfl (fun ls hl => ?_)
  refine lv_iconst (v := 0) hx hb dX0_measureCommon_2 rfl ?_
  refine lv_istore_n (lv' := [(2, .int (0 : Int32)), (1, .int (0 : Int32)), (0, .ref a0)]) hx hb dX0_measureCommon_3 rfl hl (Nat.le_of_ble_eq_true rfl) rfl (fun ls hl => ?_)
  exact b4 FU v0 (0 : Int32) (0 : Int32) hf _ _ _ hP hD hS (lv_sub hl [2, 1, 0] rfl)
abbrev wq_X0_measureCollision : List Cond := Cond.code yX0_measureCollision cX0_measureCollision 3 none :: GL
set_option maxHeartbeats 4000000 in
set_option maxRecDepth 100000 in
theorem c_X0_measureCollision (l : Launch) (D : va_G) (ca : Nat → ClassId) (zz : Nat → Nat) (a0 a1 a2 : Nat) (sz : Nat) (v0 : V0) (v0' : V0) (hf : f_X0_measureCollision v0 = some v0') : Met l yX0_measureCollision wq_X0_measureCollision ({ frames := 0, cells := 0, slots := 0, locals := 0 } : Room) (PR D ca zz [.ref a0] sz [(a0, .inr (0, [.ref a1, .ref a2, .int v0.2.2.1, .int v0.2.2.2.1, .int v0.2.2.2.2])), (a1, .inl (ca 0, 400, .inl v0.1))]) (QV D ca [(a0, .inr (0, [.ref a1, .ref a2, .int v0'.2.2.1, .int v0'.2.2.2.1, .int v0'.2.2.2.2])), (a1, .inl (ca 0, 400, .inl v0'.1))] (va_A [(a0, .inr (0, [.ref a1, .ref a2, .int v0.2.2.1, .int v0.2.2.2.1, .int v0.2.2.2.2])), (a1, .inl (ca 0, 400, .inl v0.1))] sz)) 0 0 (va_A [(a0, .inr (0, [.ref a1, .ref a2, .int v0.2.2.1, .int v0.2.2.2.1, .int v0.2.2.2.2])), (a1, .inl (ca 0, 400, .inl v0.1))] sz) := by
  refine en (y := yX0_measureCollision) (wsm := wq_X0_measureCollision) (av := [.ref a0]) (cc := cX0_measureCollision) (maxL := 3) (ret := none) (Qf := fun A => QV D ca [(a0, .inr (0, [.ref a1, .ref a2, .int v0'.2.2.1, .int v0'.2.2.2.1, .int v0'.2.2.2.2])), (a1, .inl (ca 0, 400, .inl v0'.1))] A) (by decide) rfl (Nat.le_of_ble_eq_true rfl) ?_
  intro p e s m args below meth c A Q ls hx hb hr hml hown hts hlocks hnm hA hN hZ hK hQ hP hD hS hl
  have w0 := hts _ (List.mem_cons_of_mem _ gw_2_168)
  have w1 := hts _ (List.mem_cons_of_mem _ gw_2_170)
  have w2 := hts _ (List.mem_cons_of_mem _ gw_2_167)
  have w3 := hts _ (List.mem_cons_of_mem _ gw_2_165)
  have i0 : ∀ w ∈ u_ws RX0 TX0 5, w ∈ wq_X0_measureCollision := fun w h => List.mem_cons_of_mem _ (inX0 w h)
  have b53 : ∀ (k12 : V0 → Int32 → Option (V0)) (q12 : ∀ (v0 : V0) (x1 : Int32), k12 v0 x1 = some v0' → ∀ (H : Heap) (locs : List Loc) (ls : Array Slot), va_P D vwCl [(a0, .inr (0, [.ref a1, .ref a2, .int v0.2.2.1, .int v0.2.2.2.1, .int v0.2.2.2.2])), (a1, .inl (ca 0, 400, .inl v0.1))] H → va_D A [(a0, .inr (0, [.ref a1, .ref a2, .int v0.2.2.1, .int v0.2.2.2.1, .int v0.2.2.2.2])), (a1, .inl (ca 0, 400, .inl v0.1))] → va_S A s.heap H locs → lv_has ls 3 [(0, .ref a0), (1, .int x1)] → W p l e ({ frames := 0, cells := 0, slots := 0, locals := 0 } : Room) s m args below meth c H locs 0 0 Q (F0 m 12 ls [])) (v0 : V0) (x1 : Int32) (t0 : Int32), fc_X0_measureCollision_53 k12 v0 x1 t0 = some v0' → ∀ (H : Heap) (locs : List Loc) (ls : Array Slot), va_P D vwCl [(a0, .inr (0, [.ref a1, .ref a2, .int v0.2.2.1, .int v0.2.2.2.1, .int v0.2.2.2.2])), (a1, .inl (ca 0, 400, .inl v0.1))] H → va_D A [(a0, .inr (0, [.ref a1, .ref a2, .int v0.2.2.1, .int v0.2.2.2.1, .int v0.2.2.2.2])), (a1, .inl (ca 0, 400, .inl v0.1))] → va_S A s.heap H locs → lv_has ls 3 [(0, .ref a0), (1, .int x1)] → W p l e ({ frames := 0, cells := 0, slots := 0, locals := 0 } : Room) s m args below meth c H locs 0 0 Q (F0 m 53 ls [.int t0]) := by
    intro k12 q12 v0 x1 t0 hf H locs ls hP hD hS hl
    unfold fc_X0_measureCollision_53 at hf
    refine lv_istore_n (lv' := [(2, .int t0), (0, .ref a0), (1, .int x1)]) hx hb dX0_measureCollision_53 rfl hl (Nat.le_of_ble_eq_true rfl) rfl (fun ls hl => ?_)
    refine lv_iload_n hx hb dX0_measureCollision_54 rfl (lv_at hl 2 rfl) ?_
    refine lv_iload_n hx hb dX0_measureCollision_55 rfl (lv_at hl 0 rfl) ?_
    refine lv_iadd hx hb dX0_measureCollision_56 ?_
    refine xnm hf (fun x_1 hf => ?_)
    refine lv_istore_n (lv' := [(1, .int x_1), (2, .int t0), (0, .ref a0)]) hx hb dX0_measureCollision_57 rfl hl (Nat.le_of_ble_eq_true rfl) rfl (fun ls hl => ?_)
    refine lv_iload_n hx hb dX0_measureCollision_58 rfl (lv_at hl 0 rfl) ?_
    refine lv_aload_n hx hb dX0_measureCollision_59 rfl (lv_at hl 2 rfl) ?_
    refine va_get (C := RX0) (T := TX0) (N := 5) hx hb hts i0 hown hK hP 0 rfl rfl 2 (Nat.le_of_ble_eq_true rfl) w2 (fun _ h9 => h9) rfl dX0_measureCollision_60 ?_
    refine xc_gt (tgt := 86) hx hb dX0_measureCollision_63 (by decide) hf (fun hf => ?_) (fun hf => ?_)
    · refine lv_goto (tgt := 12) hx hb dX0_measureCollision_86 (by decide) ?_
      exact q12 v0 x_1 hf _ _ _ hP hD hS (lv_sub hl [2, 0] rfl)
    · refine lv_aload_n hx hb dX0_measureCollision_66 rfl (lv_at hl 2 rfl) ?_
      refine lv_dup hx hb dX0_measureCollision_67 rfl ?_
      refine va_get (C := RX0) (T := TX0) (N := 5) hx hb hts i0 hown hK hP 0 rfl rfl 3 (Nat.le_of_ble_eq_true rfl) w0 (fun _ h9 => h9) rfl dX0_measureCollision_68 ?_
      refine lv_iload_n hx hb dX0_measureCollision_71 rfl (lv_at hl 1 rfl) ?_
      refine lv_iadd hx hb dX0_measureCollision_72 ?_
      refine xnm hf (fun x_2 hf => ?_)
      refine xput (C := RX0) (T := TX0) (N := 5) (wx := [(a0, .inr (0, [.ref a1, .ref a2, .int v0.2.2.1, .int x_2, .int v0.2.2.2.2])), (a1, .inl (ca 0, 400, .inl v0.1))]) hx hb hts i0 tyX0 tyX0_ok nmX0 hown hK hP hD hS 0 rfl rfl 3 (Nat.le_of_ble_eq_true rfl) w0 (fun _ h9 => h9) rfl rfl rfl rfl (Nat.le_of_ble_eq_true rfl) dX0_measureCollision_73 rfl (fun H locs hP hD hS => ?_)
      refine lv_aload_n hx hb dX0_measureCollision_76 rfl (lv_at hl 2 rfl) ?_
      refine lv_dup hx hb dX0_measureCollision_77 rfl ?_
      refine va_get (C := RX0) (T := TX0) (N := 5) hx hb hts i0 hown hK hP 0 rfl rfl 4 (Nat.le_of_ble_eq_true rfl) w1 (fun _ h9 => h9) rfl dX0_measureCollision_78 ?_
      refine lv_iconst (v := 1) hx hb dX0_measureCollision_81 rfl ?_
      refine lv_iadd hx hb dX0_measureCollision_82 ?_
      refine xnm hf (fun x_3 hf => ?_)
      refine xput (C := RX0) (T := TX0) (N := 5) (wx := [(a0, .inr (0, [.ref a1, .ref a2, .int v0.2.2.1, .int x_2, .int x_3])), (a1, .inl (ca 0, 400, .inl v0.1))]) hx hb hts i0 tyX0 tyX0_ok nmX0 hown hK hP hD hS 0 rfl rfl 4 (Nat.le_of_ble_eq_true rfl) w1 (fun _ h9 => h9) rfl rfl rfl rfl (Nat.le_of_ble_eq_true rfl) dX0_measureCollision_83 rfl (fun H locs hP hD hS => ?_)
      refine lv_goto (tgt := 12) hx hb dX0_measureCollision_86 (by decide) ?_
      exact q12 ((v0.1, v0.2.1, v0.2.2.1, x_2, x_3)) x_1 hf _ _ _ hP hD hS (lv_sub hl [2, 0] rfl)
  have bl12 : ∀ (k12 : V0 → Int32 → Option (V0)) (q12 : ∀ (v0 : V0) (x1 : Int32), k12 v0 x1 = some v0' → ∀ (H : Heap) (locs : List Loc) (ls : Array Slot), va_P D vwCl [(a0, .inr (0, [.ref a1, .ref a2, .int v0.2.2.1, .int v0.2.2.2.1, .int v0.2.2.2.2])), (a1, .inl (ca 0, 400, .inl v0.1))] H → va_D A [(a0, .inr (0, [.ref a1, .ref a2, .int v0.2.2.1, .int v0.2.2.2.1, .int v0.2.2.2.2])), (a1, .inl (ca 0, 400, .inl v0.1))] → va_S A s.heap H locs → lv_has ls 3 [(0, .ref a0), (1, .int x1)] → W p l e ({ frames := 0, cells := 0, slots := 0, locals := 0 } : Room) s m args below meth c H locs 0 0 Q (F0 m 12 ls [])) (v0 : V0) (x1 : Int32), fl_X0_measureCollision_12 k12 v0 x1 = some v0' → ∀ (H : Heap) (locs : List Loc) (ls : Array Slot), va_P D vwCl [(a0, .inr (0, [.ref a1, .ref a2, .int v0.2.2.1, .int v0.2.2.2.1, .int v0.2.2.2.2])), (a1, .inl (ca 0, 400, .inl v0.1))] H → va_D A [(a0, .inr (0, [.ref a1, .ref a2, .int v0.2.2.1, .int v0.2.2.2.1, .int v0.2.2.2.2])), (a1, .inl (ca 0, 400, .inl v0.1))] → va_S A s.heap H locs → lv_has ls 3 [(0, .ref a0), (1, .int x1)] → W p l e ({ frames := 0, cells := 0, slots := 0, locals := 0 } : Room) s m args below meth c H locs 0 0 Q (F0 m 12 ls []) := by
    intro k12 q12 v0 x1 hf H locs ls hP hD hS hl
    unfold fl_X0_measureCollision_12 at hf
    refine lv_iload_n hx hb dX0_measureCollision_12 rfl (lv_at hl 1 rfl) ?_
    refine lv_iconst (v := 1) hx hb dX0_measureCollision_13 rfl ?_
    refine lv_iadd hx hb dX0_measureCollision_14 ?_
    refine lv_aload_n hx hb dX0_measureCollision_15 rfl (lv_at hl 0 rfl) ?_
    refine va_get (C := RX0) (T := TX0) (N := 5) hx hb hts i0 hown hK hP 0 rfl rfl 2 (Nat.le_of_ble_eq_true rfl) w2 (fun _ h9 => h9) rfl dX0_measureCollision_16 ?_
    refine xc_ge (tgt := 89) hx hb dX0_measureCollision_19 (by decide) hf (fun hf => ?_) (fun hf => ?_)
    · cases hf
      exact rt_V hx hb hr hlocks hK hP hD hS hQ rfl dX0_measureCollision_89
    · refine lv_iload_n hx hb dX0_measureCollision_22 rfl (lv_at hl 1 rfl) ?_
      refine lv_iconst (v := 1) hx hb dX0_measureCollision_23 rfl ?_
      refine lv_iadd hx hb dX0_measureCollision_24 ?_
      refine lv_sipush (v := 400) hx hb dX0_measureCollision_25 rfl ?_
      refine xc_ge (tgt := 89) hx hb dX0_measureCollision_28 (by decide) hf (fun hf => ?_) (fun hf => ?_)
      · cases hf
        exact rt_V hx hb hr hlocks hK hP hD hS hQ rfl dX0_measureCollision_89
      · refine lv_aload_n hx hb dX0_measureCollision_31 rfl (lv_at hl 0 rfl) ?_
        refine va_get (C := RX0) (T := TX0) (N := 5) hx hb hts i0 hown hK hP 0 rfl rfl 0 (Nat.le_of_ble_eq_true rfl) w3 (fun _ h9 => h9) rfl dX0_measureCollision_32 ?_
        refine lv_iload_n hx hb dX0_measureCollision_35 rfl (lv_at hl 1 rfl) ?_
        refine xiald hx hb hK hP 1 rfl hf dX0_measureCollision_36 (fun hf => ?_)
        refine lv_aload_n hx hb dX0_measureCollision_37 rfl (lv_at hl 0 rfl) ?_
        refine va_get (C := RX0) (T := TX0) (N := 5) hx hb hts i0 hown hK hP 0 rfl rfl 0 (Nat.le_of_ble_eq_true rfl) w3 (fun _ h9 => h9) rfl dX0_measureCollision_38 ?_
        refine lv_iload_n hx hb dX0_measureCollision_41 rfl (lv_at hl 1 rfl) ?_
        refine lv_iconst (v := 1) hx hb dX0_measureCollision_42 rfl ?_
        refine lv_iadd hx hb dX0_measureCollision_43 ?_
        refine xiald hx hb hK hP 1 rfl hf dX0_measureCollision_44 (fun hf => ?_)
        refine xc_ne (tgt := 52) hx hb dX0_measureCollision_45 (by decide) hf (fun hf => ?_) (fun hf => ?_)
        · refine lv_iconst (v := 3) hx hb dX0_measureCollision_52 rfl ?_
          exact b53 k12 q12 v0 x1 (3 : Int32) hf _ _ _ hP hD hS (lv_sub hl [0, 1] rfl)
        · refine lv_iconst (v := 2) hx hb dX0_measureCollision_48 rfl ?_
          refine lv_goto (tgt := 53) hx hb dX0_measureCollision_49 (by decide) ?_
          exact b53 k12 q12 v0 x1 (2 : Int32) hf _ _ _ hP hD hS (lv_sub hl [0, 1] rfl)
  have b12 : ∀ (n : Nat) (v0 : V0) (x1 : Int32), fb_X0_measureCollision_12 n v0 x1 = some v0' → ∀ (H : Heap) (locs : List Loc) (ls : Array Slot), va_P D vwCl [(a0, .inr (0, [.ref a1, .ref a2, .int v0.2.2.1, .int v0.2.2.2.1, .int v0.2.2.2.2])), (a1, .inl (ca 0, 400, .inl v0.1))] H → va_D A [(a0, .inr (0, [.ref a1, .ref a2, .int v0.2.2.1, .int v0.2.2.2.1, .int v0.2.2.2.2])), (a1, .inl (ca 0, 400, .inl v0.1))] → va_S A s.heap H locs → lv_has ls 3 [(0, .ref a0), (1, .int x1)] → W p l e ({ frames := 0, cells := 0, slots := 0, locals := 0 } : Room) s m args below meth c H locs 0 0 Q (F0 m 12 ls []) := by
    intro n
    induction n with
    | zero => intro v0 x1 hf; exact no_el hf
    | succ n ih => exact bl12 (fb_X0_measureCollision_12 n) ih
  unfold f_X0_measureCollision at hf
  refine lv_aload_n hx hb dX0_measureCollision_0 rfl (lv_at hl 0 rfl) ?_
  refine lv_iconst (v := 0) hx hb dX0_measureCollision_1 rfl ?_
  refine xput (C := RX0) (T := TX0) (N := 5) (wx := [(a0, .inr (0, [.ref a1, .ref a2, .int v0.2.2.1, .int (0 : Int32), .int v0.2.2.2.2])), (a1, .inl (ca 0, 400, .inl v0.1))]) hx hb hts i0 tyX0 tyX0_ok nmX0 hown hK hP hD hS 0 rfl rfl 3 (Nat.le_of_ble_eq_true rfl) w0 (fun _ h9 => h9) rfl rfl rfl rfl (Nat.le_of_ble_eq_true rfl) dX0_measureCollision_2 rfl (fun H locs hP hD hS => ?_)
  refine lv_aload_n hx hb dX0_measureCollision_5 rfl (lv_at hl 0 rfl) ?_
  refine lv_iconst (v := 0) hx hb dX0_measureCollision_6 rfl ?_
  refine xput (C := RX0) (T := TX0) (N := 5) (wx := [(a0, .inr (0, [.ref a1, .ref a2, .int v0.2.2.1, .int (0 : Int32), .int (0 : Int32)])), (a1, .inl (ca 0, 400, .inl v0.1))]) hx hb hts i0 tyX0 tyX0_ok nmX0 hown hK hP hD hS 0 rfl rfl 4 (Nat.le_of_ble_eq_true rfl) w1 (fun _ h9 => h9) rfl rfl rfl rfl (Nat.le_of_ble_eq_true rfl) dX0_measureCollision_7 rfl (fun H locs hP hD hS => ?_)
  refine lv_iconst (v := 0) hx hb dX0_measureCollision_10 rfl ?_
  refine lv_istore_n (lv' := [(1, .int (0 : Int32)), (0, .ref a0)]) hx hb dX0_measureCollision_11 rfl hl (Nat.le_of_ble_eq_true rfl) rfl (fun ls hl => ?_)
  exact b12 FU ((v0.1, v0.2.1, v0.2.2.1, (0 : Int32), (0 : Int32))) (0 : Int32) hf _ _ _ hP hD hS (lv_sub hl [1, 0] rfl)
abbrev wq_X0_measureFollow : List Cond := Cond.code yX0_measureFollow cX0_measureFollow 6 none :: GL
set_option maxHeartbeats 4000000 in
set_option maxRecDepth 100000 in
theorem c_X0_measureFollow (l : Launch) (D : va_G) (ca : Nat → ClassId) (zz : Nat → Nat) (a0 a1 a2 : Nat) (sz : Nat) (v0 : V0) (v0' : V0) (hf : f_X0_measureFollow v0 = some v0') : Met l yX0_measureFollow wq_X0_measureFollow ({ frames := 1, cells := 0, slots := 0, locals := 21 } : Room) (PR D ca zz [.ref a0] sz [(a0, .inr (0, [.ref a1, .ref a2, .int v0.2.2.1, .int v0.2.2.2.1, .int v0.2.2.2.2])), (a1, .inl (ca 0, 400, .inl v0.1))]) (QV D ca [(a0, .inr (0, [.ref a1, .ref a2, .int v0'.2.2.1, .int v0'.2.2.2.1, .int v0'.2.2.2.2])), (a1, .inl (ca 0, 400, .inl v0'.1))] (va_A [(a0, .inr (0, [.ref a1, .ref a2, .int v0.2.2.1, .int v0.2.2.2.1, .int v0.2.2.2.2])), (a1, .inl (ca 0, 400, .inl v0.1))] sz)) 0 0 (va_A [(a0, .inr (0, [.ref a1, .ref a2, .int v0.2.2.1, .int v0.2.2.2.1, .int v0.2.2.2.2])), (a1, .inl (ca 0, 400, .inl v0.1))] sz) := by
  refine en (y := yX0_measureFollow) (wsm := wq_X0_measureFollow) (av := [.ref a0]) (cc := cX0_measureFollow) (maxL := 6) (ret := none) (Qf := fun A => QV D ca [(a0, .inr (0, [.ref a1, .ref a2, .int v0'.2.2.1, .int v0'.2.2.2.1, .int v0'.2.2.2.2])), (a1, .inl (ca 0, 400, .inl v0'.1))] A) (by decide) rfl (Nat.le_of_ble_eq_true rfl) ?_
  intro p e s m args below meth c A Q ls hx hb hr hml hown hts hlocks hnm hA hN hZ hK hQ hP hD hS hl
  have w0 := hts _ (List.mem_cons_of_mem _ gw_2_167)
  have w1 := hts _ (List.mem_cons_of_mem _ gw_4_66)
  have w2 := hts _ (List.mem_cons_of_mem _ gw_2_33)
  have w3 := hts _ (List.mem_cons_of_mem _ gw_1_11)
  have w4 := hts _ (List.mem_cons_of_mem _ gw_2_34)
  have w5 := hts _ (List.mem_cons_of_mem _ gw_2_168)
  have w6 := hts _ (List.mem_cons_of_mem _ gw_2_170)
  have w7 := hts _ (List.mem_cons_of_mem _ gw_2_165)
  have i0 : ∀ w ∈ u_ws RX0 TX0 5, w ∈ wq_X0_measureFollow := fun w h => List.mem_cons_of_mem _ (inX0 w h)
  have b77 : ∀ (v0 : V0) (x1 : Int32) (x2 : Int32) (x3 : Int32), fc_X0_measureFollow_77 v0 x1 x2 x3 = some v0' → ∀ (H : Heap) (locs : List Loc) (ls : Array Slot), va_P D vwCl [(a0, .inr (0, [.ref a1, .ref a2, .int v0.2.2.1, .int v0.2.2.2.1, .int v0.2.2.2.2])), (a1, .inl (ca 0, 400, .inl v0.1))] H → va_D A [(a0, .inr (0, [.ref a1, .ref a2, .int v0.2.2.1, .int v0.2.2.2.1, .int v0.2.2.2.2])), (a1, .inl (ca 0, 400, .inl v0.1))] → va_S A s.heap H locs → lv_has ls 6 [(0, .ref a0), (1, .int x1), (2, .int x2), (3, .int x3)] → W p l e ({ frames := 1, cells := 0, slots := 0, locals := 21 } : Room) s m args below meth c H locs 0 0 Q (F0 m 77 ls []) := by
    intro v0 x1 x2 x3 hf H locs ls hP hD hS hl
    unfold fc_X0_measureFollow_77 at hf
    refine lv_aload_n hx hb dX0_measureFollow_77 rfl (lv_at hl 0 rfl) ?_
    refine va_get (C := RX0) (T := TX0) (N := 5) hx hb hts i0 hown hK hP 0 rfl rfl 2 (Nat.le_of_ble_eq_true rfl) w0 (fun _ h9 => h9) rfl dX0_measureFollow_78 ?_
    refine lv_iconst (v := 1) hx hb dX0_measureFollow_81 rfl ?_
    refine lv_isub hx hb dX0_measureFollow_82 ?_
    refine lv_iload_n hx hb dX0_measureFollow_83 rfl (lv_at hl 1 rfl) ?_
    refine lv_isub hx hb dX0_measureFollow_84 ?_
    refine xnm hf (fun x_1 hf => ?_)
    refine lv_istore (lv' := [(4, .int x_1), (0, .ref a0), (1, .int x1), (2, .int x2), (3, .int x3)]) hx hb dX0_measureFollow_85 hl (Nat.le_of_ble_eq_true rfl) rfl (fun ls hl => ?_)
    refine lv_iload_n hx hb dX0_measureFollow_87 rfl (lv_at hl 3 rfl) ?_
    refine lv_iload_n hx hb dX0_measureFollow_88 rfl (lv_at hl 2 rfl) ?_
    refine lv_iload_n hx hb dX0_measureFollow_89 rfl (lv_at hl 3 rfl) ?_
    refine lv_isub hx hb dX0_measureFollow_90 ?_
    refine va_mmax hx hb (hml.trans hl.1.symm) hown w1 w2 w3 w4 (Nat.le_of_ble_eq_true rfl) (Nat.le_of_ble_eq_true rfl) (Nat.zero_le _) (Nat.zero_le _) dX0_measureFollow_91 ?_
    refine xnm hf (fun x_2 hf => ?_)
    refine lv_istore (lv' := [(5, .int x_2), (4, .int x_1), (0, .ref a0), (1, .int x1), (2, .int x2), (3, .int x3)]) hx hb dX0_measureFollow_94 hl (Nat.le_of_ble_eq_true rfl) rfl (fun ls hl => ?_)
    refine lv_aload_n hx hb dX0_measureFollow_96 rfl (lv_at hl 2 rfl) ?_
    refine lv_iload_n hx hb dX0_measureFollow_97 rfl (lv_at hl 5 rfl) ?_
    refine lv_iload hx hb dX0_measureFollow_98 (lv_at hl 1 rfl) ?_
    refine lv_iload_n hx hb dX0_measureFollow_100 rfl (lv_at hl 5 rfl) ?_
    refine lv_isub hx hb dX0_measureFollow_101 ?_
    refine va_mmax hx hb (hml.trans hl.1.symm) hown w1 w2 w3 w4 (Nat.le_of_ble_eq_true rfl) (Nat.le_of_ble_eq_true rfl) (Nat.zero_le _) (Nat.zero_le _) dX0_measureFollow_102 ?_
    refine xnm hf (fun x_3 hf => ?_)
    refine xput (C := RX0) (T := TX0) (N := 5) (wx := [(a0, .inr (0, [.ref a1, .ref a2, .int v0.2.2.1, .int x_3, .int v0.2.2.2.2])), (a1, .inl (ca 0, 400, .inl v0.1))]) hx hb hts i0 tyX0 tyX0_ok nmX0 hown hK hP hD hS 0 rfl rfl 3 (Nat.le_of_ble_eq_true rfl) w5 (fun _ h9 => h9) rfl rfl rfl rfl (Nat.le_of_ble_eq_true rfl) dX0_measureFollow_105 rfl (fun H locs hP hD hS => ?_)
    refine lv_aload_n hx hb dX0_measureFollow_108 rfl (lv_at hl 2 rfl) ?_
    refine lv_iload hx hb dX0_measureFollow_109 (lv_at hl 1 rfl) ?_
    refine xput (C := RX0) (T := TX0) (N := 5) (wx := [(a0, .inr (0, [.ref a1, .ref a2, .int v0.2.2.1, .int x_3, .int x_1])), (a1, .inl (ca 0, 400, .inl v0.1))]) hx hb hts i0 tyX0 tyX0_ok nmX0 hown hK hP hD hS 0 rfl rfl 4 (Nat.le_of_ble_eq_true rfl) w6 (fun _ h9 => h9) rfl rfl rfl rfl (Nat.le_of_ble_eq_true rfl) dX0_measureFollow_111 rfl (fun H locs hP hD hS => ?_)
    refine lv_iload hx hb dX0_measureFollow_114 (lv_at hl 1 rfl) ?_
    refine xi_eq (tgt := 133) hx hb dX0_measureFollow_116 (by decide) hf (fun hf => ?_) (fun hf => ?_)
    · refine lv_aload_n hx hb dX0_measureFollow_133 rfl (lv_at hl 2 rfl) ?_
      refine lv_iload hx hb dX0_measureFollow_134 (lv_at hl 0 rfl) ?_
      refine xput (C := RX0) (T := TX0) (N := 5) (wx := [(a0, .inr (0, [.ref a1, .ref a2, .int v0.2.2.1, .int x_2, .int x_1])), (a1, .inl (ca 0, 400, .inl v0.1))]) hx hb hts i0 tyX0 tyX0_ok nmX0 hown hK hP hD hS 0 rfl rfl 3 (Nat.le_of_ble_eq_true rfl) w5 (fun _ h9 => h9) rfl rfl rfl rfl (Nat.le_of_ble_eq_true rfl) dX0_measureFollow_136 rfl (fun H locs hP hD hS => ?_)
      refine lv_aload_n hx hb dX0_measureFollow_139 rfl (lv_at hl 2 rfl) ?_
      refine lv_iload_n hx hb dX0_measureFollow_140 rfl (lv_at hl 3 rfl) ?_
      refine xput (C := RX0) (T := TX0) (N := 5) (wx := [(a0, .inr (0, [.ref a1, .ref a2, .int v0.2.2.1, .int x_2, .int x1])), (a1, .inl (ca 0, 400, .inl v0.1))]) hx hb hts i0 tyX0 tyX0_ok nmX0 hown hK hP hD hS 0 rfl rfl 4 (Nat.le_of_ble_eq_true rfl) w6 (fun _ h9 => h9) rfl rfl rfl rfl (Nat.le_of_ble_eq_true rfl) dX0_measureFollow_141 rfl (fun H locs hP hD hS => ?_)
      cases hf
      exact rt_V hx hb hr hlocks hK hP hD hS hQ rfl dX0_measureFollow_144
    · refine lv_iload hx hb dX0_measureFollow_119 (lv_at hl 0 rfl) ?_
      refine lv_iload hx hb dX0_measureFollow_121 (lv_at hl 1 rfl) ?_
      refine lv_imul hx hb dX0_measureFollow_123 ?_
      refine lv_aload_n hx hb dX0_measureFollow_124 rfl (lv_at hl 2 rfl) ?_
      refine va_get (C := RX0) (T := TX0) (N := 5) hx hb hts i0 hown hK hP 0 rfl rfl 3 (Nat.le_of_ble_eq_true rfl) w5 (fun _ h9 => h9) rfl dX0_measureFollow_125 ?_
      refine lv_iload_n hx hb dX0_measureFollow_128 rfl (lv_at hl 3 rfl) ?_
      refine lv_imul hx hb dX0_measureFollow_129 ?_
      refine xc_le (tgt := 144) hx hb dX0_measureFollow_130 (by decide) hf (fun hf => ?_) (fun hf => ?_)
      · cases hf
        exact rt_V hx hb hr hlocks hK hP hD hS hQ rfl dX0_measureFollow_144
      · refine lv_aload_n hx hb dX0_measureFollow_133 rfl (lv_at hl 2 rfl) ?_
        refine lv_iload hx hb dX0_measureFollow_134 (lv_at hl 0 rfl) ?_
        refine xput (C := RX0) (T := TX0) (N := 5) (wx := [(a0, .inr (0, [.ref a1, .ref a2, .int v0.2.2.1, .int x_2, .int x_1])), (a1, .inl (ca 0, 400, .inl v0.1))]) hx hb hts i0 tyX0 tyX0_ok nmX0 hown hK hP hD hS 0 rfl rfl 3 (Nat.le_of_ble_eq_true rfl) w5 (fun _ h9 => h9) rfl rfl rfl rfl (Nat.le_of_ble_eq_true rfl) dX0_measureFollow_136 rfl (fun H locs hP hD hS => ?_)
        refine lv_aload_n hx hb dX0_measureFollow_139 rfl (lv_at hl 2 rfl) ?_
        refine lv_iload_n hx hb dX0_measureFollow_140 rfl (lv_at hl 3 rfl) ?_
        refine xput (C := RX0) (T := TX0) (N := 5) (wx := [(a0, .inr (0, [.ref a1, .ref a2, .int v0.2.2.1, .int x_2, .int x1])), (a1, .inl (ca 0, 400, .inl v0.1))]) hx hb hts i0 tyX0 tyX0_ok nmX0 hown hK hP hD hS 0 rfl rfl 4 (Nat.le_of_ble_eq_true rfl) w6 (fun _ h9 => h9) rfl rfl rfl rfl (Nat.le_of_ble_eq_true rfl) dX0_measureFollow_141 rfl (fun H locs hP hD hS => ?_)
        cases hf
        exact rt_V hx hb hr hlocks hK hP hD hS hQ rfl dX0_measureFollow_144
  have bl9 : ∀ (k9 : V0 → Int32 → Int32 → Int32 → Int32 → Option (V0)) (q9 : ∀ (v0 : V0) (x1 : Int32) (x2 : Int32) (x3 : Int32) (x4 : Int32), k9 v0 x1 x2 x3 x4 = some v0' → ∀ (H : Heap) (locs : List Loc) (ls : Array Slot), va_P D vwCl [(a0, .inr (0, [.ref a1, .ref a2, .int v0.2.2.1, .int v0.2.2.2.1, .int v0.2.2.2.2])), (a1, .inl (ca 0, 400, .inl v0.1))] H → va_D A [(a0, .inr (0, [.ref a1, .ref a2, .int v0.2.2.1, .int v0.2.2.2.1, .int v0.2.2.2.2])), (a1, .inl (ca 0, 400, .inl v0.1))] → va_S A s.heap H locs → lv_has ls 6 [(0, .ref a0), (1, .int x1), (2, .int x2), (3, .int x3), (4, .int x4)] → W p l e ({ frames := 1, cells := 0, slots := 0, locals := 21 } : Room) s m args below meth c H locs 0 0 Q (F0 m 9 ls [])) (v0 : V0) (x1 : Int32) (x2 : Int32) (x3 : Int32) (x4 : Int32), fl_X0_measureFollow_9 k9 v0 x1 x2 x3 x4 = some v0' → ∀ (H : Heap) (locs : List Loc) (ls : Array Slot), va_P D vwCl [(a0, .inr (0, [.ref a1, .ref a2, .int v0.2.2.1, .int v0.2.2.2.1, .int v0.2.2.2.2])), (a1, .inl (ca 0, 400, .inl v0.1))] H → va_D A [(a0, .inr (0, [.ref a1, .ref a2, .int v0.2.2.1, .int v0.2.2.2.1, .int v0.2.2.2.2])), (a1, .inl (ca 0, 400, .inl v0.1))] → va_S A s.heap H locs → lv_has ls 6 [(0, .ref a0), (1, .int x1), (2, .int x2), (3, .int x3), (4, .int x4)] → W p l e ({ frames := 1, cells := 0, slots := 0, locals := 21 } : Room) s m args below meth c H locs 0 0 Q (F0 m 9 ls []) := by
    intro k9 q9 v0 x1 x2 x3 x4 hf H locs ls hP hD hS hl
    unfold fl_X0_measureFollow_9 at hf
    refine lv_iload hx hb dX0_measureFollow_9 (lv_at hl 4 rfl) ?_
    refine lv_iconst (v := 1) hx hb dX0_measureFollow_11 rfl ?_
    refine lv_iadd hx hb dX0_measureFollow_12 ?_
    refine lv_aload_n hx hb dX0_measureFollow_13 rfl (lv_at hl 0 rfl) ?_
    refine va_get (C := RX0) (T := TX0) (N := 5) hx hb hts i0 hown hK hP 0 rfl rfl 2 (Nat.le_of_ble_eq_true rfl) w0 (fun _ h9 => h9) rfl dX0_measureFollow_14 ?_
    refine xc_ge (tgt := 77) hx hb dX0_measureFollow_17 (by decide) hf (fun hf => ?_) (fun hf => ?_)
    · exact b77 v0 x1 x2 x3 hf _ _ _ hP hD hS (lv_sub hl [0, 1, 2, 3] rfl)
    · refine lv_iload hx hb dX0_measureFollow_20 (lv_at hl 4 rfl) ?_
      refine lv_iconst (v := 1) hx hb dX0_measureFollow_22 rfl ?_
      refine lv_iadd hx hb dX0_measureFollow_23 ?_
      refine lv_sipush (v := 400) hx hb dX0_measureFollow_24 rfl ?_
      refine xc_ge (tgt := 77) hx hb dX0_measureFollow_27 (by decide) hf (fun hf => ?_) (fun hf => ?_)
      · exact b77 v0 x1 x2 x3 hf _ _ _ hP hD hS (lv_sub hl [0, 1, 2, 3] rfl)
      · refine lv_aload_n hx hb dX0_measureFollow_30 rfl (lv_at hl 0 rfl) ?_
        refine va_get (C := RX0) (T := TX0) (N := 5) hx hb hts i0 hown hK hP 0 rfl rfl 0 (Nat.le_of_ble_eq_true rfl) w7 (fun _ h9 => h9) rfl dX0_measureFollow_31 ?_
        refine lv_iload hx hb dX0_measureFollow_34 (lv_at hl 4 rfl) ?_
        refine xiald hx hb hK hP 1 rfl hf dX0_measureFollow_36 (fun hf => ?_)
        refine lv_iconst (v := 1) hx hb dX0_measureFollow_37 rfl ?_
        refine xc_ne (tgt := 59) hx hb dX0_measureFollow_38 (by decide) hf (fun hf => ?_) (fun hf => ?_)
        · refine lv_iload_n hx hb dX0_measureFollow_59 rfl (lv_at hl 3 rfl) ?_
          refine lv_aload_n hx hb dX0_measureFollow_60 rfl (lv_at hl 0 rfl) ?_
          refine va_get (C := RX0) (T := TX0) (N := 5) hx hb hts i0 hown hK hP 0 rfl rfl 0 (Nat.le_of_ble_eq_true rfl) w7 (fun _ h9 => h9) rfl dX0_measureFollow_61 ?_
          refine lv_iload hx hb dX0_measureFollow_64 (lv_at hl 4 rfl) ?_
          refine lv_iconst (v := 1) hx hb dX0_measureFollow_66 rfl ?_
          refine lv_iadd hx hb dX0_measureFollow_67 ?_
          refine xiald hx hb hK hP 1 rfl hf dX0_measureFollow_68 (fun hf => ?_)
          refine lv_iadd hx hb dX0_measureFollow_69 ?_
          refine xnm hf (fun x_4 hf => ?_)
          refine lv_istore_n (lv' := [(3, .int x_4), (0, .ref a0), (1, .int x1), (2, .int x2), (4, .int x4)]) hx hb dX0_measureFollow_70 rfl hl (Nat.le_of_ble_eq_true rfl) rfl (fun ls hl => ?_)
          obtain ⟨x_5, ex_5, hf⟩ := bnd_el hf
          refine lv_iinc (v := x_5) (lv' := [(4, .int x_5), (3, .int x_4), (0, .ref a0), (1, .int x1), (2, .int x2)]) hx hb dX0_measureFollow_71 hl (k := 4) rfl (by rw [ex_5]; rfl) (Nat.le_of_ble_eq_true rfl) rfl (fun ls hl => ?_)
          refine lv_goto (tgt := 9) hx hb dX0_measureFollow_74 (by decide) ?_
          exact q9 v0 x1 x2 x_4 x_5 hf _ _ _ hP hD hS (lv_sub hl [2, 3, 4, 1, 0] rfl)
        · obtain ⟨x_6, ex_6, hf⟩ := bnd_el hf
          refine lv_iinc (v := x_6) (lv' := [(1, .int x_6), (0, .ref a0), (2, .int x2), (3, .int x3), (4, .int x4)]) hx hb dX0_measureFollow_41 hl (k := 1) rfl (by rw [ex_6]; rfl) (Nat.le_of_ble_eq_true rfl) rfl (fun ls hl => ?_)
          refine lv_iload_n hx hb dX0_measureFollow_44 rfl (lv_at hl 2 rfl) ?_
          refine lv_aload_n hx hb dX0_measureFollow_45 rfl (lv_at hl 1 rfl) ?_
          refine va_get (C := RX0) (T := TX0) (N := 5) hx hb hts i0 hown hK hP 0 rfl rfl 0 (Nat.le_of_ble_eq_true rfl) w7 (fun _ h9 => h9) rfl dX0_measureFollow_46 ?_
          refine lv_iload hx hb dX0_measureFollow_49 (lv_at hl 4 rfl) ?_
          refine lv_iconst (v := 1) hx hb dX0_measureFollow_51 rfl ?_
          refine lv_iadd hx hb dX0_measureFollow_52 ?_
          refine xiald hx hb hK hP 1 rfl hf dX0_measureFollow_53 (fun hf => ?_)
          refine lv_iadd hx hb dX0_measureFollow_54 ?_
          refine xnm hf (fun x_7 hf => ?_)
          refine lv_istore_n (lv' := [(2, .int x_7), (1, .int x_6), (0, .ref a0), (3, .int x3), (4, .int x4)]) hx hb dX0_measureFollow_55 rfl hl (Nat.le_of_ble_eq_true rfl) rfl (fun ls hl => ?_)
          refine lv_goto (tgt := 71) hx hb dX0_measureFollow_56 (by decide) ?_
          obtain ⟨x_8, ex_8, hf⟩ := bnd_el hf
          refine lv_iinc (v := x_8) (lv' := [(4, .int x_8), (2, .int x_7), (1, .int x_6), (0, .ref a0), (3, .int x3)]) hx hb dX0_measureFollow_71 hl (k := 4) rfl (by rw [ex_8]; rfl) (Nat.le_of_ble_eq_true rfl) rfl (fun ls hl => ?_)
          refine lv_goto (tgt := 9) hx hb dX0_measureFollow_74 (by decide) ?_
          exact q9 v0 x_6 x_7 x3 x_8 hf _ _ _ hP hD hS (lv_sub hl [3, 2, 1, 4, 0] rfl)
  have b9 : ∀ (n : Nat) (v0 : V0) (x1 : Int32) (x2 : Int32) (x3 : Int32) (x4 : Int32), fb_X0_measureFollow_9 n v0 x1 x2 x3 x4 = some v0' → ∀ (H : Heap) (locs : List Loc) (ls : Array Slot), va_P D vwCl [(a0, .inr (0, [.ref a1, .ref a2, .int v0.2.2.1, .int v0.2.2.2.1, .int v0.2.2.2.2])), (a1, .inl (ca 0, 400, .inl v0.1))] H → va_D A [(a0, .inr (0, [.ref a1, .ref a2, .int v0.2.2.1, .int v0.2.2.2.1, .int v0.2.2.2.2])), (a1, .inl (ca 0, 400, .inl v0.1))] → va_S A s.heap H locs → lv_has ls 6 [(0, .ref a0), (1, .int x1), (2, .int x2), (3, .int x3), (4, .int x4)] → W p l e ({ frames := 1, cells := 0, slots := 0, locals := 21 } : Room) s m args below meth c H locs 0 0 Q (F0 m 9 ls []) := by
    intro n
    induction n with
    | zero => intro v0 x1 x2 x3 x4 hf; exact no_el hf
    | succ n ih => exact bl9 (fb_X0_measureFollow_9 n) ih
  unfold f_X0_measureFollow at hf
  refine lv_iconst (v := 0) hx hb dX0_measureFollow_0 rfl ?_
  refine lv_istore_n (lv' := [(1, .int (0 : Int32)), (0, .ref a0)]) hx hb dX0_measureFollow_1 rfl hl (Nat.le_of_ble_eq_true rfl) rfl (fun ls hl => ?_)
  refine lv_iconst (v := 0) hx hb dX0_measureFollow_2 rfl ?_
  refine lv_istore_n (lv' := [(2, .int (0 : Int32)), (1, .int (0 : Int32)), (0, .ref a0)]) hx hb dX0_measureFollow_3 rfl hl (Nat.le_of_ble_eq_true rfl) rfl (fun ls hl => ?_)
  refine lv_iconst (v := 0) hx hb dX0_measureFollow_4 rfl ?_
  refine lv_istore_n (lv' := [(3, .int (0 : Int32)), (2, .int (0 : Int32)), (1, .int (0 : Int32)), (0, .ref a0)]) hx hb dX0_measureFollow_5 rfl hl (Nat.le_of_ble_eq_true rfl) rfl (fun ls hl => ?_)
  refine lv_iconst (v := 0) hx hb dX0_measureFollow_6 rfl ?_
  refine lv_istore (lv' := [(4, .int (0 : Int32)), (3, .int (0 : Int32)), (2, .int (0 : Int32)), (1, .int (0 : Int32)), (0, .ref a0)]) hx hb dX0_measureFollow_7 hl (Nat.le_of_ble_eq_true rfl) rfl (fun ls hl => ?_)
  exact b9 FU v0 (0 : Int32) (0 : Int32) (0 : Int32) (0 : Int32) hf _ _ _ hP hD hS (lv_sub hl [4, 3, 2, 1, 0] rfl)
abbrev wq_X0_measure : List Cond := Cond.code yX0_measure cX0_measure 2 none :: GL
set_option maxHeartbeats 4000000 in
set_option maxRecDepth 100000 in
theorem c_X0_measure (l : Launch) (D : va_G) (ca : Nat → ClassId) (zz : Nat → Nat) (a0 a1 a2 : Nat) (sz : Nat) (v0 : V0) (p1 : Int32) (v0' : V0) (hf : f_X0_measure v0 p1 = some v0') : Met l yX0_measure wq_X0_measure ({ frames := 2, cells := 0, slots := 0, locals := 46 } : Room) (PR D ca zz [.ref a0, .int p1] sz [(a0, .inr (0, [.ref a1, .ref a2, .int v0.2.2.1, .int v0.2.2.2.1, .int v0.2.2.2.2])), (a1, .inl (ca 0, 400, .inl v0.1))]) (QV D ca [(a0, .inr (0, [.ref a1, .ref a2, .int v0'.2.2.1, .int v0'.2.2.2.1, .int v0'.2.2.2.2])), (a1, .inl (ca 0, 400, .inl v0'.1))] (va_A [(a0, .inr (0, [.ref a1, .ref a2, .int v0.2.2.1, .int v0.2.2.2.1, .int v0.2.2.2.2])), (a1, .inl (ca 0, 400, .inl v0.1))] sz)) 0 0 (va_A [(a0, .inr (0, [.ref a1, .ref a2, .int v0.2.2.1, .int v0.2.2.2.1, .int v0.2.2.2.2])), (a1, .inl (ca 0, 400, .inl v0.1))] sz) := by
  refine en (y := yX0_measure) (wsm := wq_X0_measure) (av := [.ref a0, .int p1]) (cc := cX0_measure) (maxL := 2) (ret := none) (Qf := fun A => QV D ca [(a0, .inr (0, [.ref a1, .ref a2, .int v0'.2.2.1, .int v0'.2.2.2.1, .int v0'.2.2.2.2])), (a1, .inl (ca 0, 400, .inl v0'.1))] A) (by decide) rfl (Nat.le_of_ble_eq_true rfl) ?_
  intro p e s m args below meth c A Q ls hx hb hr hml hown hts hlocks hnm hA hN hZ hK hQ hP hD hS hl
  unfold f_X0_measure at hf
  refine lv_iload_n hx hb dX0_measure_0 rfl (lv_at hl 1 rfl) ?_
  refine xi_ne (tgt := 11) hx hb dX0_measure_1 (by decide) hf (fun hf => ?_) (fun hf => ?_)
  · refine lv_iload_n hx hb dX0_measure_11 rfl (lv_at hl 1 rfl) ?_
    refine lv_iconst (v := 1) hx hb dX0_measure_12 rfl ?_
    refine xc_ne (tgt := 23) hx hb dX0_measure_13 (by decide) hf (fun hf => ?_) (fun hf => ?_)
    · refine lv_aload_n hx hb dX0_measure_23 rfl (lv_at hl 0 rfl) ?_
      obtain ⟨u_1, hc1, hf⟩ := bnd1_el hf
      refine xV_V (As := []) (wx := [(a0, .inr (0, [.ref a1, .ref a2, .int u_1.2.2.1, .int u_1.2.2.2.1, .int u_1.2.2.2.2])), (a1, .inl (ca 0, 400, .inl u_1.1))]) ⟨hx, hb, hml, hown, hts⟩ (c_X0_measureFollow l D ca zz a0 a1 a2 _ v0 u_1 hc1) (cwV 0 hts (gV gw_4_80 gw_4_82 gw_s_2_0 gw_1_14 gw_4_83) rfl rfl rfl (by decide +kernel) ⟨(Nat.le_of_ble_eq_true rfl), (Nat.le_of_ble_eq_true rfl)⟩) hK hN hZ hA hP hD hS [0, 1] rfl rfl rfl rfl 0 rfl rfl hl.1 rfl (Nat.le_of_ble_eq_true rfl) dX0_measure_24 ⟨Nat.zero_le _, Nat.zero_le _⟩ rfl (fun H locs hP hD hS => ?_)
      cases hf
      exact rt_V hx hb hr hlocks hK hP hD hS hQ rfl dX0_measure_27
    · refine lv_aload_n hx hb dX0_measure_16 rfl (lv_at hl 0 rfl) ?_
      obtain ⟨u_2, hc2, hf⟩ := bnd1_el hf
      refine xV_V (As := []) (wx := [(a0, .inr (0, [.ref a1, .ref a2, .int u_2.2.2.1, .int u_2.2.2.2.1, .int u_2.2.2.2.2])), (a1, .inl (ca 0, 400, .inl u_2.1))]) ⟨hx, hb, hml, hown, hts⟩ (c_X0_measureCollision l D ca zz a0 a1 a2 _ v0 u_2 hc2) (cwV 0 hts (gV gw_4_76 gw_4_78 gw_s_1_15 gw_1_14 gw_4_79) rfl rfl rfl (by decide +kernel) ⟨(Nat.le_of_ble_eq_true rfl), (Nat.le_of_ble_eq_true rfl)⟩) hK hN hZ hA hP hD hS [0, 1] rfl rfl rfl rfl 0 rfl rfl hl.1 rfl (Nat.le_of_ble_eq_true rfl) dX0_measure_17 ⟨Nat.zero_le _, Nat.zero_le _⟩ rfl (fun H locs hP hD hS => ?_)
      refine lv_goto (tgt := 27) hx hb dX0_measure_20 (by decide) ?_
      cases hf
      exact rt_V hx hb hr hlocks hK hP hD hS hQ rfl dX0_measure_27
  · refine lv_aload_n hx hb dX0_measure_4 rfl (lv_at hl 0 rfl) ?_
    obtain ⟨u_3, hc3, hf⟩ := bnd1_el hf
    refine xV_V (As := []) (wx := [(a0, .inr (0, [.ref a1, .ref a2, .int u_3.2.2.1, .int u_3.2.2.2.1, .int u_3.2.2.2.2])), (a1, .inl (ca 0, 400, .inl u_3.1))]) ⟨hx, hb, hml, hown, hts⟩ (c_X0_measureCommon l D ca zz a0 a1 a2 _ v0 u_3 hc3) (cwV 0 hts (gV gw_4_72 gw_4_74 gw_s_1_14 gw_1_14 gw_4_75) rfl rfl rfl (by decide +kernel) ⟨(Nat.le_of_ble_eq_true rfl), (Nat.le_of_ble_eq_true rfl)⟩) hK hN hZ hA hP hD hS [0, 1] rfl rfl rfl rfl 0 rfl rfl hl.1 rfl (Nat.le_of_ble_eq_true rfl) dX0_measure_5 ⟨Nat.zero_le _, Nat.zero_le _⟩ rfl (fun H locs hP hD hS => ?_)
    refine lv_goto (tgt := 27) hx hb dX0_measure_8 (by decide) ?_
    cases hf
    exact rt_V hx hb hr hlocks hK hP hD hS hQ rfl dX0_measure_27
abbrev wq_X11_bound : List Cond := Cond.code yX11_bound cX11_bound 4 (some .int) :: GL
set_option maxHeartbeats 4000000 in
set_option maxRecDepth 100000 in
theorem c_X11_bound (l : Launch) (D : va_G) (ca : Nat → ClassId) (zz : Nat → Nat) (a0 a1 a2 a7 a9 a10 a11 a14 a15 a16 a19 a21 a41 a42 a49 a50 a51 a52 a54 a55 : Nat) (sz : Nat) (v0 : V11) (p1 : Int32) (p2 : Int32) (p3 : Int32) (r : Int32) (v0' : V11) (hf : f_X11_bound v0 p1 p2 p3 = some (r, v0')) : Met l yX11_bound wq_X11_bound ({ frames := 3, cells := 0, slots := 0, locals := 67 } : Room) (PR D ca zz [.ref a0, .int p1, .int p2, .int p3] sz [(a0, .inr (11, [.ref a1, .ref a21, .ref a41, .ref a42, .ref a49, .ref a52, .ref a54, .ref a55])), (a1, .inr (10, [.ref a2, .ref a7, .ref a9, .ref a10, .ref a11, .ref a14, .ref a16, .ref a19, .int v0.1.2.2.2.2.2.2.2.2.1, .int v0.1.2.2.2.2.2.2.2.2.2.1, .int v0.1.2.2.2.2.2.2.2.2.2.2.1, .int v0.1.2.2.2.2.2.2.2.2.2.2.2.1, .int v0.1.2.2.2.2.2.2.2.2.2.2.2.2.1, .int v0.1.2.2.2.2.2.2.2.2.2.2.2.2.2])), (a14, .inr (4, [.ref a15, .int v0.1.2.2.2.2.2.1.2.1, .int v0.1.2.2.2.2.2.1.2.2])), (a15, .inl (ca 0, 512, .inl v0.1.2.2.2.2.2.1.1)), (a49, .inr (0, [.ref a50, .ref a51, .int v0.2.2.2.2.1.2.2.1, .int v0.2.2.2.2.1.2.2.2.1, .int v0.2.2.2.2.1.2.2.2.2])), (a50, .inl (ca 0, 400, .inl v0.2.2.2.2.1.1))]) (QI D ca r [(a0, .inr (11, [.ref a1, .ref a21, .ref a41, .ref a42, .ref a49, .ref a52, .ref a54, .ref a55])), (a1, .inr (10, [.ref a2, .ref a7, .ref a9, .ref a10, .ref a11, .ref a14, .ref a16, .ref a19, .int v0'.1.2.2.2.2.2.2.2.2.1, .int v0'.1.2.2.2.2.2.2.2.2.2.1, .int v0'.1.2.2.2.2.2.2.2.2.2.2.1, .int v0'.1.2.2.2.2.2.2.2.2.2.2.2.1, .int v0'.1.2.2.2.2.2.2.2.2.2.2.2.2.1, .int v0'.1.2.2.2.2.2.2.2.2.2.2.2.2.2])), (a14, .inr (4, [.ref a15, .int v0'.1.2.2.2.2.2.1.2.1, .int v0'.1.2.2.2.2.2.1.2.2])), (a15, .inl (ca 0, 512, .inl v0'.1.2.2.2.2.2.1.1)), (a49, .inr (0, [.ref a50, .ref a51, .int v0'.2.2.2.2.1.2.2.1, .int v0'.2.2.2.2.1.2.2.2.1, .int v0'.2.2.2.2.1.2.2.2.2])), (a50, .inl (ca 0, 400, .inl v0'.2.2.2.2.1.1))] (va_A [(a0, .inr (11, [.ref a1, .ref a21, .ref a41, .ref a42, .ref a49, .ref a52, .ref a54, .ref a55])), (a1, .inr (10, [.ref a2, .ref a7, .ref a9, .ref a10, .ref a11, .ref a14, .ref a16, .ref a19, .int v0.1.2.2.2.2.2.2.2.2.1, .int v0.1.2.2.2.2.2.2.2.2.2.1, .int v0.1.2.2.2.2.2.2.2.2.2.2.1, .int v0.1.2.2.2.2.2.2.2.2.2.2.2.1, .int v0.1.2.2.2.2.2.2.2.2.2.2.2.2.1, .int v0.1.2.2.2.2.2.2.2.2.2.2.2.2.2])), (a14, .inr (4, [.ref a15, .int v0.1.2.2.2.2.2.1.2.1, .int v0.1.2.2.2.2.2.1.2.2])), (a15, .inl (ca 0, 512, .inl v0.1.2.2.2.2.2.1.1)), (a49, .inr (0, [.ref a50, .ref a51, .int v0.2.2.2.2.1.2.2.1, .int v0.2.2.2.2.1.2.2.2.1, .int v0.2.2.2.2.1.2.2.2.2])), (a50, .inl (ca 0, 400, .inl v0.2.2.2.2.1.1))] sz)) 0 0 (va_A [(a0, .inr (11, [.ref a1, .ref a21, .ref a41, .ref a42, .ref a49, .ref a52, .ref a54, .ref a55])), (a1, .inr (10, [.ref a2, .ref a7, .ref a9, .ref a10, .ref a11, .ref a14, .ref a16, .ref a19, .int v0.1.2.2.2.2.2.2.2.2.1, .int v0.1.2.2.2.2.2.2.2.2.2.1, .int v0.1.2.2.2.2.2.2.2.2.2.2.1, .int v0.1.2.2.2.2.2.2.2.2.2.2.2.1, .int v0.1.2.2.2.2.2.2.2.2.2.2.2.2.1, .int v0.1.2.2.2.2.2.2.2.2.2.2.2.2.2])), (a14, .inr (4, [.ref a15, .int v0.1.2.2.2.2.2.1.2.1, .int v0.1.2.2.2.2.2.1.2.2])), (a15, .inl (ca 0, 512, .inl v0.1.2.2.2.2.2.1.1)), (a49, .inr (0, [.ref a50, .ref a51, .int v0.2.2.2.2.1.2.2.1, .int v0.2.2.2.2.1.2.2.2.1, .int v0.2.2.2.2.1.2.2.2.2])), (a50, .inl (ca 0, 400, .inl v0.2.2.2.2.1.1))] sz) := by
  refine en (y := yX11_bound) (wsm := wq_X11_bound) (av := [.ref a0, .int p1, .int p2, .int p3]) (cc := cX11_bound) (maxL := 4) (ret := (some .int)) (Qf := fun A => QI D ca r [(a0, .inr (11, [.ref a1, .ref a21, .ref a41, .ref a42, .ref a49, .ref a52, .ref a54, .ref a55])), (a1, .inr (10, [.ref a2, .ref a7, .ref a9, .ref a10, .ref a11, .ref a14, .ref a16, .ref a19, .int v0'.1.2.2.2.2.2.2.2.2.1, .int v0'.1.2.2.2.2.2.2.2.2.2.1, .int v0'.1.2.2.2.2.2.2.2.2.2.2.1, .int v0'.1.2.2.2.2.2.2.2.2.2.2.2.1, .int v0'.1.2.2.2.2.2.2.2.2.2.2.2.2.1, .int v0'.1.2.2.2.2.2.2.2.2.2.2.2.2.2])), (a14, .inr (4, [.ref a15, .int v0'.1.2.2.2.2.2.1.2.1, .int v0'.1.2.2.2.2.2.1.2.2])), (a15, .inl (ca 0, 512, .inl v0'.1.2.2.2.2.2.1.1)), (a49, .inr (0, [.ref a50, .ref a51, .int v0'.2.2.2.2.1.2.2.1, .int v0'.2.2.2.2.1.2.2.2.1, .int v0'.2.2.2.2.1.2.2.2.2])), (a50, .inl (ca 0, 400, .inl v0'.2.2.2.2.1.1))] A) (by decide) rfl (Nat.le_of_ble_eq_true rfl) ?_
  intro p e s m args below meth c A Q ls hx hb hr hml hown hts hlocks hnm hA hN hZ hK hQ hP hD hS hl
  have w0 := hts _ (List.mem_cons_of_mem _ gw_2_191)
  have nw45 := NW.use (args := args) (w := .fieldLinkNest RX11 205 "NoiseWatch$Bounds" "above" "I" "NoiseWatch") hN 45 rfl
  have nw46 := NW.use (args := args) (w := .fieldLinkNest RX11 202 "NoiseWatch$Bounds" "below" "I" "NoiseWatch") hN 46 rfl
  have i0 : ∀ w ∈ u_ws RX0 TX0 5, w ∈ wq_X11_bound := fun w h => List.mem_cons_of_mem _ (inX0 w h)
  have i11 : ∀ w ∈ u_ws RX11 TX11 8, w ∈ wq_X11_bound := fun w h => List.mem_cons_of_mem _ (inX11 w h)
  unfold f_X11_bound at hf
  refine lv_iload_n hx hb dX11_bound_0 rfl (lv_at hl 1 rfl) ?_
  refine xi_lt (tgt := 18) hx hb dX11_bound_1 (by decide) hf (fun hf => ?_) (fun hf => ?_)
  · refine lv_iconst (v := -1) hx hb dX11_bound_18 rfl ?_
    cases hf
    exact rt_I hx hb hr hlocks hK hP hD hS hQ rfl rfl dX11_bound_19
  · refine lv_iload_n hx hb dX11_bound_4 rfl (lv_at hl 1 rfl) ?_
    refine lv_iconst (v := 2) hx hb dX11_bound_5 rfl ?_
    refine xc_gt (tgt := 18) hx hb dX11_bound_6 (by decide) hf (fun hf => ?_) (fun hf => ?_)
    · refine lv_iconst (v := -1) hx hb dX11_bound_18 rfl ?_
      cases hf
      exact rt_I hx hb hr hlocks hK hP hD hS hQ rfl rfl dX11_bound_19
    · refine lv_aload_n hx hb dX11_bound_9 rfl (lv_at hl 0 rfl) ?_
      refine lv_iload_n hx hb dX11_bound_10 rfl (lv_at hl 2 rfl) ?_
      refine lv_iconst (v := 2) hx hb dX11_bound_11 rfl ?_
      obtain ⟨r_1, u_2, hc2, hf⟩ := bnd2_el hf
      refine xV_I (As := [.int p2, .int (2 : Int32)]) (wx := [(a0, .inr (11, [.ref a1, .ref a21, .ref a41, .ref a42, .ref a49, .ref a52, .ref a54, .ref a55])), (a1, .inr (10, [.ref a2, .ref a7, .ref a9, .ref a10, .ref a11, .ref a14, .ref a16, .ref a19, .int u_2.1.2.2.2.2.2.2.2.2.1, .int u_2.1.2.2.2.2.2.2.2.2.2.1, .int u_2.1.2.2.2.2.2.2.2.2.2.2.1, .int u_2.1.2.2.2.2.2.2.2.2.2.2.2.1, .int u_2.1.2.2.2.2.2.2.2.2.2.2.2.2.1, .int u_2.1.2.2.2.2.2.2.2.2.2.2.2.2.2])), (a14, .inr (4, [.ref a15, .int u_2.1.2.2.2.2.2.1.2.1, .int u_2.1.2.2.2.2.2.1.2.2])), (a15, .inl (ca 0, 512, .inl u_2.1.2.2.2.2.2.1.1)), (a49, .inr (0, [.ref a50, .ref a51, .int u_2.2.2.2.2.1.2.2.1, .int u_2.2.2.2.2.1.2.2.2.1, .int u_2.2.2.2.2.1.2.2.2.2])), (a50, .inl (ca 0, 400, .inl u_2.2.2.2.2.1.1))]) ⟨hx, hb, hml, hown, hts⟩ (c_X11_loadLatest l D ca zz a0 a1 a2 a7 a9 a10 a11 a14 a15 a16 a19 a21 a41 a42 a49 a50 a51 a52 a54 a55 _ v0 p2 (2 : Int32) r_1 u_2 hc2) (cwV 2 hts (gV gw_4_57 gw_4_59 gw_s_1_13 gw_1_1 gw_4_60) rfl rfl rfl (by decide +kernel) ⟨(Nat.le_of_ble_eq_true rfl), (Nat.le_of_ble_eq_true rfl)⟩) hK hN hZ hA hP hD hS [0, 1, 2, 3, 4, 5] rfl rfl rfl rfl 0 rfl rfl hl.1 rfl (Nat.le_of_ble_eq_true rfl) dX11_bound_12 ⟨Nat.zero_le _, Nat.zero_le _⟩ rfl (fun H locs hP hD hS => ?_)
      refine xi_ne (tgt := 20) hx hb dX11_bound_15 (by decide) hf (fun hf => ?_) (fun hf => ?_)
      · refine lv_aload_n hx hb dX11_bound_20 rfl (lv_at hl 0 rfl) ?_
        refine va_get (C := RX11) (T := TX11) (N := 8) hx hb hts i11 hown hK hP 0 rfl rfl 4 (Nat.le_of_ble_eq_true rfl) w0 (fun _ h9 => h9) rfl dX11_bound_21 ?_
        refine lv_iload_n hx hb dX11_bound_24 rfl (lv_at hl 1 rfl) ?_
        obtain ⟨u_3, hc3, hf⟩ := bnd1_el hf
        refine xV_V (As := [.int p1]) (wx := [(a0, .inr (11, [.ref a1, .ref a21, .ref a41, .ref a42, .ref a49, .ref a52, .ref a54, .ref a55])), (a1, .inr (10, [.ref a2, .ref a7, .ref a9, .ref a10, .ref a11, .ref a14, .ref a16, .ref a19, .int u_2.1.2.2.2.2.2.2.2.2.1, .int u_2.1.2.2.2.2.2.2.2.2.2.1, .int u_2.1.2.2.2.2.2.2.2.2.2.2.1, .int u_2.1.2.2.2.2.2.2.2.2.2.2.2.1, .int u_2.1.2.2.2.2.2.2.2.2.2.2.2.2.1, .int u_2.1.2.2.2.2.2.2.2.2.2.2.2.2.2])), (a14, .inr (4, [.ref a15, .int u_2.1.2.2.2.2.2.1.2.1, .int u_2.1.2.2.2.2.2.1.2.2])), (a15, .inl (ca 0, 512, .inl u_2.1.2.2.2.2.2.1.1)), (a49, .inr (0, [.ref a50, .ref a51, .int u_3.2.2.1, .int u_3.2.2.2.1, .int u_3.2.2.2.2])), (a50, .inl (ca 0, 400, .inl u_3.1))]) ⟨hx, hb, hml, hown, hts⟩ (c_X0_measure l D ca zz a49 a50 a51 _ ((u_2.2.2.2.2.1.1, v0.2.2.2.2.1.2.1, u_2.2.2.2.2.1.2.2)) p1 u_3 hc3) (cwV 1 hts (gV gw_4_68 gw_4_69 gw_4_70 gw_1_14 gw_4_71) rfl rfl rfl (by decide +kernel) ⟨(Nat.le_of_ble_eq_true rfl), (Nat.le_of_ble_eq_true rfl)⟩) hK hN hZ hA hP hD hS [4, 5] rfl rfl rfl rfl 4 rfl rfl hl.1 rfl (Nat.le_of_ble_eq_true rfl) dX11_bound_25 ⟨Nat.zero_le _, Nat.zero_le _⟩ rfl (fun H locs hP hD hS => ?_)
        refine lv_iload_n hx hb dX11_bound_28 rfl (lv_at hl 3 rfl) ?_
        refine xi_eq (tgt := 42) hx hb dX11_bound_29 (by decide) hf (fun hf => ?_) (fun hf => ?_)
        · refine lv_aload_n hx hb dX11_bound_42 rfl (lv_at hl 0 rfl) ?_
          refine va_get (C := RX11) (T := TX11) (N := 8) hx hb hts i11 hown hK hP 0 rfl rfl 4 (Nat.le_of_ble_eq_true rfl) w0 (fun _ h9 => h9) rfl dX11_bound_43 ?_
          refine va_getN (C := RX0) (T := TX0) (N := 5) hx hb hts i0 hown hK hP 4 rfl rfl 3 (Nat.le_of_ble_eq_true rfl) nw45 (fun _ h9 => h9) rfl dX11_bound_46 ?_
          cases hf
          exact rt_I hx hb hr hlocks hK hP hD hS hQ rfl rfl dX11_bound_49
        · refine lv_aload_n hx hb dX11_bound_32 rfl (lv_at hl 0 rfl) ?_
          refine va_get (C := RX11) (T := TX11) (N := 8) hx hb hts i11 hown hK hP 0 rfl rfl 4 (Nat.le_of_ble_eq_true rfl) w0 (fun _ h9 => h9) rfl dX11_bound_33 ?_
          refine va_getN (C := RX0) (T := TX0) (N := 5) hx hb hts i0 hown hK hP 4 rfl rfl 4 (Nat.le_of_ble_eq_true rfl) nw46 (fun _ h9 => h9) rfl dX11_bound_36 ?_
          refine lv_goto (tgt := 49) hx hb dX11_bound_39 (by decide) ?_
          cases hf
          exact rt_I hx hb hr hlocks hK hP hD hS hQ rfl rfl dX11_bound_49
      · refine lv_iconst (v := -1) hx hb dX11_bound_18 rfl ?_
        cases hf
        exact rt_I hx hb hr hlocks hK hP hD hS hQ rfl rfl dX11_bound_19
abbrev wq_X0_holdsBy : List Cond := Cond.code yX0_holdsBy cX0_holdsBy 3 (some .boolean) :: GL
set_option maxHeartbeats 4000000 in
set_option maxRecDepth 100000 in
theorem c_X0_holdsBy (l : Launch) (D : va_G) (ca : Nat → ClassId) (zz : Nat → Nat) (a0 a1 a2 : Nat) (sz : Nat) (v0 : V0) (p1 : Int32) (p2 : Int32) (r : Int32) (hf : f_X0_holdsBy v0 p1 p2 = some r) : Met l yX0_holdsBy wq_X0_holdsBy ({ frames := 0, cells := 0, slots := 0, locals := 0 } : Room) (PR D ca zz [.ref a0, .int p1, .int p2] sz [(a0, .inr (0, [.ref a1, .ref a2, .int v0.2.2.1, .int v0.2.2.2.1, .int v0.2.2.2.2]))]) (QI D ca r [(a0, .inr (0, [.ref a1, .ref a2, .int v0.2.2.1, .int v0.2.2.2.1, .int v0.2.2.2.2]))] (va_A [(a0, .inr (0, [.ref a1, .ref a2, .int v0.2.2.1, .int v0.2.2.2.1, .int v0.2.2.2.2]))] sz)) 0 0 (va_A [(a0, .inr (0, [.ref a1, .ref a2, .int v0.2.2.1, .int v0.2.2.2.1, .int v0.2.2.2.2]))] sz) := by
  refine en (y := yX0_holdsBy) (wsm := wq_X0_holdsBy) (av := [.ref a0, .int p1, .int p2]) (cc := cX0_holdsBy) (maxL := 3) (ret := (some .boolean)) (Qf := fun A => QI D ca r [(a0, .inr (0, [.ref a1, .ref a2, .int v0.2.2.1, .int v0.2.2.2.1, .int v0.2.2.2.2]))] A) (by decide) rfl (Nat.le_of_ble_eq_true rfl) ?_
  intro p e s m args below meth c A Q ls hx hb hr hml hown hts hlocks hnm hA hN hZ hK hQ hP hD hS hl
  have w0 := hts _ (List.mem_cons_of_mem _ gw_2_170)
  have w1 := hts _ (List.mem_cons_of_mem _ gw_2_168)
  have i0 : ∀ w ∈ u_ws RX0 TX0 5, w ∈ wq_X0_holdsBy := fun w h => List.mem_cons_of_mem _ (inX0 w h)
  unfold f_X0_holdsBy at hf
  refine lv_iload_n hx hb dX0_holdsBy_0 rfl (lv_at hl 1 rfl) ?_
  refine lv_iconst (v := 1) hx hb dX0_holdsBy_1 rfl ?_
  refine xc_ne (tgt := 39) hx hb dX0_holdsBy_2 (by decide) hf (fun hf => ?_) (fun hf => ?_)
  · refine lv_aload_n hx hb dX0_holdsBy_39 rfl (lv_at hl 0 rfl) ?_
    refine va_get (C := RX0) (T := TX0) (N := 5) hx hb hts i0 hown hK hP 0 rfl rfl 4 (Nat.le_of_ble_eq_true rfl) w0 (fun _ h9 => h9) rfl dX0_holdsBy_40 ?_
    refine lv_iload_n hx hb dX0_holdsBy_43 rfl (lv_at hl 2 rfl) ?_
    refine lv_imul hx hb dX0_holdsBy_44 ?_
    refine lv_bipush (v := 16) hx hb dX0_holdsBy_45 rfl ?_
    refine lv_aload_n hx hb dX0_holdsBy_47 rfl (lv_at hl 0 rfl) ?_
    refine va_get (C := RX0) (T := TX0) (N := 5) hx hb hts i0 hown hK hP 0 rfl rfl 3 (Nat.le_of_ble_eq_true rfl) w1 (fun _ h9 => h9) rfl dX0_holdsBy_48 ?_
    refine lv_imul hx hb dX0_holdsBy_51 ?_
    refine xc_lt (tgt := 59) hx hb dX0_holdsBy_52 (by decide) hf (fun hf => ?_) (fun hf => ?_)
    · refine lv_iconst (v := 0) hx hb dX0_holdsBy_59 rfl ?_
      cases hf
      exact rt_Z hx hb hr hlocks hK hP hD hS hQ (Or.inl rfl) rfl rfl dX0_holdsBy_60
    · refine lv_iconst (v := 1) hx hb dX0_holdsBy_55 rfl ?_
      refine lv_goto (tgt := 60) hx hb dX0_holdsBy_56 (by decide) ?_
      cases hf
      exact rt_Z hx hb hr hlocks hK hP hD hS hQ (Or.inr rfl) rfl rfl dX0_holdsBy_60
  · refine lv_sipush (v := 256) hx hb dX0_holdsBy_5 rfl ?_
    refine lv_aload_n hx hb dX0_holdsBy_8 rfl (lv_at hl 0 rfl) ?_
    refine va_get (C := RX0) (T := TX0) (N := 5) hx hb hts i0 hown hK hP 0 rfl rfl 3 (Nat.le_of_ble_eq_true rfl) w1 (fun _ h9 => h9) rfl dX0_holdsBy_9 ?_
    refine lv_imul hx hb dX0_holdsBy_12 ?_
    refine lv_aload_n hx hb dX0_holdsBy_13 rfl (lv_at hl 0 rfl) ?_
    refine va_get (C := RX0) (T := TX0) (N := 5) hx hb hts i0 hown hK hP 0 rfl rfl 4 (Nat.le_of_ble_eq_true rfl) w0 (fun _ h9 => h9) rfl dX0_holdsBy_14 ?_
    refine lv_sipush (v := 512) hx hb dX0_holdsBy_17 rfl ?_
    refine lv_iconst (v := 2) hx hb dX0_holdsBy_20 rfl ?_
    refine lv_iload_n hx hb dX0_holdsBy_21 rfl (lv_at hl 2 rfl) ?_
    refine lv_imul hx hb dX0_holdsBy_22 ?_
    refine lv_bipush (v := 16) hx hb dX0_holdsBy_23 rfl ?_
    refine lv_iload_n hx hb dX0_holdsBy_25 rfl (lv_at hl 2 rfl) ?_
    refine lv_isub hx hb dX0_holdsBy_26 ?_
    refine lv_imul hx hb dX0_holdsBy_27 ?_
    refine lv_iadd hx hb dX0_holdsBy_28 ?_
    refine lv_imul hx hb dX0_holdsBy_29 ?_
    refine xc_lt (tgt := 37) hx hb dX0_holdsBy_30 (by decide) hf (fun hf => ?_) (fun hf => ?_)
    · refine lv_iconst (v := 0) hx hb dX0_holdsBy_37 rfl ?_
      cases hf
      exact rt_Z hx hb hr hlocks hK hP hD hS hQ (Or.inl rfl) rfl rfl dX0_holdsBy_38
    · refine lv_iconst (v := 1) hx hb dX0_holdsBy_33 rfl ?_
      refine lv_goto (tgt := 38) hx hb dX0_holdsBy_34 (by decide) ?_
      cases hf
      exact rt_Z hx hb hr hlocks hK hP hD hS hQ (Or.inr rfl) rfl rfl dX0_holdsBy_38
abbrev wq_X11_holds : List Cond := Cond.code yX11_holds cX11_holds 4 (some .int) :: GL
set_option maxHeartbeats 4000000 in
set_option maxRecDepth 100000 in
theorem c_X11_holds (l : Launch) (D : va_G) (ca : Nat → ClassId) (zz : Nat → Nat) (a0 a1 a2 a3 a4 a5 a6 a7 a9 a10 a11 a14 a15 a16 a19 a21 a41 a42 a49 a50 a51 a52 a54 a55 : Nat) (sz : Nat) (v0 : V11) (p1 : Int32) (r : Int32) (v0' : V11) (hf : f_X11_holds v0 p1 = some (r, v0')) : Met l yX11_holds wq_X11_holds ({ frames := 3, cells := 0, slots := 0, locals := 67 } : Room) (PR D ca zz [.ref a0, .int p1] sz [(a0, .inr (11, [.ref a1, .ref a21, .ref a41, .ref a42, .ref a49, .ref a52, .ref a54, .ref a55])), (a1, .inr (10, [.ref a2, .ref a7, .ref a9, .ref a10, .ref a11, .ref a14, .ref a16, .ref a19, .int v0.1.2.2.2.2.2.2.2.2.1, .int v0.1.2.2.2.2.2.2.2.2.2.1, .int v0.1.2.2.2.2.2.2.2.2.2.2.1, .int v0.1.2.2.2.2.2.2.2.2.2.2.2.1, .int v0.1.2.2.2.2.2.2.2.2.2.2.2.2.1, .int v0.1.2.2.2.2.2.2.2.2.2.2.2.2.2])), (a2, .inr (7, [.ref a3, .ref a4, .ref a5, .ref a6, .int v0.1.1.2.2.2.2])), (a3, .inl (ca 0, 9, .inl v0.1.1.1)), (a14, .inr (4, [.ref a15, .int v0.1.2.2.2.2.2.1.2.1, .int v0.1.2.2.2.2.2.1.2.2])), (a15, .inl (ca 0, 512, .inl v0.1.2.2.2.2.2.1.1)), (a49, .inr (0, [.ref a50, .ref a51, .int v0.2.2.2.2.1.2.2.1, .int v0.2.2.2.2.1.2.2.2.1, .int v0.2.2.2.2.1.2.2.2.2])), (a50, .inl (ca 0, 400, .inl v0.2.2.2.2.1.1))]) (QI D ca r [(a0, .inr (11, [.ref a1, .ref a21, .ref a41, .ref a42, .ref a49, .ref a52, .ref a54, .ref a55])), (a1, .inr (10, [.ref a2, .ref a7, .ref a9, .ref a10, .ref a11, .ref a14, .ref a16, .ref a19, .int v0'.1.2.2.2.2.2.2.2.2.1, .int v0'.1.2.2.2.2.2.2.2.2.2.1, .int v0'.1.2.2.2.2.2.2.2.2.2.2.1, .int v0'.1.2.2.2.2.2.2.2.2.2.2.2.1, .int v0'.1.2.2.2.2.2.2.2.2.2.2.2.2.1, .int v0'.1.2.2.2.2.2.2.2.2.2.2.2.2.2])), (a2, .inr (7, [.ref a3, .ref a4, .ref a5, .ref a6, .int v0'.1.1.2.2.2.2])), (a3, .inl (ca 0, 9, .inl v0'.1.1.1)), (a14, .inr (4, [.ref a15, .int v0'.1.2.2.2.2.2.1.2.1, .int v0'.1.2.2.2.2.2.1.2.2])), (a15, .inl (ca 0, 512, .inl v0'.1.2.2.2.2.2.1.1)), (a49, .inr (0, [.ref a50, .ref a51, .int v0'.2.2.2.2.1.2.2.1, .int v0'.2.2.2.2.1.2.2.2.1, .int v0'.2.2.2.2.1.2.2.2.2])), (a50, .inl (ca 0, 400, .inl v0'.2.2.2.2.1.1))] (va_A [(a0, .inr (11, [.ref a1, .ref a21, .ref a41, .ref a42, .ref a49, .ref a52, .ref a54, .ref a55])), (a1, .inr (10, [.ref a2, .ref a7, .ref a9, .ref a10, .ref a11, .ref a14, .ref a16, .ref a19, .int v0.1.2.2.2.2.2.2.2.2.1, .int v0.1.2.2.2.2.2.2.2.2.2.1, .int v0.1.2.2.2.2.2.2.2.2.2.2.1, .int v0.1.2.2.2.2.2.2.2.2.2.2.2.1, .int v0.1.2.2.2.2.2.2.2.2.2.2.2.2.1, .int v0.1.2.2.2.2.2.2.2.2.2.2.2.2.2])), (a2, .inr (7, [.ref a3, .ref a4, .ref a5, .ref a6, .int v0.1.1.2.2.2.2])), (a3, .inl (ca 0, 9, .inl v0.1.1.1)), (a14, .inr (4, [.ref a15, .int v0.1.2.2.2.2.2.1.2.1, .int v0.1.2.2.2.2.2.1.2.2])), (a15, .inl (ca 0, 512, .inl v0.1.2.2.2.2.2.1.1)), (a49, .inr (0, [.ref a50, .ref a51, .int v0.2.2.2.2.1.2.2.1, .int v0.2.2.2.2.1.2.2.2.1, .int v0.2.2.2.2.1.2.2.2.2])), (a50, .inl (ca 0, 400, .inl v0.2.2.2.2.1.1))] sz)) 0 0 (va_A [(a0, .inr (11, [.ref a1, .ref a21, .ref a41, .ref a42, .ref a49, .ref a52, .ref a54, .ref a55])), (a1, .inr (10, [.ref a2, .ref a7, .ref a9, .ref a10, .ref a11, .ref a14, .ref a16, .ref a19, .int v0.1.2.2.2.2.2.2.2.2.1, .int v0.1.2.2.2.2.2.2.2.2.2.1, .int v0.1.2.2.2.2.2.2.2.2.2.2.1, .int v0.1.2.2.2.2.2.2.2.2.2.2.2.1, .int v0.1.2.2.2.2.2.2.2.2.2.2.2.2.1, .int v0.1.2.2.2.2.2.2.2.2.2.2.2.2.2])), (a2, .inr (7, [.ref a3, .ref a4, .ref a5, .ref a6, .int v0.1.1.2.2.2.2])), (a3, .inl (ca 0, 9, .inl v0.1.1.1)), (a14, .inr (4, [.ref a15, .int v0.1.2.2.2.2.2.1.2.1, .int v0.1.2.2.2.2.2.1.2.2])), (a15, .inl (ca 0, 512, .inl v0.1.2.2.2.2.2.1.1)), (a49, .inr (0, [.ref a50, .ref a51, .int v0.2.2.2.2.1.2.2.1, .int v0.2.2.2.2.1.2.2.2.1, .int v0.2.2.2.2.1.2.2.2.2])), (a50, .inl (ca 0, 400, .inl v0.2.2.2.2.1.1))] sz) := by
  refine en (y := yX11_holds) (wsm := wq_X11_holds) (av := [.ref a0, .int p1]) (cc := cX11_holds) (maxL := 4) (ret := (some .int)) (Qf := fun A => QI D ca r [(a0, .inr (11, [.ref a1, .ref a21, .ref a41, .ref a42, .ref a49, .ref a52, .ref a54, .ref a55])), (a1, .inr (10, [.ref a2, .ref a7, .ref a9, .ref a10, .ref a11, .ref a14, .ref a16, .ref a19, .int v0'.1.2.2.2.2.2.2.2.2.1, .int v0'.1.2.2.2.2.2.2.2.2.2.1, .int v0'.1.2.2.2.2.2.2.2.2.2.2.1, .int v0'.1.2.2.2.2.2.2.2.2.2.2.2.1, .int v0'.1.2.2.2.2.2.2.2.2.2.2.2.2.1, .int v0'.1.2.2.2.2.2.2.2.2.2.2.2.2.2])), (a2, .inr (7, [.ref a3, .ref a4, .ref a5, .ref a6, .int v0'.1.1.2.2.2.2])), (a3, .inl (ca 0, 9, .inl v0'.1.1.1)), (a14, .inr (4, [.ref a15, .int v0'.1.2.2.2.2.2.1.2.1, .int v0'.1.2.2.2.2.2.1.2.2])), (a15, .inl (ca 0, 512, .inl v0'.1.2.2.2.2.2.1.1)), (a49, .inr (0, [.ref a50, .ref a51, .int v0'.2.2.2.2.1.2.2.1, .int v0'.2.2.2.2.1.2.2.2.1, .int v0'.2.2.2.2.1.2.2.2.2])), (a50, .inl (ca 0, 400, .inl v0'.2.2.2.2.1.1))] A) (by decide) rfl (Nat.le_of_ble_eq_true rfl) ?_
  intro p e s m args below meth c A Q ls hx hb hr hml hown hts hlocks hnm hA hN hZ hK hQ hP hD hS hl
  have w0 := hts _ (List.mem_cons_of_mem _ gw_2_191)
  have w1 := hts _ (List.mem_cons_of_mem _ gw_2_187)
  have nw34 := NW.use (args := args) (w := .fieldLinkNest RX11 79 "NoiseWatch$Watch" "settings" "LNoiseWatch$Settings;" "NoiseWatch") hN 34 rfl
  have i10 : ∀ w ∈ u_ws RX10 TX10 14, w ∈ wq_X11_holds := fun w h => List.mem_cons_of_mem _ (inX10 w h)
  have i11 : ∀ w ∈ u_ws RX11 TX11 8, w ∈ wq_X11_holds := fun w h => List.mem_cons_of_mem _ (inX11 w h)
  have bl15 : ∀ (k15 : V11 → Int32 → Int32 → Option (Int32 × V11)) (q15 : ∀ (v0 : V11) (x2 : Int32) (x3 : Int32), k15 v0 x2 x3 = some (r, v0') → ∀ (H : Heap) (locs : List Loc) (ls : Array Slot), va_P D vwCl [(a0, .inr (11, [.ref a1, .ref a21, .ref a41, .ref a42, .ref a49, .ref a52, .ref a54, .ref a55])), (a1, .inr (10, [.ref a2, .ref a7, .ref a9, .ref a10, .ref a11, .ref a14, .ref a16, .ref a19, .int v0.1.2.2.2.2.2.2.2.2.1, .int v0.1.2.2.2.2.2.2.2.2.2.1, .int v0.1.2.2.2.2.2.2.2.2.2.2.1, .int v0.1.2.2.2.2.2.2.2.2.2.2.2.1, .int v0.1.2.2.2.2.2.2.2.2.2.2.2.2.1, .int v0.1.2.2.2.2.2.2.2.2.2.2.2.2.2])), (a2, .inr (7, [.ref a3, .ref a4, .ref a5, .ref a6, .int v0.1.1.2.2.2.2])), (a3, .inl (ca 0, 9, .inl v0.1.1.1)), (a14, .inr (4, [.ref a15, .int v0.1.2.2.2.2.2.1.2.1, .int v0.1.2.2.2.2.2.1.2.2])), (a15, .inl (ca 0, 512, .inl v0.1.2.2.2.2.2.1.1)), (a49, .inr (0, [.ref a50, .ref a51, .int v0.2.2.2.2.1.2.2.1, .int v0.2.2.2.2.1.2.2.2.1, .int v0.2.2.2.2.1.2.2.2.2])), (a50, .inl (ca 0, 400, .inl v0.2.2.2.2.1.1))] H → va_D A [(a0, .inr (11, [.ref a1, .ref a21, .ref a41, .ref a42, .ref a49, .ref a52, .ref a54, .ref a55])), (a1, .inr (10, [.ref a2, .ref a7, .ref a9, .ref a10, .ref a11, .ref a14, .ref a16, .ref a19, .int v0.1.2.2.2.2.2.2.2.2.1, .int v0.1.2.2.2.2.2.2.2.2.2.1, .int v0.1.2.2.2.2.2.2.2.2.2.2.1, .int v0.1.2.2.2.2.2.2.2.2.2.2.2.1, .int v0.1.2.2.2.2.2.2.2.2.2.2.2.2.1, .int v0.1.2.2.2.2.2.2.2.2.2.2.2.2.2])), (a2, .inr (7, [.ref a3, .ref a4, .ref a5, .ref a6, .int v0.1.1.2.2.2.2])), (a3, .inl (ca 0, 9, .inl v0.1.1.1)), (a14, .inr (4, [.ref a15, .int v0.1.2.2.2.2.2.1.2.1, .int v0.1.2.2.2.2.2.1.2.2])), (a15, .inl (ca 0, 512, .inl v0.1.2.2.2.2.2.1.1)), (a49, .inr (0, [.ref a50, .ref a51, .int v0.2.2.2.2.1.2.2.1, .int v0.2.2.2.2.1.2.2.2.1, .int v0.2.2.2.2.1.2.2.2.2])), (a50, .inl (ca 0, 400, .inl v0.2.2.2.2.1.1))] → va_S A s.heap H locs → lv_has ls 4 [(0, .ref a0), (2, .int x2), (3, .int x3)] → W p l e ({ frames := 3, cells := 0, slots := 0, locals := 67 } : Room) s m args below meth c H locs 0 0 Q (F0 m 15 ls [])) (v0 : V11) (x2 : Int32) (x3 : Int32), fl_X11_holds_15 k15 v0 x2 x3 = some (r, v0') → ∀ (H : Heap) (locs : List Loc) (ls : Array Slot), va_P D vwCl [(a0, .inr (11, [.ref a1, .ref a21, .ref a41, .ref a42, .ref a49, .ref a52, .ref a54, .ref a55])), (a1, .inr (10, [.ref a2, .ref a7, .ref a9, .ref a10, .ref a11, .ref a14, .ref a16, .ref a19, .int v0.1.2.2.2.2.2.2.2.2.1, .int v0.1.2.2.2.2.2.2.2.2.2.1, .int v0.1.2.2.2.2.2.2.2.2.2.2.1, .int v0.1.2.2.2.2.2.2.2.2.2.2.2.1, .int v0.1.2.2.2.2.2.2.2.2.2.2.2.2.1, .int v0.1.2.2.2.2.2.2.2.2.2.2.2.2.2])), (a2, .inr (7, [.ref a3, .ref a4, .ref a5, .ref a6, .int v0.1.1.2.2.2.2])), (a3, .inl (ca 0, 9, .inl v0.1.1.1)), (a14, .inr (4, [.ref a15, .int v0.1.2.2.2.2.2.1.2.1, .int v0.1.2.2.2.2.2.1.2.2])), (a15, .inl (ca 0, 512, .inl v0.1.2.2.2.2.2.1.1)), (a49, .inr (0, [.ref a50, .ref a51, .int v0.2.2.2.2.1.2.2.1, .int v0.2.2.2.2.1.2.2.2.1, .int v0.2.2.2.2.1.2.2.2.2])), (a50, .inl (ca 0, 400, .inl v0.2.2.2.2.1.1))] H → va_D A [(a0, .inr (11, [.ref a1, .ref a21, .ref a41, .ref a42, .ref a49, .ref a52, .ref a54, .ref a55])), (a1, .inr (10, [.ref a2, .ref a7, .ref a9, .ref a10, .ref a11, .ref a14, .ref a16, .ref a19, .int v0.1.2.2.2.2.2.2.2.2.1, .int v0.1.2.2.2.2.2.2.2.2.2.1, .int v0.1.2.2.2.2.2.2.2.2.2.2.1, .int v0.1.2.2.2.2.2.2.2.2.2.2.2.1, .int v0.1.2.2.2.2.2.2.2.2.2.2.2.2.1, .int v0.1.2.2.2.2.2.2.2.2.2.2.2.2.2])), (a2, .inr (7, [.ref a3, .ref a4, .ref a5, .ref a6, .int v0.1.1.2.2.2.2])), (a3, .inl (ca 0, 9, .inl v0.1.1.1)), (a14, .inr (4, [.ref a15, .int v0.1.2.2.2.2.2.1.2.1, .int v0.1.2.2.2.2.2.1.2.2])), (a15, .inl (ca 0, 512, .inl v0.1.2.2.2.2.2.1.1)), (a49, .inr (0, [.ref a50, .ref a51, .int v0.2.2.2.2.1.2.2.1, .int v0.2.2.2.2.1.2.2.2.1, .int v0.2.2.2.2.1.2.2.2.2])), (a50, .inl (ca 0, 400, .inl v0.2.2.2.2.1.1))] → va_S A s.heap H locs → lv_has ls 4 [(0, .ref a0), (2, .int x2), (3, .int x3)] → W p l e ({ frames := 3, cells := 0, slots := 0, locals := 67 } : Room) s m args below meth c H locs 0 0 Q (F0 m 15 ls []) := by
    intro k15 q15 v0 x2 x3 hf H locs ls hP hD hS hl
    unfold fl_X11_holds_15 at hf
    refine lv_iload_n hx hb dX11_holds_15 rfl (lv_at hl 2 rfl) ?_
    refine lv_iconst (v := 2) hx hb dX11_holds_16 rfl ?_
    refine xc_gt (tgt := 62) hx hb dX11_holds_17 (by decide) hf (fun hf => ?_) (fun hf => ?_)
    · refine lv_iload_n hx hb dX11_holds_62 rfl (lv_at hl 1 rfl) ?_
      cases hf
      exact rt_I hx hb hr hlocks hK hP hD hS hQ rfl rfl dX11_holds_63
    · refine lv_aload_n hx hb dX11_holds_20 rfl (lv_at hl 0 rfl) ?_
      refine va_get (C := RX11) (T := TX11) (N := 8) hx hb hts i11 hown hK hP 0 rfl rfl 4 (Nat.le_of_ble_eq_true rfl) w0 (fun _ h9 => h9) rfl dX11_holds_21 ?_
      refine lv_iload_n hx hb dX11_holds_24 rfl (lv_at hl 2 rfl) ?_
      obtain ⟨u_3, hc3, hf⟩ := bnd1_el hf
      refine xV_V (As := [.int x3]) (wx := [(a0, .inr (11, [.ref a1, .ref a21, .ref a41, .ref a42, .ref a49, .ref a52, .ref a54, .ref a55])), (a1, .inr (10, [.ref a2, .ref a7, .ref a9, .ref a10, .ref a11, .ref a14, .ref a16, .ref a19, .int v0.1.2.2.2.2.2.2.2.2.1, .int v0.1.2.2.2.2.2.2.2.2.2.1, .int v0.1.2.2.2.2.2.2.2.2.2.2.1, .int v0.1.2.2.2.2.2.2.2.2.2.2.2.1, .int v0.1.2.2.2.2.2.2.2.2.2.2.2.2.1, .int v0.1.2.2.2.2.2.2.2.2.2.2.2.2.2])), (a2, .inr (7, [.ref a3, .ref a4, .ref a5, .ref a6, .int v0.1.1.2.2.2.2])), (a3, .inl (ca 0, 9, .inl v0.1.1.1)), (a14, .inr (4, [.ref a15, .int v0.1.2.2.2.2.2.1.2.1, .int v0.1.2.2.2.2.2.1.2.2])), (a15, .inl (ca 0, 512, .inl v0.1.2.2.2.2.2.1.1)), (a49, .inr (0, [.ref a50, .ref a51, .int u_3.2.2.1, .int u_3.2.2.2.1, .int u_3.2.2.2.2])), (a50, .inl (ca 0, 400, .inl u_3.1))]) ⟨hx, hb, hml, hown, hts⟩ (c_X0_measure l D ca zz a49 a50 a51 _ v0.2.2.2.2.1 x3 u_3 hc3) (cwV 1 hts (gV gw_4_68 gw_4_69 gw_4_70 gw_1_14 gw_4_71) rfl rfl rfl (by decide +kernel) ⟨(Nat.le_of_ble_eq_true rfl), (Nat.le_of_ble_eq_true rfl)⟩) hK hN hZ hA hP hD hS [6, 7] rfl rfl rfl rfl 6 rfl rfl hl.1 rfl (Nat.le_of_ble_eq_true rfl) dX11_holds_25 ⟨Nat.zero_le _, Nat.zero_le _⟩ rfl (fun H locs hP hD hS => ?_)
      refine lv_aload_n hx hb dX11_holds_28 rfl (lv_at hl 0 rfl) ?_
      refine va_get (C := RX11) (T := TX11) (N := 8) hx hb hts i11 hown hK hP 0 rfl rfl 4 (Nat.le_of_ble_eq_true rfl) w0 (fun _ h9 => h9) rfl dX11_holds_29 ?_
      refine lv_iload_n hx hb dX11_holds_32 rfl (lv_at hl 2 rfl) ?_
      refine lv_aload_n hx hb dX11_holds_33 rfl (lv_at hl 0 rfl) ?_
      refine va_get (C := RX11) (T := TX11) (N := 8) hx hb hts i11 hown hK hP 0 rfl rfl 0 (Nat.le_of_ble_eq_true rfl) w1 (fun _ h9 => h9) rfl dX11_holds_34 ?_
      refine va_getN (C := RX10) (T := TX10) (N := 14) hx hb hts i10 hown hK hP 1 rfl rfl 0 (Nat.le_of_ble_eq_true rfl) nw34 (fun _ h9 => h9) rfl dX11_holds_37 ?_
      refine lv_iconst (v := 0) hx hb dX11_holds_40 rfl ?_
      obtain ⟨r_4, hc4, hf⟩ := bnd1_el hf
      refine xV_I (As := [.int (0 : Int32)]) (wx := [(a0, .inr (11, [.ref a1, .ref a21, .ref a41, .ref a42, .ref a49, .ref a52, .ref a54, .ref a55])), (a1, .inr (10, [.ref a2, .ref a7, .ref a9, .ref a10, .ref a11, .ref a14, .ref a16, .ref a19, .int v0.1.2.2.2.2.2.2.2.2.1, .int v0.1.2.2.2.2.2.2.2.2.2.1, .int v0.1.2.2.2.2.2.2.2.2.2.2.1, .int v0.1.2.2.2.2.2.2.2.2.2.2.2.1, .int v0.1.2.2.2.2.2.2.2.2.2.2.2.2.1, .int v0.1.2.2.2.2.2.2.2.2.2.2.2.2.2])), (a2, .inr (7, [.ref a3, .ref a4, .ref a5, .ref a6, .int v0.1.1.2.2.2.2])), (a3, .inl (ca 0, 9, .inl v0.1.1.1)), (a14, .inr (4, [.ref a15, .int v0.1.2.2.2.2.2.1.2.1, .int v0.1.2.2.2.2.2.1.2.2])), (a15, .inl (ca 0, 512, .inl v0.1.2.2.2.2.2.1.1)), (a49, .inr (0, [.ref a50, .ref a51, .int u_3.2.2.1, .int u_3.2.2.2.1, .int u_3.2.2.2.2])), (a50, .inl (ca 0, 400, .inl u_3.1))]) ⟨hx, hb, hml, hown, hts⟩ (c_X7_valueOf l D ca zz a2 a3 a4 a5 a6 _ v0.1.1 (0 : Int32) r_4 hc4) (cwV 1 hts (gV gw_4_18 gw_2_15 gw_2_16 gw_1_3 gw_2_17) rfl rfl rfl (by decide +kernel) ⟨(Nat.le_of_ble_eq_true rfl), (Nat.le_of_ble_eq_true rfl)⟩) hK hN hZ hA hP hD hS [2, 3] rfl rfl rfl rfl 2 rfl rfl hl.1 rfl (Nat.le_of_ble_eq_true rfl) dX11_holds_41 ⟨Nat.zero_le _, Nat.zero_le _⟩ rfl (fun H locs hP hD hS => ?_)
      obtain ⟨r_5, hc5, hf⟩ := bnd1_el hf
      refine xV_I (As := [.int x3, .int r_4]) (wx := [(a0, .inr (11, [.ref a1, .ref a21, .ref a41, .ref a42, .ref a49, .ref a52, .ref a54, .ref a55])), (a1, .inr (10, [.ref a2, .ref a7, .ref a9, .ref a10, .ref a11, .ref a14, .ref a16, .ref a19, .int v0.1.2.2.2.2.2.2.2.2.1, .int v0.1.2.2.2.2.2.2.2.2.2.1, .int v0.1.2.2.2.2.2.2.2.2.2.2.1, .int v0.1.2.2.2.2.2.2.2.2.2.2.2.1, .int v0.1.2.2.2.2.2.2.2.2.2.2.2.2.1, .int v0.1.2.2.2.2.2.2.2.2.2.2.2.2.2])), (a2, .inr (7, [.ref a3, .ref a4, .ref a5, .ref a6, .int v0.1.1.2.2.2.2])), (a3, .inl (ca 0, 9, .inl v0.1.1.1)), (a14, .inr (4, [.ref a15, .int v0.1.2.2.2.2.2.1.2.1, .int v0.1.2.2.2.2.2.1.2.2])), (a15, .inl (ca 0, 512, .inl v0.1.2.2.2.2.2.1.1)), (a49, .inr (0, [.ref a50, .ref a51, .int u_3.2.2.1, .int u_3.2.2.2.1, .int u_3.2.2.2.2])), (a50, .inl (ca 0, 400, .inl u_3.1))]) ⟨hx, hb, hml, hown, hts⟩ (c_X0_holdsBy l D ca zz a49 a50 a51 _ ((u_3.1, v0.2.2.2.2.1.2.1, u_3.2.2)) x3 r_4 r_5 hc5) (cwV 2 hts (gV gw_4_88 gw_4_89 gw_4_90 gw_1_14 gw_4_91) rfl rfl rfl (by decide +kernel) ⟨(Nat.le_of_ble_eq_true rfl), (Nat.le_of_ble_eq_true rfl)⟩) hK hN hZ hA hP hD hS [6] rfl rfl rfl rfl 6 rfl rfl hl.1 rfl (Nat.le_of_ble_eq_true rfl) dX11_holds_44 ⟨Nat.zero_le _, Nat.zero_le _⟩ rfl (fun H locs hP hD hS => ?_)
      refine xi_eq (tgt := 56) hx hb dX11_holds_47 (by decide) hf (fun hf => ?_) (fun hf => ?_)
      · obtain ⟨x_6, ex_6, hf⟩ := bnd_el hf
        refine lv_iinc (v := x_6) (lv' := [(3, .int x_6), (0, .ref a0), (2, .int x2)]) hx hb dX11_holds_56 hl (k := 2) rfl (by rw [ex_6]; rfl) (Nat.le_of_ble_eq_true rfl) rfl (fun ls hl => ?_)
        refine lv_goto (tgt := 15) hx hb dX11_holds_59 (by decide) ?_
        exact q15 ((v0.1, v0.2.1, v0.2.2.1, v0.2.2.2.1, (u_3.1, v0.2.2.2.2.1.2.1, u_3.2.2), v0.2.2.2.2.2)) x2 x_6 hf _ _ _ hP hD hS (lv_sub hl [1, 2, 0] rfl)
      · refine lv_iload_n hx hb dX11_holds_50 rfl (lv_at hl 1 rfl) ?_
        refine lv_iconst (v := 1) hx hb dX11_holds_51 rfl ?_
        refine lv_iload_n hx hb dX11_holds_52 rfl (lv_at hl 2 rfl) ?_
        refine lv_ishl hx hb dX11_holds_53 ?_
        refine lv_ior hx hb dX11_holds_54 ?_
        refine xnm hf (fun x_7 hf => ?_)
        refine lv_istore_n (lv' := [(2, .int x_7), (0, .ref a0), (3, .int x3)]) hx hb dX11_holds_55 rfl hl (Nat.le_of_ble_eq_true rfl) rfl (fun ls hl => ?_)
        obtain ⟨x_8, ex_8, hf⟩ := bnd_el hf
        refine lv_iinc (v := x_8) (lv' := [(3, .int x_8), (2, .int x_7), (0, .ref a0)]) hx hb dX11_holds_56 hl (k := 2) rfl (by rw [ex_8]; rfl) (Nat.le_of_ble_eq_true rfl) rfl (fun ls hl => ?_)
        refine lv_goto (tgt := 15) hx hb dX11_holds_59 (by decide) ?_
        exact q15 ((v0.1, v0.2.1, v0.2.2.1, v0.2.2.2.1, (u_3.1, v0.2.2.2.2.1.2.1, u_3.2.2), v0.2.2.2.2.2)) x_7 x_8 hf _ _ _ hP hD hS (lv_sub hl [2, 1, 0] rfl)
  have b15 : ∀ (n : Nat) (v0 : V11) (x2 : Int32) (x3 : Int32), fb_X11_holds_15 n v0 x2 x3 = some (r, v0') → ∀ (H : Heap) (locs : List Loc) (ls : Array Slot), va_P D vwCl [(a0, .inr (11, [.ref a1, .ref a21, .ref a41, .ref a42, .ref a49, .ref a52, .ref a54, .ref a55])), (a1, .inr (10, [.ref a2, .ref a7, .ref a9, .ref a10, .ref a11, .ref a14, .ref a16, .ref a19, .int v0.1.2.2.2.2.2.2.2.2.1, .int v0.1.2.2.2.2.2.2.2.2.2.1, .int v0.1.2.2.2.2.2.2.2.2.2.2.1, .int v0.1.2.2.2.2.2.2.2.2.2.2.2.1, .int v0.1.2.2.2.2.2.2.2.2.2.2.2.2.1, .int v0.1.2.2.2.2.2.2.2.2.2.2.2.2.2])), (a2, .inr (7, [.ref a3, .ref a4, .ref a5, .ref a6, .int v0.1.1.2.2.2.2])), (a3, .inl (ca 0, 9, .inl v0.1.1.1)), (a14, .inr (4, [.ref a15, .int v0.1.2.2.2.2.2.1.2.1, .int v0.1.2.2.2.2.2.1.2.2])), (a15, .inl (ca 0, 512, .inl v0.1.2.2.2.2.2.1.1)), (a49, .inr (0, [.ref a50, .ref a51, .int v0.2.2.2.2.1.2.2.1, .int v0.2.2.2.2.1.2.2.2.1, .int v0.2.2.2.2.1.2.2.2.2])), (a50, .inl (ca 0, 400, .inl v0.2.2.2.2.1.1))] H → va_D A [(a0, .inr (11, [.ref a1, .ref a21, .ref a41, .ref a42, .ref a49, .ref a52, .ref a54, .ref a55])), (a1, .inr (10, [.ref a2, .ref a7, .ref a9, .ref a10, .ref a11, .ref a14, .ref a16, .ref a19, .int v0.1.2.2.2.2.2.2.2.2.1, .int v0.1.2.2.2.2.2.2.2.2.2.1, .int v0.1.2.2.2.2.2.2.2.2.2.2.1, .int v0.1.2.2.2.2.2.2.2.2.2.2.2.1, .int v0.1.2.2.2.2.2.2.2.2.2.2.2.2.1, .int v0.1.2.2.2.2.2.2.2.2.2.2.2.2.2])), (a2, .inr (7, [.ref a3, .ref a4, .ref a5, .ref a6, .int v0.1.1.2.2.2.2])), (a3, .inl (ca 0, 9, .inl v0.1.1.1)), (a14, .inr (4, [.ref a15, .int v0.1.2.2.2.2.2.1.2.1, .int v0.1.2.2.2.2.2.1.2.2])), (a15, .inl (ca 0, 512, .inl v0.1.2.2.2.2.2.1.1)), (a49, .inr (0, [.ref a50, .ref a51, .int v0.2.2.2.2.1.2.2.1, .int v0.2.2.2.2.1.2.2.2.1, .int v0.2.2.2.2.1.2.2.2.2])), (a50, .inl (ca 0, 400, .inl v0.2.2.2.2.1.1))] → va_S A s.heap H locs → lv_has ls 4 [(0, .ref a0), (2, .int x2), (3, .int x3)] → W p l e ({ frames := 3, cells := 0, slots := 0, locals := 67 } : Room) s m args below meth c H locs 0 0 Q (F0 m 15 ls []) := by
    intro n
    induction n with
    | zero => intro v0 x2 x3 hf; exact no_el hf
    | succ n ih => exact bl15 (fb_X11_holds_15 n) ih
  unfold f_X11_holds at hf
  refine lv_aload_n hx hb dX11_holds_0 rfl (lv_at hl 0 rfl) ?_
  refine lv_iload_n hx hb dX11_holds_1 rfl (lv_at hl 1 rfl) ?_
  refine lv_iconst (v := 2) hx hb dX11_holds_2 rfl ?_
  obtain ⟨r_1, u_2, hc2, hf⟩ := bnd2_el hf
  refine xV_I (As := [.int p1, .int (2 : Int32)]) (wx := [(a0, .inr (11, [.ref a1, .ref a21, .ref a41, .ref a42, .ref a49, .ref a52, .ref a54, .ref a55])), (a1, .inr (10, [.ref a2, .ref a7, .ref a9, .ref a10, .ref a11, .ref a14, .ref a16, .ref a19, .int u_2.1.2.2.2.2.2.2.2.2.1, .int u_2.1.2.2.2.2.2.2.2.2.2.1, .int u_2.1.2.2.2.2.2.2.2.2.2.2.1, .int u_2.1.2.2.2.2.2.2.2.2.2.2.2.1, .int u_2.1.2.2.2.2.2.2.2.2.2.2.2.2.1, .int u_2.1.2.2.2.2.2.2.2.2.2.2.2.2.2])), (a2, .inr (7, [.ref a3, .ref a4, .ref a5, .ref a6, .int v0.1.1.2.2.2.2])), (a3, .inl (ca 0, 9, .inl v0.1.1.1)), (a14, .inr (4, [.ref a15, .int u_2.1.2.2.2.2.2.1.2.1, .int u_2.1.2.2.2.2.2.1.2.2])), (a15, .inl (ca 0, 512, .inl u_2.1.2.2.2.2.2.1.1)), (a49, .inr (0, [.ref a50, .ref a51, .int u_2.2.2.2.2.1.2.2.1, .int u_2.2.2.2.2.1.2.2.2.1, .int u_2.2.2.2.2.1.2.2.2.2])), (a50, .inl (ca 0, 400, .inl u_2.2.2.2.2.1.1))]) ⟨hx, hb, hml, hown, hts⟩ (c_X11_loadLatest l D ca zz a0 a1 a2 a7 a9 a10 a11 a14 a15 a16 a19 a21 a41 a42 a49 a50 a51 a52 a54 a55 _ v0 p1 (2 : Int32) r_1 u_2 hc2) (cwV 2 hts (gV gw_4_57 gw_4_59 gw_s_1_13 gw_1_1 gw_4_60) rfl rfl rfl (by decide +kernel) ⟨(Nat.le_of_ble_eq_true rfl), (Nat.le_of_ble_eq_true rfl)⟩) hK hN hZ hA hP hD hS [0, 1, 4, 5, 6, 7] rfl rfl rfl rfl 0 rfl rfl hl.1 rfl (Nat.le_of_ble_eq_true rfl) dX11_holds_3 ⟨Nat.zero_le _, Nat.zero_le _⟩ rfl (fun H locs hP hD hS => ?_)
  refine xi_ne (tgt := 11) hx hb dX11_holds_6 (by decide) hf (fun hf => ?_) (fun hf => ?_)
  · refine lv_iconst (v := 0) hx hb dX11_holds_11 rfl ?_
    refine lv_istore_n (lv' := [(2, .int (0 : Int32)), (0, .ref a0), (1, .int p1)]) hx hb dX11_holds_12 rfl hl (Nat.le_of_ble_eq_true rfl) rfl (fun ls hl => ?_)
    refine lv_iconst (v := 0) hx hb dX11_holds_13 rfl ?_
    refine lv_istore_n (lv' := [(3, .int (0 : Int32)), (2, .int (0 : Int32)), (0, .ref a0), (1, .int p1)]) hx hb dX11_holds_14 rfl hl (Nat.le_of_ble_eq_true rfl) rfl (fun ls hl => ?_)
    exact b15 FU (((v0.1.1, v0.1.2.1, v0.1.2.2.1, v0.1.2.2.2.1, v0.1.2.2.2.2.1, u_2.1.2.2.2.2.2.1, v0.1.2.2.2.2.2.2.1, v0.1.2.2.2.2.2.2.2.1, u_2.1.2.2.2.2.2.2.2.2), v0.2.1, v0.2.2.1, v0.2.2.2.1, (u_2.2.2.2.2.1.1, v0.2.2.2.2.1.2.1, u_2.2.2.2.2.1.2.2), v0.2.2.2.2.2.1, v0.2.2.2.2.2.2.1, v0.2.2.2.2.2.2.2)) (0 : Int32) (0 : Int32) hf _ _ _ hP hD hS (lv_sub hl [2, 1, 0] rfl)
  · refine lv_iconst (v := -1) hx hb dX11_holds_9 rfl ?_
    cases hf
    exact rt_I hx hb hr hlocks hK hP hD hS hQ rfl rfl dX11_holds_10
abbrev wq_X11_leastChance : List Cond := Cond.code yX11_leastChance cX11_leastChance 3 (some .int) :: GL
set_option maxHeartbeats 4000000 in
set_option maxRecDepth 100000 in
theorem c_X11_leastChance (l : Launch) (D : va_G) (ca : Nat → ClassId) (zz : Nat → Nat) (a0 a1 a21 a41 a42 a49 a50 a51 a52 a54 a55 : Nat) (sz : Nat) (v0 : V11) (p1 : Int32) (r : Int32) (v0' : V11) (hf : f_X11_leastChance v0 p1 = some (r, v0')) : Met l yX11_leastChance wq_X11_leastChance ({ frames := 3, cells := 0, slots := 0, locals := 67 } : Room) (PR D ca zz [.ref a0, .int p1] sz [(a0, .inr (11, [.ref a1, .ref a21, .ref a41, .ref a42, .ref a49, .ref a52, .ref a54, .ref a55])), (a49, .inr (0, [.ref a50, .ref a51, .int v0.2.2.2.2.1.2.2.1, .int v0.2.2.2.2.1.2.2.2.1, .int v0.2.2.2.2.1.2.2.2.2])), (a50, .inl (ca 0, 400, .inl v0.2.2.2.2.1.1))]) (QI D ca r [(a0, .inr (11, [.ref a1, .ref a21, .ref a41, .ref a42, .ref a49, .ref a52, .ref a54, .ref a55])), (a49, .inr (0, [.ref a50, .ref a51, .int v0'.2.2.2.2.1.2.2.1, .int v0'.2.2.2.2.1.2.2.2.1, .int v0'.2.2.2.2.1.2.2.2.2])), (a50, .inl (ca 0, 400, .inl v0'.2.2.2.2.1.1))] (va_A [(a0, .inr (11, [.ref a1, .ref a21, .ref a41, .ref a42, .ref a49, .ref a52, .ref a54, .ref a55])), (a49, .inr (0, [.ref a50, .ref a51, .int v0.2.2.2.2.1.2.2.1, .int v0.2.2.2.2.1.2.2.2.1, .int v0.2.2.2.2.1.2.2.2.2])), (a50, .inl (ca 0, 400, .inl v0.2.2.2.2.1.1))] sz)) 0 0 (va_A [(a0, .inr (11, [.ref a1, .ref a21, .ref a41, .ref a42, .ref a49, .ref a52, .ref a54, .ref a55])), (a49, .inr (0, [.ref a50, .ref a51, .int v0.2.2.2.2.1.2.2.1, .int v0.2.2.2.2.1.2.2.2.1, .int v0.2.2.2.2.1.2.2.2.2])), (a50, .inl (ca 0, 400, .inl v0.2.2.2.2.1.1))] sz) := by
  refine en (y := yX11_leastChance) (wsm := wq_X11_leastChance) (av := [.ref a0, .int p1]) (cc := cX11_leastChance) (maxL := 3) (ret := (some .int)) (Qf := fun A => QI D ca r [(a0, .inr (11, [.ref a1, .ref a21, .ref a41, .ref a42, .ref a49, .ref a52, .ref a54, .ref a55])), (a49, .inr (0, [.ref a50, .ref a51, .int v0'.2.2.2.2.1.2.2.1, .int v0'.2.2.2.2.1.2.2.2.1, .int v0'.2.2.2.2.1.2.2.2.2])), (a50, .inl (ca 0, 400, .inl v0'.2.2.2.2.1.1))] A) (by decide) rfl (Nat.le_of_ble_eq_true rfl) ?_
  intro p e s m args below meth c A Q ls hx hb hr hml hown hts hlocks hnm hA hN hZ hK hQ hP hD hS hl
  have w0 := hts _ (List.mem_cons_of_mem _ gw_2_191)
  have i11 : ∀ w ∈ u_ws RX11 TX11 8, w ∈ wq_X11_leastChance := fun w h => List.mem_cons_of_mem _ (inX11 w h)
  have bl11 : ∀ (k11 : V11 → Int32 → Int32 → Option (Int32 × V11)) (q11 : ∀ (v0 : V11) (x1 : Int32) (x2 : Int32), k11 v0 x1 x2 = some (r, v0') → ∀ (H : Heap) (locs : List Loc) (ls : Array Slot), va_P D vwCl [(a0, .inr (11, [.ref a1, .ref a21, .ref a41, .ref a42, .ref a49, .ref a52, .ref a54, .ref a55])), (a49, .inr (0, [.ref a50, .ref a51, .int v0.2.2.2.2.1.2.2.1, .int v0.2.2.2.2.1.2.2.2.1, .int v0.2.2.2.2.1.2.2.2.2])), (a50, .inl (ca 0, 400, .inl v0.2.2.2.2.1.1))] H → va_D A [(a0, .inr (11, [.ref a1, .ref a21, .ref a41, .ref a42, .ref a49, .ref a52, .ref a54, .ref a55])), (a49, .inr (0, [.ref a50, .ref a51, .int v0.2.2.2.2.1.2.2.1, .int v0.2.2.2.2.1.2.2.2.1, .int v0.2.2.2.2.1.2.2.2.2])), (a50, .inl (ca 0, 400, .inl v0.2.2.2.2.1.1))] → va_S A s.heap H locs → lv_has ls 3 [(0, .ref a0), (1, .int x1), (2, .int x2)] → W p l e ({ frames := 3, cells := 0, slots := 0, locals := 67 } : Room) s m args below meth c H locs 0 0 Q (F0 m 11 ls [])) (v0 : V11) (x1 : Int32) (x2 : Int32), fl_X11_leastChance_11 k11 v0 x1 x2 = some (r, v0') → ∀ (H : Heap) (locs : List Loc) (ls : Array Slot), va_P D vwCl [(a0, .inr (11, [.ref a1, .ref a21, .ref a41, .ref a42, .ref a49, .ref a52, .ref a54, .ref a55])), (a49, .inr (0, [.ref a50, .ref a51, .int v0.2.2.2.2.1.2.2.1, .int v0.2.2.2.2.1.2.2.2.1, .int v0.2.2.2.2.1.2.2.2.2])), (a50, .inl (ca 0, 400, .inl v0.2.2.2.2.1.1))] H → va_D A [(a0, .inr (11, [.ref a1, .ref a21, .ref a41, .ref a42, .ref a49, .ref a52, .ref a54, .ref a55])), (a49, .inr (0, [.ref a50, .ref a51, .int v0.2.2.2.2.1.2.2.1, .int v0.2.2.2.2.1.2.2.2.1, .int v0.2.2.2.2.1.2.2.2.2])), (a50, .inl (ca 0, 400, .inl v0.2.2.2.2.1.1))] → va_S A s.heap H locs → lv_has ls 3 [(0, .ref a0), (1, .int x1), (2, .int x2)] → W p l e ({ frames := 3, cells := 0, slots := 0, locals := 67 } : Room) s m args below meth c H locs 0 0 Q (F0 m 11 ls []) := by
    intro k11 q11 v0 x1 x2 hf H locs ls hP hD hS hl
    unfold fl_X11_leastChance_11 at hf
    refine lv_iload_n hx hb dX11_leastChance_11 rfl (lv_at hl 2 rfl) ?_
    refine lv_bipush (v := 16) hx hb dX11_leastChance_12 rfl ?_
    refine xc_ge (tgt := 37) hx hb dX11_leastChance_14 (by decide) hf (fun hf => ?_) (fun hf => ?_)
    · refine lv_bipush (v := 16) hx hb dX11_leastChance_37 rfl ?_
      cases hf
      exact rt_I hx hb hr hlocks hK hP hD hS hQ rfl rfl dX11_leastChance_39
    · refine lv_aload_n hx hb dX11_leastChance_17 rfl (lv_at hl 0 rfl) ?_
      refine va_get (C := RX11) (T := TX11) (N := 8) hx hb hts i11 hown hK hP 0 rfl rfl 4 (Nat.le_of_ble_eq_true rfl) w0 (fun _ h9 => h9) rfl dX11_leastChance_18 ?_
      refine lv_iload_n hx hb dX11_leastChance_21 rfl (lv_at hl 1 rfl) ?_
      refine lv_iload_n hx hb dX11_leastChance_22 rfl (lv_at hl 2 rfl) ?_
      obtain ⟨r_2, hc2, hf⟩ := bnd1_el hf
      refine xV_I (As := [.int x1, .int x2]) (wx := [(a0, .inr (11, [.ref a1, .ref a21, .ref a41, .ref a42, .ref a49, .ref a52, .ref a54, .ref a55])), (a49, .inr (0, [.ref a50, .ref a51, .int v0.2.2.2.2.1.2.2.1, .int v0.2.2.2.2.1.2.2.2.1, .int v0.2.2.2.2.1.2.2.2.2])), (a50, .inl (ca 0, 400, .inl v0.2.2.2.2.1.1))]) ⟨hx, hb, hml, hown, hts⟩ (c_X0_holdsBy l D ca zz a49 a50 a51 _ v0.2.2.2.2.1 x1 x2 r_2 hc2) (cwV 2 hts (gV gw_4_88 gw_4_89 gw_4_90 gw_1_14 gw_4_91) rfl rfl rfl (by decide +kernel) ⟨(Nat.le_of_ble_eq_true rfl), (Nat.le_of_ble_eq_true rfl)⟩) hK hN hZ hA hP hD hS [1] rfl rfl rfl rfl 1 rfl rfl hl.1 rfl (Nat.le_of_ble_eq_true rfl) dX11_leastChance_23 ⟨Nat.zero_le _, Nat.zero_le _⟩ rfl (fun H locs hP hD hS => ?_)
      refine xi_eq (tgt := 31) hx hb dX11_leastChance_26 (by decide) hf (fun hf => ?_) (fun hf => ?_)
      · obtain ⟨x_3, ex_3, hf⟩ := bnd_el hf
        refine lv_iinc (v := x_3) (lv' := [(2, .int x_3), (0, .ref a0), (1, .int x1)]) hx hb dX11_leastChance_31 hl (k := 2) rfl (by rw [ex_3]; rfl) (Nat.le_of_ble_eq_true rfl) rfl (fun ls hl => ?_)
        refine lv_goto (tgt := 11) hx hb dX11_leastChance_34 (by decide) ?_
        exact q11 v0 x1 x_3 hf _ _ _ hP hD hS (lv_sub hl [1, 2, 0] rfl)
      · refine lv_iload_n hx hb dX11_leastChance_29 rfl (lv_at hl 2 rfl) ?_
        cases hf
        exact rt_I hx hb hr hlocks hK hP hD hS hQ rfl rfl dX11_leastChance_30
  have b11 : ∀ (n : Nat) (v0 : V11) (x1 : Int32) (x2 : Int32), fb_X11_leastChance_11 n v0 x1 x2 = some (r, v0') → ∀ (H : Heap) (locs : List Loc) (ls : Array Slot), va_P D vwCl [(a0, .inr (11, [.ref a1, .ref a21, .ref a41, .ref a42, .ref a49, .ref a52, .ref a54, .ref a55])), (a49, .inr (0, [.ref a50, .ref a51, .int v0.2.2.2.2.1.2.2.1, .int v0.2.2.2.2.1.2.2.2.1, .int v0.2.2.2.2.1.2.2.2.2])), (a50, .inl (ca 0, 400, .inl v0.2.2.2.2.1.1))] H → va_D A [(a0, .inr (11, [.ref a1, .ref a21, .ref a41, .ref a42, .ref a49, .ref a52, .ref a54, .ref a55])), (a49, .inr (0, [.ref a50, .ref a51, .int v0.2.2.2.2.1.2.2.1, .int v0.2.2.2.2.1.2.2.2.1, .int v0.2.2.2.2.1.2.2.2.2])), (a50, .inl (ca 0, 400, .inl v0.2.2.2.2.1.1))] → va_S A s.heap H locs → lv_has ls 3 [(0, .ref a0), (1, .int x1), (2, .int x2)] → W p l e ({ frames := 3, cells := 0, slots := 0, locals := 67 } : Room) s m args below meth c H locs 0 0 Q (F0 m 11 ls []) := by
    intro n
    induction n with
    | zero => intro v0 x1 x2 hf; exact no_el hf
    | succ n ih => exact bl11 (fb_X11_leastChance_11 n) ih
  unfold f_X11_leastChance at hf
  refine lv_aload_n hx hb dX11_leastChance_0 rfl (lv_at hl 0 rfl) ?_
  refine va_get (C := RX11) (T := TX11) (N := 8) hx hb hts i11 hown hK hP 0 rfl rfl 4 (Nat.le_of_ble_eq_true rfl) w0 (fun _ h9 => h9) rfl dX11_leastChance_1 ?_
  refine lv_iload_n hx hb dX11_leastChance_4 rfl (lv_at hl 1 rfl) ?_
  obtain ⟨u_1, hc1, hf⟩ := bnd1_el hf
  refine xV_V (As := [.int p1]) (wx := [(a0, .inr (11, [.ref a1, .ref a21, .ref a41, .ref a42, .ref a49, .ref a52, .ref a54, .ref a55])), (a49, .inr (0, [.ref a50, .ref a51, .int u_1.2.2.1, .int u_1.2.2.2.1, .int u_1.2.2.2.2])), (a50, .inl (ca 0, 400, .inl u_1.1))]) ⟨hx, hb, hml, hown, hts⟩ (c_X0_measure l D ca zz a49 a50 a51 _ v0.2.2.2.2.1 p1 u_1 hc1) (cwV 1 hts (gV gw_4_68 gw_4_69 gw_4_70 gw_1_14 gw_4_71) rfl rfl rfl (by decide +kernel) ⟨(Nat.le_of_ble_eq_true rfl), (Nat.le_of_ble_eq_true rfl)⟩) hK hN hZ hA hP hD hS [1, 2] rfl rfl rfl rfl 1 rfl rfl hl.1 rfl (Nat.le_of_ble_eq_true rfl) dX11_leastChance_5 ⟨Nat.zero_le _, Nat.zero_le _⟩ rfl (fun H locs hP hD hS => ?_)
  refine lv_bipush (v := 8) hx hb dX11_leastChance_8 rfl ?_
  refine lv_istore_n (lv' := [(2, .int (8 : Int32)), (0, .ref a0), (1, .int p1)]) hx hb dX11_leastChance_10 rfl hl (Nat.le_of_ble_eq_true rfl) rfl (fun ls hl => ?_)
  exact b11 FU ((v0.1, v0.2.1, v0.2.2.1, v0.2.2.2.1, (u_1.1, v0.2.2.2.2.1.2.1, u_1.2.2), v0.2.2.2.2.2)) p1 (8 : Int32) hf _ _ _ hP hD hS (lv_sub hl [1, 2, 0] rfl)
abbrev wq_X11_claim : List Cond := Cond.code yX11_claim cX11_claim 2 (some .int) :: GL
set_option maxHeartbeats 4000000 in
set_option maxRecDepth 100000 in
theorem c_X11_claim (l : Launch) (D : va_G) (ca : Nat → ClassId) (zz : Nat → Nat) (a0 a1 a2 a7 a9 a10 a11 a14 a15 a16 a19 a21 a41 a42 a49 a50 a51 a52 a54 a55 : Nat) (sz : Nat) (v0 : V11) (p1 : Int32) (r : Int32) (v0' : V11) (hf : f_X11_claim v0 p1 = some (r, v0')) : Met l yX11_claim wq_X11_claim ({ frames := 4, cells := 0, slots := 0, locals := 89 } : Room) (PR D ca zz [.ref a0, .int p1] sz [(a0, .inr (11, [.ref a1, .ref a21, .ref a41, .ref a42, .ref a49, .ref a52, .ref a54, .ref a55])), (a1, .inr (10, [.ref a2, .ref a7, .ref a9, .ref a10, .ref a11, .ref a14, .ref a16, .ref a19, .int v0.1.2.2.2.2.2.2.2.2.1, .int v0.1.2.2.2.2.2.2.2.2.2.1, .int v0.1.2.2.2.2.2.2.2.2.2.2.1, .int v0.1.2.2.2.2.2.2.2.2.2.2.2.1, .int v0.1.2.2.2.2.2.2.2.2.2.2.2.2.1, .int v0.1.2.2.2.2.2.2.2.2.2.2.2.2.2])), (a14, .inr (4, [.ref a15, .int v0.1.2.2.2.2.2.1.2.1, .int v0.1.2.2.2.2.2.1.2.2])), (a15, .inl (ca 0, 512, .inl v0.1.2.2.2.2.2.1.1)), (a49, .inr (0, [.ref a50, .ref a51, .int v0.2.2.2.2.1.2.2.1, .int v0.2.2.2.2.1.2.2.2.1, .int v0.2.2.2.2.1.2.2.2.2])), (a50, .inl (ca 0, 400, .inl v0.2.2.2.2.1.1))]) (QI D ca r [(a0, .inr (11, [.ref a1, .ref a21, .ref a41, .ref a42, .ref a49, .ref a52, .ref a54, .ref a55])), (a1, .inr (10, [.ref a2, .ref a7, .ref a9, .ref a10, .ref a11, .ref a14, .ref a16, .ref a19, .int v0'.1.2.2.2.2.2.2.2.2.1, .int v0'.1.2.2.2.2.2.2.2.2.2.1, .int v0'.1.2.2.2.2.2.2.2.2.2.2.1, .int v0'.1.2.2.2.2.2.2.2.2.2.2.2.1, .int v0'.1.2.2.2.2.2.2.2.2.2.2.2.2.1, .int v0'.1.2.2.2.2.2.2.2.2.2.2.2.2.2])), (a14, .inr (4, [.ref a15, .int v0'.1.2.2.2.2.2.1.2.1, .int v0'.1.2.2.2.2.2.1.2.2])), (a15, .inl (ca 0, 512, .inl v0'.1.2.2.2.2.2.1.1)), (a49, .inr (0, [.ref a50, .ref a51, .int v0'.2.2.2.2.1.2.2.1, .int v0'.2.2.2.2.1.2.2.2.1, .int v0'.2.2.2.2.1.2.2.2.2])), (a50, .inl (ca 0, 400, .inl v0'.2.2.2.2.1.1))] (va_A [(a0, .inr (11, [.ref a1, .ref a21, .ref a41, .ref a42, .ref a49, .ref a52, .ref a54, .ref a55])), (a1, .inr (10, [.ref a2, .ref a7, .ref a9, .ref a10, .ref a11, .ref a14, .ref a16, .ref a19, .int v0.1.2.2.2.2.2.2.2.2.1, .int v0.1.2.2.2.2.2.2.2.2.2.1, .int v0.1.2.2.2.2.2.2.2.2.2.2.1, .int v0.1.2.2.2.2.2.2.2.2.2.2.2.1, .int v0.1.2.2.2.2.2.2.2.2.2.2.2.2.1, .int v0.1.2.2.2.2.2.2.2.2.2.2.2.2.2])), (a14, .inr (4, [.ref a15, .int v0.1.2.2.2.2.2.1.2.1, .int v0.1.2.2.2.2.2.1.2.2])), (a15, .inl (ca 0, 512, .inl v0.1.2.2.2.2.2.1.1)), (a49, .inr (0, [.ref a50, .ref a51, .int v0.2.2.2.2.1.2.2.1, .int v0.2.2.2.2.1.2.2.2.1, .int v0.2.2.2.2.1.2.2.2.2])), (a50, .inl (ca 0, 400, .inl v0.2.2.2.2.1.1))] sz)) 0 0 (va_A [(a0, .inr (11, [.ref a1, .ref a21, .ref a41, .ref a42, .ref a49, .ref a52, .ref a54, .ref a55])), (a1, .inr (10, [.ref a2, .ref a7, .ref a9, .ref a10, .ref a11, .ref a14, .ref a16, .ref a19, .int v0.1.2.2.2.2.2.2.2.2.1, .int v0.1.2.2.2.2.2.2.2.2.2.1, .int v0.1.2.2.2.2.2.2.2.2.2.2.1, .int v0.1.2.2.2.2.2.2.2.2.2.2.2.1, .int v0.1.2.2.2.2.2.2.2.2.2.2.2.2.1, .int v0.1.2.2.2.2.2.2.2.2.2.2.2.2.2])), (a14, .inr (4, [.ref a15, .int v0.1.2.2.2.2.2.1.2.1, .int v0.1.2.2.2.2.2.1.2.2])), (a15, .inl (ca 0, 512, .inl v0.1.2.2.2.2.2.1.1)), (a49, .inr (0, [.ref a50, .ref a51, .int v0.2.2.2.2.1.2.2.1, .int v0.2.2.2.2.1.2.2.2.1, .int v0.2.2.2.2.1.2.2.2.2])), (a50, .inl (ca 0, 400, .inl v0.2.2.2.2.1.1))] sz) := by
  refine en (y := yX11_claim) (wsm := wq_X11_claim) (av := [.ref a0, .int p1]) (cc := cX11_claim) (maxL := 2) (ret := (some .int)) (Qf := fun A => QI D ca r [(a0, .inr (11, [.ref a1, .ref a21, .ref a41, .ref a42, .ref a49, .ref a52, .ref a54, .ref a55])), (a1, .inr (10, [.ref a2, .ref a7, .ref a9, .ref a10, .ref a11, .ref a14, .ref a16, .ref a19, .int v0'.1.2.2.2.2.2.2.2.2.1, .int v0'.1.2.2.2.2.2.2.2.2.2.1, .int v0'.1.2.2.2.2.2.2.2.2.2.2.1, .int v0'.1.2.2.2.2.2.2.2.2.2.2.2.1, .int v0'.1.2.2.2.2.2.2.2.2.2.2.2.2.1, .int v0'.1.2.2.2.2.2.2.2.2.2.2.2.2.2])), (a14, .inr (4, [.ref a15, .int v0'.1.2.2.2.2.2.1.2.1, .int v0'.1.2.2.2.2.2.1.2.2])), (a15, .inl (ca 0, 512, .inl v0'.1.2.2.2.2.2.1.1)), (a49, .inr (0, [.ref a50, .ref a51, .int v0'.2.2.2.2.1.2.2.1, .int v0'.2.2.2.2.1.2.2.2.1, .int v0'.2.2.2.2.1.2.2.2.2])), (a50, .inl (ca 0, 400, .inl v0'.2.2.2.2.1.1))] A) (by decide) rfl (Nat.le_of_ble_eq_true rfl) ?_
  intro p e s m args below meth c A Q ls hx hb hr hml hown hts hlocks hnm hA hN hZ hK hQ hP hD hS hl
  have w0 := hts _ (List.mem_cons_of_mem _ gw_4_100)
  have w1 := hts _ (List.mem_cons_of_mem _ gw_2_33)
  have w2 := hts _ (List.mem_cons_of_mem _ gw_1_11)
  have w3 := hts _ (List.mem_cons_of_mem _ gw_2_34)
  unfold f_X11_claim at hf
  refine lv_aload_n hx hb dX11_claim_0 rfl (lv_at hl 0 rfl) ?_
  refine lv_iload_n hx hb dX11_claim_1 rfl (lv_at hl 1 rfl) ?_
  refine lv_iconst (v := 2) hx hb dX11_claim_2 rfl ?_
  obtain ⟨r_1, u_2, hc2, hf⟩ := bnd2_el hf
  refine xV_I (As := [.int p1, .int (2 : Int32)]) (wx := [(a0, .inr (11, [.ref a1, .ref a21, .ref a41, .ref a42, .ref a49, .ref a52, .ref a54, .ref a55])), (a1, .inr (10, [.ref a2, .ref a7, .ref a9, .ref a10, .ref a11, .ref a14, .ref a16, .ref a19, .int u_2.1.2.2.2.2.2.2.2.2.1, .int u_2.1.2.2.2.2.2.2.2.2.2.1, .int u_2.1.2.2.2.2.2.2.2.2.2.2.1, .int u_2.1.2.2.2.2.2.2.2.2.2.2.2.1, .int u_2.1.2.2.2.2.2.2.2.2.2.2.2.2.1, .int u_2.1.2.2.2.2.2.2.2.2.2.2.2.2.2])), (a14, .inr (4, [.ref a15, .int u_2.1.2.2.2.2.2.1.2.1, .int u_2.1.2.2.2.2.2.1.2.2])), (a15, .inl (ca 0, 512, .inl u_2.1.2.2.2.2.2.1.1)), (a49, .inr (0, [.ref a50, .ref a51, .int u_2.2.2.2.2.1.2.2.1, .int u_2.2.2.2.2.1.2.2.2.1, .int u_2.2.2.2.2.1.2.2.2.2])), (a50, .inl (ca 0, 400, .inl u_2.2.2.2.2.1.1))]) ⟨hx, hb, hml, hown, hts⟩ (c_X11_loadLatest l D ca zz a0 a1 a2 a7 a9 a10 a11 a14 a15 a16 a19 a21 a41 a42 a49 a50 a51 a52 a54 a55 _ v0 p1 (2 : Int32) r_1 u_2 hc2) (cwV 2 hts (gV gw_4_57 gw_4_59 gw_s_1_13 gw_1_1 gw_4_60) rfl rfl rfl (by decide +kernel) ⟨(Nat.le_of_ble_eq_true rfl), (Nat.le_of_ble_eq_true rfl)⟩) hK hN hZ hA hP hD hS [0, 1, 2, 3, 4, 5] rfl rfl rfl rfl 0 rfl rfl hl.1 rfl (Nat.le_of_ble_eq_true rfl) dX11_claim_3 ⟨Nat.zero_le _, Nat.zero_le _⟩ rfl (fun H locs hP hD hS => ?_)
  refine xi_ne (tgt := 11) hx hb dX11_claim_6 (by decide) hf (fun hf => ?_) (fun hf => ?_)
  · refine lv_aload_n hx hb dX11_claim_11 rfl (lv_at hl 0 rfl) ?_
    refine lv_iconst (v := 0) hx hb dX11_claim_12 rfl ?_
    obtain ⟨r_3, u_4, hc4, hf⟩ := bnd2_el hf
    refine xV_I (As := [.int (0 : Int32)]) (wx := [(a0, .inr (11, [.ref a1, .ref a21, .ref a41, .ref a42, .ref a49, .ref a52, .ref a54, .ref a55])), (a1, .inr (10, [.ref a2, .ref a7, .ref a9, .ref a10, .ref a11, .ref a14, .ref a16, .ref a19, .int u_2.1.2.2.2.2.2.2.2.2.1, .int u_2.1.2.2.2.2.2.2.2.2.2.1, .int u_2.1.2.2.2.2.2.2.2.2.2.2.1, .int u_2.1.2.2.2.2.2.2.2.2.2.2.2.1, .int u_2.1.2.2.2.2.2.2.2.2.2.2.2.2.1, .int u_2.1.2.2.2.2.2.2.2.2.2.2.2.2.2])), (a14, .inr (4, [.ref a15, .int u_2.1.2.2.2.2.2.1.2.1, .int u_2.1.2.2.2.2.2.1.2.2])), (a15, .inl (ca 0, 512, .inl u_2.1.2.2.2.2.2.1.1)), (a49, .inr (0, [.ref a50, .ref a51, .int u_4.2.2.2.2.1.2.2.1, .int u_4.2.2.2.2.1.2.2.2.1, .int u_4.2.2.2.2.1.2.2.2.2])), (a50, .inl (ca 0, 400, .inl u_4.2.2.2.2.1.1))]) ⟨hx, hb, hml, hown, hts⟩ (c_X11_leastChance l D ca zz a0 a1 a21 a41 a42 a49 a50 a51 a52 a54 a55 _ (((v0.1.1, v0.1.2.1, v0.1.2.2.1, v0.1.2.2.2.1, v0.1.2.2.2.2.1, u_2.1.2.2.2.2.2.1, v0.1.2.2.2.2.2.2.1, v0.1.2.2.2.2.2.2.2.1, u_2.1.2.2.2.2.2.2.2.2), v0.2.1, v0.2.2.1, v0.2.2.2.1, (u_2.2.2.2.2.1.1, v0.2.2.2.2.1.2.1, u_2.2.2.2.2.1.2.2), v0.2.2.2.2.2.1, v0.2.2.2.2.2.2.1, v0.2.2.2.2.2.2.2)) (0 : Int32) r_3 u_4 hc4) (cwV 1 hts (gV gw_4_96 gw_4_98 gw_s_2_1 gw_1_1 gw_4_99) rfl rfl rfl (by decide +kernel) ⟨(Nat.le_of_ble_eq_true rfl), (Nat.le_of_ble_eq_true rfl)⟩) hK hN hZ hA hP hD hS [0, 4, 5] rfl rfl rfl rfl 0 rfl rfl hl.1 rfl (Nat.le_of_ble_eq_true rfl) dX11_claim_13 ⟨Nat.zero_le _, Nat.zero_le _⟩ rfl (fun H locs hP hD hS => ?_)
    refine lv_aload_n hx hb dX11_claim_16 rfl (lv_at hl 0 rfl) ?_
    refine lv_iconst (v := 2) hx hb dX11_claim_17 rfl ?_
    obtain ⟨r_5, u_6, hc6, hf⟩ := bnd2_el hf
    refine xV_I (As := [.int (2 : Int32)]) (wx := [(a0, .inr (11, [.ref a1, .ref a21, .ref a41, .ref a42, .ref a49, .ref a52, .ref a54, .ref a55])), (a1, .inr (10, [.ref a2, .ref a7, .ref a9, .ref a10, .ref a11, .ref a14, .ref a16, .ref a19, .int u_2.1.2.2.2.2.2.2.2.2.1, .int u_2.1.2.2.2.2.2.2.2.2.2.1, .int u_2.1.2.2.2.2.2.2.2.2.2.2.1, .int u_2.1.2.2.2.2.2.2.2.2.2.2.2.1, .int u_2.1.2.2.2.2.2.2.2.2.2.2.2.2.1, .int u_2.1.2.2.2.2.2.2.2.2.2.2.2.2.2])), (a14, .inr (4, [.ref a15, .int u_2.1.2.2.2.2.2.1.2.1, .int u_2.1.2.2.2.2.2.1.2.2])), (a15, .inl (ca 0, 512, .inl u_2.1.2.2.2.2.2.1.1)), (a49, .inr (0, [.ref a50, .ref a51, .int u_6.2.2.2.2.1.2.2.1, .int u_6.2.2.2.2.1.2.2.2.1, .int u_6.2.2.2.2.1.2.2.2.2])), (a50, .inl (ca 0, 400, .inl u_6.2.2.2.2.1.1))]) ⟨hx, hb, hml, hown, hts⟩ (c_X11_leastChance l D ca zz a0 a1 a21 a41 a42 a49 a50 a51 a52 a54 a55 _ (((v0.1.1, v0.1.2.1, v0.1.2.2.1, v0.1.2.2.2.1, v0.1.2.2.2.2.1, u_2.1.2.2.2.2.2.1, v0.1.2.2.2.2.2.2.1, v0.1.2.2.2.2.2.2.2.1, u_2.1.2.2.2.2.2.2.2.2), v0.2.1, v0.2.2.1, v0.2.2.2.1, (u_4.2.2.2.2.1.1, v0.2.2.2.2.1.2.1, u_4.2.2.2.2.1.2.2), v0.2.2.2.2.2.1, v0.2.2.2.2.2.2.1, v0.2.2.2.2.2.2.2)) (2 : Int32) r_5 u_6 hc6) (cwV 1 hts (gV gw_4_96 gw_4_98 gw_s_2_1 gw_1_1 gw_4_99) rfl rfl rfl (by decide +kernel) ⟨(Nat.le_of_ble_eq_true rfl), (Nat.le_of_ble_eq_true rfl)⟩) hK hN hZ hA hP hD hS [0, 4, 5] rfl rfl rfl rfl 0 rfl rfl hl.1 rfl (Nat.le_of_ble_eq_true rfl) dX11_claim_18 ⟨Nat.zero_le _, Nat.zero_le _⟩ rfl (fun H locs hP hD hS => ?_)
    refine va_mmax hx hb (hml.trans hl.1.symm) hown w0 w1 w2 w3 (Nat.le_of_ble_eq_true rfl) (Nat.le_of_ble_eq_true rfl) (Nat.zero_le _) (Nat.zero_le _) dX11_claim_21 ?_
    refine xnm hf (fun x_7 hf => ?_)
    cases hf
    exact rt_I hx hb hr hlocks hK hP hD hS hQ rfl rfl dX11_claim_24
  · refine lv_iconst (v := -1) hx hb dX11_claim_9 rfl ?_
    cases hf
    exact rt_I hx hb hr hlocks hK hP hD hS hQ rfl rfl dX11_claim_10
abbrev wq_X11_loadTuples : List Cond := Cond.code yX11_loadTuples cX11_loadTuples 3 (some .boolean) :: GL
set_option maxHeartbeats 4000000 in
set_option maxRecDepth 100000 in
theorem c_X11_loadTuples (l : Launch) (D : va_G) (ca : Nat → ClassId) (zz : Nat → Nat) (a0 a1 a2 a7 a9 a10 a11 a14 a15 a16 a19 a21 a41 a42 a49 a50 a51 a52 a54 a55 : Nat) (sz : Nat) (v0 : V11) (p1 : Int32) (p2 : Int32) (r : Int32) (v0' : V11) (hf : f_X11_loadTuples v0 p1 p2 = some (r, v0')) : Met l yX11_loadTuples wq_X11_loadTuples ({ frames := 3, cells := 0, slots := 0, locals := 67 } : Room) (PR D ca zz [.ref a0, .int p1, .int p2] sz [(a0, .inr (11, [.ref a1, .ref a21, .ref a41, .ref a42, .ref a49, .ref a52, .ref a54, .ref a55])), (a1, .inr (10, [.ref a2, .ref a7, .ref a9, .ref a10, .ref a11, .ref a14, .ref a16, .ref a19, .int v0.1.2.2.2.2.2.2.2.2.1, .int v0.1.2.2.2.2.2.2.2.2.2.1, .int v0.1.2.2.2.2.2.2.2.2.2.2.1, .int v0.1.2.2.2.2.2.2.2.2.2.2.2.1, .int v0.1.2.2.2.2.2.2.2.2.2.2.2.2.1, .int v0.1.2.2.2.2.2.2.2.2.2.2.2.2.2])), (a14, .inr (4, [.ref a15, .int v0.1.2.2.2.2.2.1.2.1, .int v0.1.2.2.2.2.2.1.2.2])), (a15, .inl (ca 0, 512, .inl v0.1.2.2.2.2.2.1.1)), (a49, .inr (0, [.ref a50, .ref a51, .int v0.2.2.2.2.1.2.2.1, .int v0.2.2.2.2.1.2.2.2.1, .int v0.2.2.2.2.1.2.2.2.2])), (a50, .inl (ca 0, 400, .inl v0.2.2.2.2.1.1))]) (QI D ca r [(a0, .inr (11, [.ref a1, .ref a21, .ref a41, .ref a42, .ref a49, .ref a52, .ref a54, .ref a55])), (a1, .inr (10, [.ref a2, .ref a7, .ref a9, .ref a10, .ref a11, .ref a14, .ref a16, .ref a19, .int v0'.1.2.2.2.2.2.2.2.2.1, .int v0'.1.2.2.2.2.2.2.2.2.2.1, .int v0'.1.2.2.2.2.2.2.2.2.2.2.1, .int v0'.1.2.2.2.2.2.2.2.2.2.2.2.1, .int v0'.1.2.2.2.2.2.2.2.2.2.2.2.2.1, .int v0'.1.2.2.2.2.2.2.2.2.2.2.2.2.2])), (a14, .inr (4, [.ref a15, .int v0'.1.2.2.2.2.2.1.2.1, .int v0'.1.2.2.2.2.2.1.2.2])), (a15, .inl (ca 0, 512, .inl v0'.1.2.2.2.2.2.1.1)), (a49, .inr (0, [.ref a50, .ref a51, .int v0'.2.2.2.2.1.2.2.1, .int v0'.2.2.2.2.1.2.2.2.1, .int v0'.2.2.2.2.1.2.2.2.2])), (a50, .inl (ca 0, 400, .inl v0'.2.2.2.2.1.1))] (va_A [(a0, .inr (11, [.ref a1, .ref a21, .ref a41, .ref a42, .ref a49, .ref a52, .ref a54, .ref a55])), (a1, .inr (10, [.ref a2, .ref a7, .ref a9, .ref a10, .ref a11, .ref a14, .ref a16, .ref a19, .int v0.1.2.2.2.2.2.2.2.2.1, .int v0.1.2.2.2.2.2.2.2.2.2.1, .int v0.1.2.2.2.2.2.2.2.2.2.2.1, .int v0.1.2.2.2.2.2.2.2.2.2.2.2.1, .int v0.1.2.2.2.2.2.2.2.2.2.2.2.2.1, .int v0.1.2.2.2.2.2.2.2.2.2.2.2.2.2])), (a14, .inr (4, [.ref a15, .int v0.1.2.2.2.2.2.1.2.1, .int v0.1.2.2.2.2.2.1.2.2])), (a15, .inl (ca 0, 512, .inl v0.1.2.2.2.2.2.1.1)), (a49, .inr (0, [.ref a50, .ref a51, .int v0.2.2.2.2.1.2.2.1, .int v0.2.2.2.2.1.2.2.2.1, .int v0.2.2.2.2.1.2.2.2.2])), (a50, .inl (ca 0, 400, .inl v0.2.2.2.2.1.1))] sz)) 0 0 (va_A [(a0, .inr (11, [.ref a1, .ref a21, .ref a41, .ref a42, .ref a49, .ref a52, .ref a54, .ref a55])), (a1, .inr (10, [.ref a2, .ref a7, .ref a9, .ref a10, .ref a11, .ref a14, .ref a16, .ref a19, .int v0.1.2.2.2.2.2.2.2.2.1, .int v0.1.2.2.2.2.2.2.2.2.2.1, .int v0.1.2.2.2.2.2.2.2.2.2.2.1, .int v0.1.2.2.2.2.2.2.2.2.2.2.2.1, .int v0.1.2.2.2.2.2.2.2.2.2.2.2.2.1, .int v0.1.2.2.2.2.2.2.2.2.2.2.2.2.2])), (a14, .inr (4, [.ref a15, .int v0.1.2.2.2.2.2.1.2.1, .int v0.1.2.2.2.2.2.1.2.2])), (a15, .inl (ca 0, 512, .inl v0.1.2.2.2.2.2.1.1)), (a49, .inr (0, [.ref a50, .ref a51, .int v0.2.2.2.2.1.2.2.1, .int v0.2.2.2.2.1.2.2.2.1, .int v0.2.2.2.2.1.2.2.2.2])), (a50, .inl (ca 0, 400, .inl v0.2.2.2.2.1.1))] sz) := by
  refine en (y := yX11_loadTuples) (wsm := wq_X11_loadTuples) (av := [.ref a0, .int p1, .int p2]) (cc := cX11_loadTuples) (maxL := 3) (ret := (some .boolean)) (Qf := fun A => QI D ca r [(a0, .inr (11, [.ref a1, .ref a21, .ref a41, .ref a42, .ref a49, .ref a52, .ref a54, .ref a55])), (a1, .inr (10, [.ref a2, .ref a7, .ref a9, .ref a10, .ref a11, .ref a14, .ref a16, .ref a19, .int v0'.1.2.2.2.2.2.2.2.2.1, .int v0'.1.2.2.2.2.2.2.2.2.2.1, .int v0'.1.2.2.2.2.2.2.2.2.2.2.1, .int v0'.1.2.2.2.2.2.2.2.2.2.2.2.1, .int v0'.1.2.2.2.2.2.2.2.2.2.2.2.2.1, .int v0'.1.2.2.2.2.2.2.2.2.2.2.2.2.2])), (a14, .inr (4, [.ref a15, .int v0'.1.2.2.2.2.2.1.2.1, .int v0'.1.2.2.2.2.2.1.2.2])), (a15, .inl (ca 0, 512, .inl v0'.1.2.2.2.2.2.1.1)), (a49, .inr (0, [.ref a50, .ref a51, .int v0'.2.2.2.2.1.2.2.1, .int v0'.2.2.2.2.1.2.2.2.1, .int v0'.2.2.2.2.1.2.2.2.2])), (a50, .inl (ca 0, 400, .inl v0'.2.2.2.2.1.1))] A) (by decide) rfl (Nat.le_of_ble_eq_true rfl) ?_
  intro p e s m args below meth c A Q ls hx hb hr hml hown hts hlocks hnm hA hN hZ hK hQ hP hD hS hl
  unfold f_X11_loadTuples at hf
  refine lv_iload_n hx hb dX11_loadTuples_0 rfl (lv_at hl 2 rfl) ?_
  refine lv_iconst (v := 1) hx hb dX11_loadTuples_1 rfl ?_
  refine xc_lt (tgt := 29) hx hb dX11_loadTuples_2 (by decide) hf (fun hf => ?_) (fun hf => ?_)
  · refine lv_iconst (v := 0) hx hb dX11_loadTuples_29 rfl ?_
    cases hf
    exact rt_Z hx hb hr hlocks hK hP hD hS hQ (Or.inl rfl) rfl rfl dX11_loadTuples_30
  · refine lv_iload_n hx hb dX11_loadTuples_5 rfl (lv_at hl 2 rfl) ?_
    refine lv_bipush (v := 8) hx hb dX11_loadTuples_6 rfl ?_
    refine xc_gt (tgt := 29) hx hb dX11_loadTuples_8 (by decide) hf (fun hf => ?_) (fun hf => ?_)
    · refine lv_iconst (v := 0) hx hb dX11_loadTuples_29 rfl ?_
      cases hf
      exact rt_Z hx hb hr hlocks hK hP hD hS hQ (Or.inl rfl) rfl rfl dX11_loadTuples_30
    · refine lv_iload_n hx hb dX11_loadTuples_11 rfl (lv_at hl 2 rfl) ?_
      refine lv_iload_n hx hb dX11_loadTuples_12 rfl (lv_at hl 1 rfl) ?_
      refine xc_gt (tgt := 29) hx hb dX11_loadTuples_13 (by decide) hf (fun hf => ?_) (fun hf => ?_)
      · refine lv_iconst (v := 0) hx hb dX11_loadTuples_29 rfl ?_
        cases hf
        exact rt_Z hx hb hr hlocks hK hP hD hS hQ (Or.inl rfl) rfl rfl dX11_loadTuples_30
      · refine lv_aload_n hx hb dX11_loadTuples_16 rfl (lv_at hl 0 rfl) ?_
        refine lv_iload_n hx hb dX11_loadTuples_17 rfl (lv_at hl 1 rfl) ?_
        refine lv_iconst (v := 1) hx hb dX11_loadTuples_18 rfl ?_
        obtain ⟨r_1, u_2, hc2, hf⟩ := bnd2_el hf
        refine xV_I (As := [.int p1, .int (1 : Int32)]) (wx := [(a0, .inr (11, [.ref a1, .ref a21, .ref a41, .ref a42, .ref a49, .ref a52, .ref a54, .ref a55])), (a1, .inr (10, [.ref a2, .ref a7, .ref a9, .ref a10, .ref a11, .ref a14, .ref a16, .ref a19, .int u_2.1.2.2.2.2.2.2.2.2.1, .int u_2.1.2.2.2.2.2.2.2.2.2.1, .int u_2.1.2.2.2.2.2.2.2.2.2.2.1, .int u_2.1.2.2.2.2.2.2.2.2.2.2.2.1, .int u_2.1.2.2.2.2.2.2.2.2.2.2.2.2.1, .int u_2.1.2.2.2.2.2.2.2.2.2.2.2.2.2])), (a14, .inr (4, [.ref a15, .int u_2.1.2.2.2.2.2.1.2.1, .int u_2.1.2.2.2.2.2.1.2.2])), (a15, .inl (ca 0, 512, .inl u_2.1.2.2.2.2.2.1.1)), (a49, .inr (0, [.ref a50, .ref a51, .int u_2.2.2.2.2.1.2.2.1, .int u_2.2.2.2.2.1.2.2.2.1, .int u_2.2.2.2.2.1.2.2.2.2])), (a50, .inl (ca 0, 400, .inl u_2.2.2.2.2.1.1))]) ⟨hx, hb, hml, hown, hts⟩ (c_X11_loadLatest l D ca zz a0 a1 a2 a7 a9 a10 a11 a14 a15 a16 a19 a21 a41 a42 a49 a50 a51 a52 a54 a55 _ v0 p1 (1 : Int32) r_1 u_2 hc2) (cwV 2 hts (gV gw_4_57 gw_4_59 gw_s_1_13 gw_1_1 gw_4_60) rfl rfl rfl (by decide +kernel) ⟨(Nat.le_of_ble_eq_true rfl), (Nat.le_of_ble_eq_true rfl)⟩) hK hN hZ hA hP hD hS [0, 1, 2, 3, 4, 5] rfl rfl rfl rfl 0 rfl rfl hl.1 rfl (Nat.le_of_ble_eq_true rfl) dX11_loadTuples_19 ⟨Nat.zero_le _, Nat.zero_le _⟩ rfl (fun H locs hP hD hS => ?_)
        refine xi_eq (tgt := 29) hx hb dX11_loadTuples_22 (by decide) hf (fun hf => ?_) (fun hf => ?_)
        · refine lv_iconst (v := 0) hx hb dX11_loadTuples_29 rfl ?_
          cases hf
          exact rt_Z hx hb hr hlocks hK hP hD hS hQ (Or.inl rfl) rfl rfl dX11_loadTuples_30
        · refine lv_iconst (v := 1) hx hb dX11_loadTuples_25 rfl ?_
          refine lv_goto (tgt := 30) hx hb dX11_loadTuples_26 (by decide) ?_
          cases hf
          exact rt_Z hx hb hr hlocks hK hP hD hS hQ (Or.inr rfl) rfl rfl dX11_loadTuples_30
abbrev wq_J7_fill_53178 : List Cond := Cond.code yJ7_fill_53178 cJ7_fill_53178 4 none :: GL
set_option maxHeartbeats 4000000 in
set_option maxRecDepth 100000 in
theorem c_J7_fill_53178 (l : Launch) (D : va_G) (ca : Nat → ClassId) (zz : Nat → Nat) (a0 : Nat) (sz : Nat) (n0 : Nat) (v0 : (Nat → Int32)) (p1 : Int32) (v0' : (Nat → Int32)) (hf : f_J7_fill_53178 n0 v0 p1 = some v0') : Met l yJ7_fill_53178 wq_J7_fill_53178 ({ frames := 0, cells := 0, slots := 0, locals := 0 } : Room) (PR D ca zz [.ref a0, .int p1] sz [(a0, .inl (ca 0, n0, .inl v0))]) (QV D ca [(a0, .inl (ca 0, n0, .inl v0'))] (va_A [(a0, .inl (ca 0, n0, .inl v0))] sz)) 0 0 (va_A [(a0, .inl (ca 0, n0, .inl v0))] sz) := by
  refine en (y := yJ7_fill_53178) (wsm := wq_J7_fill_53178) (av := [.ref a0, .int p1]) (cc := cJ7_fill_53178) (maxL := 4) (ret := none) (Qf := fun A => QV D ca [(a0, .inl (ca 0, n0, .inl v0'))] A) (by decide) rfl (Nat.le_of_ble_eq_true rfl) ?_
  intro p e s m args below meth c A Q ls hx hb hr hml hown hts hlocks hnm hA hN hZ hK hQ hP hD hS hl
  have bl5 : ∀ (k5 : (Nat → Int32) → Int32 → Int32 → Int32 → Option ((Nat → Int32))) (q5 : ∀ (v0 : (Nat → Int32)) (x1 : Int32) (x2 : Int32) (x3 : Int32), k5 v0 x1 x2 x3 = some v0' → ∀ (H : Heap) (locs : List Loc) (ls : Array Slot), va_P D vwCl [(a0, .inl (ca 0, n0, .inl v0))] H → va_D A [(a0, .inl (ca 0, n0, .inl v0))] → va_S A s.heap H locs → lv_has ls 4 [(0, .ref a0), (1, .int x1), (2, .int x2), (3, .int x3)] → W p l e ({ frames := 0, cells := 0, slots := 0, locals := 0 } : Room) s m args below meth c H locs 0 0 Q (F0 m 5 ls [])) (v0 : (Nat → Int32)) (x1 : Int32) (x2 : Int32) (x3 : Int32), fl_J7_fill_53178_5 n0 k5 v0 x1 x2 x3 = some v0' → ∀ (H : Heap) (locs : List Loc) (ls : Array Slot), va_P D vwCl [(a0, .inl (ca 0, n0, .inl v0))] H → va_D A [(a0, .inl (ca 0, n0, .inl v0))] → va_S A s.heap H locs → lv_has ls 4 [(0, .ref a0), (1, .int x1), (2, .int x2), (3, .int x3)] → W p l e ({ frames := 0, cells := 0, slots := 0, locals := 0 } : Room) s m args below meth c H locs 0 0 Q (F0 m 5 ls []) := by
    intro k5 q5 v0 x1 x2 x3 hf H locs ls hP hD hS hl
    unfold fl_J7_fill_53178_5 at hf
    refine lv_iload_n hx hb dJ7_fill_53178_5 rfl (lv_at hl 2 rfl) ?_
    refine lv_iload_n hx hb dJ7_fill_53178_6 rfl (lv_at hl 3 rfl) ?_
    refine xc_ge (tgt := 20) hx hb dJ7_fill_53178_7 (by decide) hf (fun hf => ?_) (fun hf => ?_)
    · cases hf
      exact rt_V hx hb hr hlocks hK hP hD hS hQ rfl dJ7_fill_53178_20
    · refine lv_aload_n hx hb dJ7_fill_53178_10 rfl (lv_at hl 0 rfl) ?_
      refine lv_iload_n hx hb dJ7_fill_53178_11 rfl (lv_at hl 2 rfl) ?_
      refine lv_iload_n hx hb dJ7_fill_53178_12 rfl (lv_at hl 1 rfl) ?_
      refine xiast (wx := [(a0, .inl (ca 0, n0, .inl ((upd v0 (x2).toNatClampNeg x1))))]) hx hb hK hP hD hS 0 rfl hf dJ7_fill_53178_13 rfl (fun H locs hf hP hD hS => ?_)
      obtain ⟨y_2, ey_2, hf⟩ := bnd_el hf
      rw [← ey_2] at hP hD
      obtain ⟨x_3, ex_3, hf⟩ := bnd_el hf
      refine lv_iinc (v := x_3) (lv' := [(2, .int x_3), (0, .ref a0), (1, .int x1), (3, .int x3)]) hx hb dJ7_fill_53178_14 hl (k := 2) rfl (by rw [ex_3]; rfl) (Nat.le_of_ble_eq_true rfl) rfl (fun ls hl => ?_)
      refine lv_goto (tgt := 5) hx hb dJ7_fill_53178_17 (by decide) ?_
      exact q5 y_2 x1 x_3 x3 hf _ _ _ hP hD hS (lv_sub hl [1, 2, 0, 3] rfl)
  have b5 : ∀ (n : Nat) (v0 : (Nat → Int32)) (x1 : Int32) (x2 : Int32) (x3 : Int32), fb_J7_fill_53178_5 n0 n v0 x1 x2 x3 = some v0' → ∀ (H : Heap) (locs : List Loc) (ls : Array Slot), va_P D vwCl [(a0, .inl (ca 0, n0, .inl v0))] H → va_D A [(a0, .inl (ca 0, n0, .inl v0))] → va_S A s.heap H locs → lv_has ls 4 [(0, .ref a0), (1, .int x1), (2, .int x2), (3, .int x3)] → W p l e ({ frames := 0, cells := 0, slots := 0, locals := 0 } : Room) s m args below meth c H locs 0 0 Q (F0 m 5 ls []) := by
    intro n
    induction n with
    | zero => intro v0 x1 x2 x3 hf; exact no_el hf
    | succ n ih => exact bl5 (fb_J7_fill_53178_5 n0 n) ih
  unfold f_J7_fill_53178 at hf
  refine lv_iconst (v := 0) hx hb dJ7_fill_53178_0 rfl ?_
  refine lv_istore_n (lv' := [(2, .int (0 : Int32)), (0, .ref a0), (1, .int p1)]) hx hb dJ7_fill_53178_1 rfl hl (Nat.le_of_ble_eq_true rfl) rfl (fun ls hl => ?_)
  refine lv_aload_n hx hb dJ7_fill_53178_2 rfl (lv_at hl 1 rfl) ?_
  refine va_alen hx hb hK hP 0 0 rfl rfl (v := Int32.ofNat n0) rfl dJ7_fill_53178_3 ?_
  refine xnm hf (fun x_1 hf => ?_)
  refine lv_istore_n (lv' := [(3, .int x_1), (2, .int (0 : Int32)), (0, .ref a0), (1, .int p1)]) hx hb dJ7_fill_53178_4 rfl hl (Nat.le_of_ble_eq_true rfl) rfl (fun ls hl => ?_)
  exact b5 FU v0 p1 (0 : Int32) x_1 hf _ _ _ hP hD hS (lv_sub hl [2, 3, 1, 0] rfl)
abbrev wq_X0_mostOften : List Cond := Cond.code yX0_mostOften cX0_mostOften 6 (some .int) :: GL
set_option maxHeartbeats 4000000 in
set_option maxRecDepth 100000 in
theorem c_X0_mostOften (l : Launch) (D : va_G) (ca : Nat → ClassId) (zz : Nat → Nat) (a0 a1 a2 : Nat) (sz : Nat) (v0 : V0) (p1 : Int32) (r : Int32) (v0' : V0) (hf : f_X0_mostOften v0 p1 = some (r, v0')) : Met l yX0_mostOften wq_X0_mostOften ({ frames := 1, cells := 0, slots := 0, locals := 23 } : Room) (PR D ca zz [.ref a0, .int p1] sz [(a0, .inr (0, [.ref a1, .ref a2, .int v0.2.2.1, .int v0.2.2.2.1, .int v0.2.2.2.2])), (a1, .inl (ca 0, 400, .inl v0.1)), (a2, .inl (ca 0, 256, .inl v0.2.1))]) (QI D ca r [(a0, .inr (0, [.ref a1, .ref a2, .int v0'.2.2.1, .int v0'.2.2.2.1, .int v0'.2.2.2.2])), (a1, .inl (ca 0, 400, .inl v0'.1)), (a2, .inl (ca 0, 256, .inl v0'.2.1))] (va_A [(a0, .inr (0, [.ref a1, .ref a2, .int v0.2.2.1, .int v0.2.2.2.1, .int v0.2.2.2.2])), (a1, .inl (ca 0, 400, .inl v0.1)), (a2, .inl (ca 0, 256, .inl v0.2.1))] sz)) 0 0 (va_A [(a0, .inr (0, [.ref a1, .ref a2, .int v0.2.2.1, .int v0.2.2.2.1, .int v0.2.2.2.2])), (a1, .inl (ca 0, 400, .inl v0.1)), (a2, .inl (ca 0, 256, .inl v0.2.1))] sz) := by
  refine en (y := yX0_mostOften) (wsm := wq_X0_mostOften) (av := [.ref a0, .int p1]) (cc := cX0_mostOften) (maxL := 6) (ret := (some .int)) (Qf := fun A => QI D ca r [(a0, .inr (0, [.ref a1, .ref a2, .int v0'.2.2.1, .int v0'.2.2.2.1, .int v0'.2.2.2.2])), (a1, .inl (ca 0, 400, .inl v0'.1)), (a2, .inl (ca 0, 256, .inl v0'.2.1))] A) (by decide) rfl (Nat.le_of_ble_eq_true rfl) ?_
  intro p e s m args below meth c A Q ls hx hb hr hml hown hts hlocks hnm hA hN hZ hK hQ hP hD hS hl
  have w0 := hts _ (List.mem_cons_of_mem _ gw_2_166)
  have w1 := hts _ (List.mem_cons_of_mem _ gw_2_167)
  have w2 := hts _ (List.mem_cons_of_mem _ gw_2_165)
  have w3 := hts _ (List.mem_cons_of_mem _ gw_4_66)
  have w4 := hts _ (List.mem_cons_of_mem _ gw_2_33)
  have w5 := hts _ (List.mem_cons_of_mem _ gw_1_11)
  have w6 := hts _ (List.mem_cons_of_mem _ gw_2_34)
  have i0 : ∀ w ∈ u_ws RX0 TX0 5, w ∈ wq_X0_mostOften := fun w h => List.mem_cons_of_mem _ (inX0 w h)
  have bl26 : ∀ (k26 : V0 → Int32 → Int32 → Int32 → Int32 → Int32 → Option (Int32 × V0)) (q26 : ∀ (v0 : V0) (x1 : Int32) (x2 : Int32) (x3 : Int32) (x4 : Int32) (x5 : Int32), k26 v0 x1 x2 x3 x4 x5 = some (r, v0') → ∀ (H : Heap) (locs : List Loc) (ls : Array Slot), va_P D vwCl [(a0, .inr (0, [.ref a1, .ref a2, .int v0.2.2.1, .int v0.2.2.2.1, .int v0.2.2.2.2])), (a1, .inl (ca 0, 400, .inl v0.1)), (a2, .inl (ca 0, 256, .inl v0.2.1))] H → va_D A [(a0, .inr (0, [.ref a1, .ref a2, .int v0.2.2.1, .int v0.2.2.2.1, .int v0.2.2.2.2])), (a1, .inl (ca 0, 400, .inl v0.1)), (a2, .inl (ca 0, 256, .inl v0.2.1))] → va_S A s.heap H locs → lv_has ls 6 [(0, .ref a0), (1, .int x1), (2, .int x2), (3, .int x3), (4, .int x4), (5, .int x5)] → W p l e ({ frames := 1, cells := 0, slots := 0, locals := 23 } : Room) s m args below meth c H locs 0 0 Q (F0 m 26 ls [])) (v0 : V0) (x1 : Int32) (x2 : Int32) (x3 : Int32) (x4 : Int32) (x5 : Int32), fl_X0_mostOften_26 k26 v0 x1 x2 x3 x4 x5 = some (r, v0') → ∀ (H : Heap) (locs : List Loc) (ls : Array Slot), va_P D vwCl [(a0, .inr (0, [.ref a1, .ref a2, .int v0.2.2.1, .int v0.2.2.2.1, .int v0.2.2.2.2])), (a1, .inl (ca 0, 400, .inl v0.1)), (a2, .inl (ca 0, 256, .inl v0.2.1))] H → va_D A [(a0, .inr (0, [.ref a1, .ref a2, .int v0.2.2.1, .int v0.2.2.2.1, .int v0.2.2.2.2])), (a1, .inl (ca 0, 400, .inl v0.1)), (a2, .inl (ca 0, 256, .inl v0.2.1))] → va_S A s.heap H locs → lv_has ls 6 [(0, .ref a0), (1, .int x1), (2, .int x2), (3, .int x3), (4, .int x4), (5, .int x5)] → W p l e ({ frames := 1, cells := 0, slots := 0, locals := 23 } : Room) s m args below meth c H locs 0 0 Q (F0 m 26 ls []) := by
    intro k26 q26 v0 x1 x2 x3 x4 x5 hf H locs ls hP hD hS hl
    unfold fl_X0_mostOften_26 at hf
    refine lv_iload hx hb dX0_mostOften_26 (lv_at hl 5 rfl) ?_
    refine lv_aload_n hx hb dX0_mostOften_28 rfl (lv_at hl 0 rfl) ?_
    refine va_get (C := RX0) (T := TX0) (N := 5) hx hb hts i0 hown hK hP 0 rfl rfl 2 (Nat.le_of_ble_eq_true rfl) w1 (fun _ h9 => h9) rfl dX0_mostOften_29 ?_
    refine xc_ge (tgt := 94) hx hb dX0_mostOften_32 (by decide) hf (fun hf => ?_) (fun hf => ?_)
    · refine lv_iload hx hb dX0_mostOften_94 (lv_at hl 4 rfl) ?_
      cases hf
      exact rt_I hx hb hr hlocks hK hP hD hS hQ rfl rfl dX0_mostOften_96
    · refine lv_iload hx hb dX0_mostOften_35 (lv_at hl 5 rfl) ?_
      refine lv_sipush (v := 400) hx hb dX0_mostOften_37 rfl ?_
      refine xc_ge (tgt := 94) hx hb dX0_mostOften_40 (by decide) hf (fun hf => ?_) (fun hf => ?_)
      · refine lv_iload hx hb dX0_mostOften_94 (lv_at hl 4 rfl) ?_
        cases hf
        exact rt_I hx hb hr hlocks hK hP hD hS hQ rfl rfl dX0_mostOften_96
      · refine lv_iload_n hx hb dX0_mostOften_43 rfl (lv_at hl 3 rfl) ?_
        refine lv_iconst (v := 1) hx hb dX0_mostOften_44 rfl ?_
        refine lv_ishl hx hb dX0_mostOften_45 ?_
        refine lv_aload_n hx hb dX0_mostOften_46 rfl (lv_at hl 0 rfl) ?_
        refine va_get (C := RX0) (T := TX0) (N := 5) hx hb hts i0 hown hK hP 0 rfl rfl 0 (Nat.le_of_ble_eq_true rfl) w2 (fun _ h9 => h9) rfl dX0_mostOften_47 ?_
        refine lv_iload hx hb dX0_mostOften_50 (lv_at hl 5 rfl) ?_
        refine xiald hx hb hK hP 1 rfl hf dX0_mostOften_52 (fun hf => ?_)
        refine lv_ior hx hb dX0_mostOften_53 ?_
        refine lv_iload_n hx hb dX0_mostOften_54 rfl (lv_at hl 2 rfl) ?_
        refine lv_iand hx hb dX0_mostOften_55 ?_
        refine xnm hf (fun x_3 hf => ?_)
        refine lv_istore_n (lv' := [(3, .int x_3), (0, .ref a0), (1, .int x1), (2, .int x2), (4, .int x4), (5, .int x5)]) hx hb dX0_mostOften_56 rfl hl (Nat.le_of_ble_eq_true rfl) rfl (fun ls hl => ?_)
        refine lv_iload hx hb dX0_mostOften_57 (lv_at hl 5 rfl) ?_
        refine lv_iload_n hx hb dX0_mostOften_59 rfl (lv_at hl 2 rfl) ?_
        refine lv_iconst (v := 1) hx hb dX0_mostOften_60 rfl ?_
        refine lv_isub hx hb dX0_mostOften_61 ?_
        refine xc_lt (tgt := 88) hx hb dX0_mostOften_62 (by decide) hf (fun hf => ?_) (fun hf => ?_)
        · obtain ⟨x_4, ex_4, hf⟩ := bnd_el hf
          refine lv_iinc (v := x_4) (lv' := [(5, .int x_4), (3, .int x_3), (0, .ref a0), (1, .int x1), (2, .int x2), (4, .int x4)]) hx hb dX0_mostOften_88 hl (k := 5) rfl (by rw [ex_4]; rfl) (Nat.le_of_ble_eq_true rfl) rfl (fun ls hl => ?_)
          refine lv_goto (tgt := 26) hx hb dX0_mostOften_91 (by decide) ?_
          exact q26 v0 x1 x2 x_3 x4 x_4 hf _ _ _ hP hD hS (lv_sub hl [2, 3, 4, 1, 5, 0] rfl)
        · refine lv_aload_n hx hb dX0_mostOften_65 rfl (lv_at hl 1 rfl) ?_
          refine va_get (C := RX0) (T := TX0) (N := 5) hx hb hts i0 hown hK hP 0 rfl rfl 1 (Nat.le_of_ble_eq_true rfl) w0 (fun _ h9 => h9) rfl dX0_mostOften_66 ?_
          refine lv_iload_n hx hb dX0_mostOften_69 rfl (lv_at hl 0 rfl) ?_
          refine lv_dup2_11 hx hb dX0_mostOften_70 rfl rfl ?_
          refine xiald hx hb hK hP 2 rfl hf dX0_mostOften_71 (fun hf => ?_)
          refine lv_iconst (v := 1) hx hb dX0_mostOften_72 rfl ?_
          refine lv_iadd hx hb dX0_mostOften_73 ?_
          refine xiast (wx := [(a0, .inr (0, [.ref a1, .ref a2, .int v0.2.2.1, .int v0.2.2.2.1, .int v0.2.2.2.2])), (a1, .inl (ca 0, 400, .inl v0.1)), (a2, .inl (ca 0, 256, .inl ((upd v0.2.1 (x_3).toNatClampNeg ((v0.2.1 (x_3).toNatClampNeg) + (1 : Int32))))))]) hx hb hK hP hD hS 2 rfl hf dX0_mostOften_74 rfl (fun H locs hf hP hD hS => ?_)
          obtain ⟨y_5, ey_5, hf⟩ := bnd_el hf
          rw [← ey_5] at hP hD
          refine lv_iload hx hb dX0_mostOften_75 (lv_at hl 4 rfl) ?_
          refine lv_aload_n hx hb dX0_mostOften_77 rfl (lv_at hl 1 rfl) ?_
          refine va_get (C := RX0) (T := TX0) (N := 5) hx hb hts i0 hown hK hP 0 rfl rfl 1 (Nat.le_of_ble_eq_true rfl) w0 (fun _ h9 => h9) rfl dX0_mostOften_78 ?_
          refine lv_iload_n hx hb dX0_mostOften_81 rfl (lv_at hl 0 rfl) ?_
          refine xiald hx hb hK hP 2 rfl hf dX0_mostOften_82 (fun hf => ?_)
          refine va_mmax hx hb (hml.trans hl.1.symm) hown w3 w4 w5 w6 (Nat.le_of_ble_eq_true rfl) (Nat.le_of_ble_eq_true rfl) (Nat.zero_le _) (Nat.zero_le _) dX0_mostOften_83 ?_
          refine xnm hf (fun x_6 hf => ?_)
          refine lv_istore (lv' := [(4, .int x_6), (3, .int x_3), (0, .ref a0), (1, .int x1), (2, .int x2), (5, .int x5)]) hx hb dX0_mostOften_86 hl (Nat.le_of_ble_eq_true rfl) rfl (fun ls hl => ?_)
          obtain ⟨x_7, ex_7, hf⟩ := bnd_el hf
          refine lv_iinc (v := x_7) (lv' := [(5, .int x_7), (4, .int x_6), (3, .int x_3), (0, .ref a0), (1, .int x1), (2, .int x2)]) hx hb dX0_mostOften_88 hl (k := 5) rfl (by rw [ex_7]; rfl) (Nat.le_of_ble_eq_true rfl) rfl (fun ls hl => ?_)
          refine lv_goto (tgt := 26) hx hb dX0_mostOften_91 (by decide) ?_
          exact q26 ((v0.1, y_5, v0.2.2)) x1 x2 x_3 x_6 x_7 hf _ _ _ hP hD hS (lv_sub hl [3, 4, 5, 2, 1, 0] rfl)
  have b26 : ∀ (n : Nat) (v0 : V0) (x1 : Int32) (x2 : Int32) (x3 : Int32) (x4 : Int32) (x5 : Int32), fb_X0_mostOften_26 n v0 x1 x2 x3 x4 x5 = some (r, v0') → ∀ (H : Heap) (locs : List Loc) (ls : Array Slot), va_P D vwCl [(a0, .inr (0, [.ref a1, .ref a2, .int v0.2.2.1, .int v0.2.2.2.1, .int v0.2.2.2.2])), (a1, .inl (ca 0, 400, .inl v0.1)), (a2, .inl (ca 0, 256, .inl v0.2.1))] H → va_D A [(a0, .inr (0, [.ref a1, .ref a2, .int v0.2.2.1, .int v0.2.2.2.1, .int v0.2.2.2.2])), (a1, .inl (ca 0, 400, .inl v0.1)), (a2, .inl (ca 0, 256, .inl v0.2.1))] → va_S A s.heap H locs → lv_has ls 6 [(0, .ref a0), (1, .int x1), (2, .int x2), (3, .int x3), (4, .int x4), (5, .int x5)] → W p l e ({ frames := 1, cells := 0, slots := 0, locals := 23 } : Room) s m args below meth c H locs 0 0 Q (F0 m 26 ls []) := by
    intro n
    induction n with
    | zero => intro v0 x1 x2 x3 x4 x5 hf; exact no_el hf
    | succ n ih => exact bl26 (fb_X0_mostOften_26 n) ih
  unfold f_X0_mostOften at hf
  refine lv_aload_n hx hb dX0_mostOften_0 rfl (lv_at hl 0 rfl) ?_
  refine va_get (C := RX0) (T := TX0) (N := 5) hx hb hts i0 hown hK hP 0 rfl rfl 1 (Nat.le_of_ble_eq_true rfl) w0 (fun _ h9 => h9) rfl dX0_mostOften_1 ?_
  refine lv_iconst (v := 0) hx hb dX0_mostOften_4 rfl ?_
  obtain ⟨u_1, hc1, hf⟩ := bnd1_el hf
  refine xS_V (As := [.ref a2, .int (0 : Int32)]) (wx := [(a0, .inr (0, [.ref a1, .ref a2, .int v0.2.2.1, .int v0.2.2.2.1, .int v0.2.2.2.2])), (a1, .inl (ca 0, 400, .inl v0.1)), (a2, .inl (ca 0, 256, .inl u_1))]) ⟨hx, hb, hml, hown, hts⟩ (c_J7_fill_53178 l D ca zz a2 _ 256 v0.2.1 (0 : Int32) u_1 hc1) (va_cwS 2 hts (gS gw_4_113 gw_4_114 gw_1_12 gw_4_115) rfl rfl rfl (by decide +kernel) ⟨(Nat.le_of_ble_eq_true rfl), (Nat.le_of_ble_eq_true rfl)⟩) hK hN hZ hA hP hD hS [2] rfl rfl rfl rfl hl.1 rfl (Nat.le_of_ble_eq_true rfl) dX0_mostOften_5 ⟨Nat.zero_le _, Nat.zero_le _⟩ rfl (fun H locs hP hD hS => ?_)
  refine lv_iconst (v := 1) hx hb dX0_mostOften_8 rfl ?_
  refine lv_iload_n hx hb dX0_mostOften_9 rfl (lv_at hl 1 rfl) ?_
  refine lv_ishl hx hb dX0_mostOften_10 ?_
  refine lv_iconst (v := 1) hx hb dX0_mostOften_11 rfl ?_
  refine lv_isub hx hb dX0_mostOften_12 ?_
  refine lv_sipush (v := 255) hx hb dX0_mostOften_13 rfl ?_
  refine lv_iand hx hb dX0_mostOften_16 ?_
  refine xnm hf (fun x_2 hf => ?_)
  refine lv_istore_n (lv' := [(2, .int x_2), (0, .ref a0), (1, .int p1)]) hx hb dX0_mostOften_17 rfl hl (Nat.le_of_ble_eq_true rfl) rfl (fun ls hl => ?_)
  refine lv_iconst (v := 0) hx hb dX0_mostOften_18 rfl ?_
  refine lv_istore_n (lv' := [(3, .int (0 : Int32)), (2, .int x_2), (0, .ref a0), (1, .int p1)]) hx hb dX0_mostOften_19 rfl hl (Nat.le_of_ble_eq_true rfl) rfl (fun ls hl => ?_)
  refine lv_iconst (v := 0) hx hb dX0_mostOften_20 rfl ?_
  refine lv_istore (lv' := [(4, .int (0 : Int32)), (3, .int (0 : Int32)), (2, .int x_2), (0, .ref a0), (1, .int p1)]) hx hb dX0_mostOften_21 hl (Nat.le_of_ble_eq_true rfl) rfl (fun ls hl => ?_)
  refine lv_iconst (v := 0) hx hb dX0_mostOften_23 rfl ?_
  refine lv_istore (lv' := [(5, .int (0 : Int32)), (4, .int (0 : Int32)), (3, .int (0 : Int32)), (2, .int x_2), (0, .ref a0), (1, .int p1)]) hx hb dX0_mostOften_24 hl (Nat.le_of_ble_eq_true rfl) rfl (fun ls hl => ?_)
  exact b26 FU ((v0.1, u_1, v0.2.2)) p1 x_2 (0 : Int32) (0 : Int32) (0 : Int32) hf _ _ _ hP hD hS (lv_sub hl [4, 5, 3, 2, 1, 0] rfl)
abbrev wq_X11_tuple : List Cond := Cond.code yX11_tuple cX11_tuple 3 (some .int) :: GL
set_option maxHeartbeats 4000000 in
set_option maxRecDepth 100000 in
theorem c_X11_tuple (l : Launch) (D : va_G) (ca : Nat → ClassId) (zz : Nat → Nat) (a0 a1 a2 a7 a9 a10 a11 a14 a15 a16 a19 a21 a41 a42 a49 a50 a51 a52 a54 a55 : Nat) (sz : Nat) (v0 : V11) (p1 : Int32) (p2 : Int32) (r : Int32) (v0' : V11) (hf : f_X11_tuple v0 p1 p2 = some (r, v0')) : Met l yX11_tuple wq_X11_tuple ({ frames := 4, cells := 0, slots := 0, locals := 89 } : Room) (PR D ca zz [.ref a0, .int p1, .int p2] sz [(a0, .inr (11, [.ref a1, .ref a21, .ref a41, .ref a42, .ref a49, .ref a52, .ref a54, .ref a55])), (a1, .inr (10, [.ref a2, .ref a7, .ref a9, .ref a10, .ref a11, .ref a14, .ref a16, .ref a19, .int v0.1.2.2.2.2.2.2.2.2.1, .int v0.1.2.2.2.2.2.2.2.2.2.1, .int v0.1.2.2.2.2.2.2.2.2.2.2.1, .int v0.1.2.2.2.2.2.2.2.2.2.2.2.1, .int v0.1.2.2.2.2.2.2.2.2.2.2.2.2.1, .int v0.1.2.2.2.2.2.2.2.2.2.2.2.2.2])), (a14, .inr (4, [.ref a15, .int v0.1.2.2.2.2.2.1.2.1, .int v0.1.2.2.2.2.2.1.2.2])), (a15, .inl (ca 0, 512, .inl v0.1.2.2.2.2.2.1.1)), (a49, .inr (0, [.ref a50, .ref a51, .int v0.2.2.2.2.1.2.2.1, .int v0.2.2.2.2.1.2.2.2.1, .int v0.2.2.2.2.1.2.2.2.2])), (a50, .inl (ca 0, 400, .inl v0.2.2.2.2.1.1)), (a51, .inl (ca 0, 256, .inl v0.2.2.2.2.1.2.1))]) (QI D ca r [(a0, .inr (11, [.ref a1, .ref a21, .ref a41, .ref a42, .ref a49, .ref a52, .ref a54, .ref a55])), (a1, .inr (10, [.ref a2, .ref a7, .ref a9, .ref a10, .ref a11, .ref a14, .ref a16, .ref a19, .int v0'.1.2.2.2.2.2.2.2.2.1, .int v0'.1.2.2.2.2.2.2.2.2.2.1, .int v0'.1.2.2.2.2.2.2.2.2.2.2.1, .int v0'.1.2.2.2.2.2.2.2.2.2.2.2.1, .int v0'.1.2.2.2.2.2.2.2.2.2.2.2.2.1, .int v0'.1.2.2.2.2.2.2.2.2.2.2.2.2.2])), (a14, .inr (4, [.ref a15, .int v0'.1.2.2.2.2.2.1.2.1, .int v0'.1.2.2.2.2.2.1.2.2])), (a15, .inl (ca 0, 512, .inl v0'.1.2.2.2.2.2.1.1)), (a49, .inr (0, [.ref a50, .ref a51, .int v0'.2.2.2.2.1.2.2.1, .int v0'.2.2.2.2.1.2.2.2.1, .int v0'.2.2.2.2.1.2.2.2.2])), (a50, .inl (ca 0, 400, .inl v0'.2.2.2.2.1.1)), (a51, .inl (ca 0, 256, .inl v0'.2.2.2.2.1.2.1))] (va_A [(a0, .inr (11, [.ref a1, .ref a21, .ref a41, .ref a42, .ref a49, .ref a52, .ref a54, .ref a55])), (a1, .inr (10, [.ref a2, .ref a7, .ref a9, .ref a10, .ref a11, .ref a14, .ref a16, .ref a19, .int v0.1.2.2.2.2.2.2.2.2.1, .int v0.1.2.2.2.2.2.2.2.2.2.1, .int v0.1.2.2.2.2.2.2.2.2.2.2.1, .int v0.1.2.2.2.2.2.2.2.2.2.2.2.1, .int v0.1.2.2.2.2.2.2.2.2.2.2.2.2.1, .int v0.1.2.2.2.2.2.2.2.2.2.2.2.2.2])), (a14, .inr (4, [.ref a15, .int v0.1.2.2.2.2.2.1.2.1, .int v0.1.2.2.2.2.2.1.2.2])), (a15, .inl (ca 0, 512, .inl v0.1.2.2.2.2.2.1.1)), (a49, .inr (0, [.ref a50, .ref a51, .int v0.2.2.2.2.1.2.2.1, .int v0.2.2.2.2.1.2.2.2.1, .int v0.2.2.2.2.1.2.2.2.2])), (a50, .inl (ca 0, 400, .inl v0.2.2.2.2.1.1)), (a51, .inl (ca 0, 256, .inl v0.2.2.2.2.1.2.1))] sz)) 0 0 (va_A [(a0, .inr (11, [.ref a1, .ref a21, .ref a41, .ref a42, .ref a49, .ref a52, .ref a54, .ref a55])), (a1, .inr (10, [.ref a2, .ref a7, .ref a9, .ref a10, .ref a11, .ref a14, .ref a16, .ref a19, .int v0.1.2.2.2.2.2.2.2.2.1, .int v0.1.2.2.2.2.2.2.2.2.2.1, .int v0.1.2.2.2.2.2.2.2.2.2.2.1, .int v0.1.2.2.2.2.2.2.2.2.2.2.2.1, .int v0.1.2.2.2.2.2.2.2.2.2.2.2.2.1, .int v0.1.2.2.2.2.2.2.2.2.2.2.2.2.2])), (a14, .inr (4, [.ref a15, .int v0.1.2.2.2.2.2.1.2.1, .int v0.1.2.2.2.2.2.1.2.2])), (a15, .inl (ca 0, 512, .inl v0.1.2.2.2.2.2.1.1)), (a49, .inr (0, [.ref a50, .ref a51, .int v0.2.2.2.2.1.2.2.1, .int v0.2.2.2.2.1.2.2.2.1, .int v0.2.2.2.2.1.2.2.2.2])), (a50, .inl (ca 0, 400, .inl v0.2.2.2.2.1.1)), (a51, .inl (ca 0, 256, .inl v0.2.2.2.2.1.2.1))] sz) := by
  refine en (y := yX11_tuple) (wsm := wq_X11_tuple) (av := [.ref a0, .int p1, .int p2]) (cc := cX11_tuple) (maxL := 3) (ret := (some .int)) (Qf := fun A => QI D ca r [(a0, .inr (11, [.ref a1, .ref a21, .ref a41, .ref a42, .ref a49, .ref a52, .ref a54, .ref a55])), (a1, .inr (10, [.ref a2, .ref a7, .ref a9, .ref a10, .ref a11, .ref a14, .ref a16, .ref a19, .int v0'.1.2.2.2.2.2.2.2.2.1, .int v0'.1.2.2.2.2.2.2.2.2.2.1, .int v0'.1.2.2.2.2.2.2.2.2.2.2.1, .int v0'.1.2.2.2.2.2.2.2.2.2.2.2.1, .int v0'.1.2.2.2.2.2.2.2.2.2.2.2.2.1, .int v0'.1.2.2.2.2.2.2.2.2.2.2.2.2.2])), (a14, .inr (4, [.ref a15, .int v0'.1.2.2.2.2.2.1.2.1, .int v0'.1.2.2.2.2.2.1.2.2])), (a15, .inl (ca 0, 512, .inl v0'.1.2.2.2.2.2.1.1)), (a49, .inr (0, [.ref a50, .ref a51, .int v0'.2.2.2.2.1.2.2.1, .int v0'.2.2.2.2.1.2.2.2.1, .int v0'.2.2.2.2.1.2.2.2.2])), (a50, .inl (ca 0, 400, .inl v0'.2.2.2.2.1.1)), (a51, .inl (ca 0, 256, .inl v0'.2.2.2.2.1.2.1))] A) (by decide) rfl (Nat.le_of_ble_eq_true rfl) ?_
  intro p e s m args below meth c A Q ls hx hb hr hml hown hts hlocks hnm hA hN hZ hK hQ hP hD hS hl
  have w0 := hts _ (List.mem_cons_of_mem _ gw_2_191)
  have i11 : ∀ w ∈ u_ws RX11 TX11 8, w ∈ wq_X11_tuple := fun w h => List.mem_cons_of_mem _ (inX11 w h)
  unfold f_X11_tuple at hf
  refine lv_aload_n hx hb dX11_tuple_0 rfl (lv_at hl 0 rfl) ?_
  refine lv_iload_n hx hb dX11_tuple_1 rfl (lv_at hl 1 rfl) ?_
  refine lv_iload_n hx hb dX11_tuple_2 rfl (lv_at hl 2 rfl) ?_
  obtain ⟨r_1, u_2, hc2, hf⟩ := bnd2_el hf
  refine xV_I (As := [.int p1, .int p2]) (wx := [(a0, .inr (11, [.ref a1, .ref a21, .ref a41, .ref a42, .ref a49, .ref a52, .ref a54, .ref a55])), (a1, .inr (10, [.ref a2, .ref a7, .ref a9, .ref a10, .ref a11, .ref a14, .ref a16, .ref a19, .int u_2.1.2.2.2.2.2.2.2.2.1, .int u_2.1.2.2.2.2.2.2.2.2.2.1, .int u_2.1.2.2.2.2.2.2.2.2.2.2.1, .int u_2.1.2.2.2.2.2.2.2.2.2.2.2.1, .int u_2.1.2.2.2.2.2.2.2.2.2.2.2.2.1, .int u_2.1.2.2.2.2.2.2.2.2.2.2.2.2.2])), (a14, .inr (4, [.ref a15, .int u_2.1.2.2.2.2.2.1.2.1, .int u_2.1.2.2.2.2.2.1.2.2])), (a15, .inl (ca 0, 512, .inl u_2.1.2.2.2.2.2.1.1)), (a49, .inr (0, [.ref a50, .ref a51, .int u_2.2.2.2.2.1.2.2.1, .int u_2.2.2.2.2.1.2.2.2.1, .int u_2.2.2.2.2.1.2.2.2.2])), (a50, .inl (ca 0, 400, .inl u_2.2.2.2.2.1.1)), (a51, .inl (ca 0, 256, .inl v0.2.2.2.2.1.2.1))]) ⟨hx, hb, hml, hown, hts⟩ (c_X11_loadTuples l D ca zz a0 a1 a2 a7 a9 a10 a11 a14 a15 a16 a19 a21 a41 a42 a49 a50 a51 a52 a54 a55 _ v0 p1 p2 r_1 u_2 hc2) (cwV 2 hts (gV gw_4_105 gw_4_107 gw_s_2_2 gw_1_1 gw_4_108) rfl rfl rfl (by decide +kernel) ⟨(Nat.le_of_ble_eq_true rfl), (Nat.le_of_ble_eq_true rfl)⟩) hK hN hZ hA hP hD hS [0, 1, 2, 3, 4, 5] rfl rfl rfl rfl 0 rfl rfl hl.1 rfl (Nat.le_of_ble_eq_true rfl) dX11_tuple_3 ⟨Nat.zero_le _, Nat.zero_le _⟩ rfl (fun H locs hP hD hS => ?_)
  refine xi_eq (tgt := 20) hx hb dX11_tuple_6 (by decide) hf (fun hf => ?_) (fun hf => ?_)
  · refine lv_iconst (v := -1) hx hb dX11_tuple_20 rfl ?_
    cases hf
    exact rt_I hx hb hr hlocks hK hP hD hS hQ rfl rfl dX11_tuple_21
  · refine lv_aload_n hx hb dX11_tuple_9 rfl (lv_at hl 0 rfl) ?_
    refine va_get (C := RX11) (T := TX11) (N := 8) hx hb hts i11 hown hK hP 0 rfl rfl 4 (Nat.le_of_ble_eq_true rfl) w0 (fun _ h9 => h9) rfl dX11_tuple_10 ?_
    refine lv_iload_n hx hb dX11_tuple_13 rfl (lv_at hl 2 rfl) ?_
    obtain ⟨r_3, u_4, hc4, hf⟩ := bnd2_el hf
    refine xV_I (As := [.int p2]) (wx := [(a0, .inr (11, [.ref a1, .ref a21, .ref a41, .ref a42, .ref a49, .ref a52, .ref a54, .ref a55])), (a1, .inr (10, [.ref a2, .ref a7, .ref a9, .ref a10, .ref a11, .ref a14, .ref a16, .ref a19, .int u_2.1.2.2.2.2.2.2.2.2.1, .int u_2.1.2.2.2.2.2.2.2.2.2.1, .int u_2.1.2.2.2.2.2.2.2.2.2.2.1, .int u_2.1.2.2.2.2.2.2.2.2.2.2.2.1, .int u_2.1.2.2.2.2.2.2.2.2.2.2.2.2.1, .int u_2.1.2.2.2.2.2.2.2.2.2.2.2.2.2])), (a14, .inr (4, [.ref a15, .int u_2.1.2.2.2.2.2.1.2.1, .int u_2.1.2.2.2.2.2.1.2.2])), (a15, .inl (ca 0, 512, .inl u_2.1.2.2.2.2.2.1.1)), (a49, .inr (0, [.ref a50, .ref a51, .int u_4.2.2.1, .int u_4.2.2.2.1, .int u_4.2.2.2.2])), (a50, .inl (ca 0, 400, .inl u_4.1)), (a51, .inl (ca 0, 256, .inl u_4.2.1))]) ⟨hx, hb, hml, hown, hts⟩ (c_X0_mostOften l D ca zz a49 a50 a51 _ ((u_2.2.2.2.2.1.1, v0.2.2.2.2.1.2.1, u_2.2.2.2.2.1.2.2)) p2 r_3 u_4 hc4) (cwV 1 hts (gV gw_4_109 gw_4_110 gw_4_111 gw_1_14 gw_4_112) rfl rfl rfl (by decide +kernel) ⟨(Nat.le_of_ble_eq_true rfl), (Nat.le_of_ble_eq_true rfl)⟩) hK hN hZ hA hP hD hS [4, 5, 6] rfl rfl rfl rfl 4 rfl rfl hl.1 rfl (Nat.le_of_ble_eq_true rfl) dX11_tuple_14 ⟨Nat.zero_le _, Nat.zero_le _⟩ rfl (fun H locs hP hD hS => ?_)
    refine lv_goto (tgt := 21) hx hb dX11_tuple_17 (by decide) ?_
    cases hf
    exact rt_I hx hb hr hlocks hK hP hD hS hQ rfl rfl dX11_tuple_21
abbrev wq_X11_spreads : List Cond := Cond.code yX11_spreads cX11_spreads 8 (some .boolean) :: GL
set_option maxHeartbeats 4000000 in
set_option maxRecDepth 100000 in
theorem c_X11_spreads (l : Launch) (D : va_G) (ca : Nat → ClassId) (zz : Nat → Nat) (a0 a1 a2 a3 a4 a5 a6 a7 a9 a10 a11 a14 a15 a16 a19 a21 a41 a42 a49 a50 a51 a52 a54 a55 : Nat) (sz : Nat) (v0 : V11) (p1 : Int32) (p2 : Int32) (r : Int32) (v0' : V11) (hf : f_X11_spreads v0 p1 p2 = some (r, v0')) : Met l yX11_spreads wq_X11_spreads ({ frames := 4, cells := 0, slots := 0, locals := 89 } : Room) (PR D ca zz [.ref a0, .int p1, .int p2] sz [(a0, .inr (11, [.ref a1, .ref a21, .ref a41, .ref a42, .ref a49, .ref a52, .ref a54, .ref a55])), (a1, .inr (10, [.ref a2, .ref a7, .ref a9, .ref a10, .ref a11, .ref a14, .ref a16, .ref a19, .int v0.1.2.2.2.2.2.2.2.2.1, .int v0.1.2.2.2.2.2.2.2.2.2.1, .int v0.1.2.2.2.2.2.2.2.2.2.2.1, .int v0.1.2.2.2.2.2.2.2.2.2.2.2.1, .int v0.1.2.2.2.2.2.2.2.2.2.2.2.2.1, .int v0.1.2.2.2.2.2.2.2.2.2.2.2.2.2])), (a2, .inr (7, [.ref a3, .ref a4, .ref a5, .ref a6, .int v0.1.1.2.2.2.2])), (a3, .inl (ca 0, 9, .inl v0.1.1.1)), (a14, .inr (4, [.ref a15, .int v0.1.2.2.2.2.2.1.2.1, .int v0.1.2.2.2.2.2.1.2.2])), (a15, .inl (ca 0, 512, .inl v0.1.2.2.2.2.2.1.1)), (a49, .inr (0, [.ref a50, .ref a51, .int v0.2.2.2.2.1.2.2.1, .int v0.2.2.2.2.1.2.2.2.1, .int v0.2.2.2.2.1.2.2.2.2])), (a50, .inl (ca 0, 400, .inl v0.2.2.2.2.1.1)), (a51, .inl (ca 0, 256, .inl v0.2.2.2.2.1.2.1))]) (QI D ca r [(a0, .inr (11, [.ref a1, .ref a21, .ref a41, .ref a42, .ref a49, .ref a52, .ref a54, .ref a55])), (a1, .inr (10, [.ref a2, .ref a7, .ref a9, .ref a10, .ref a11, .ref a14, .ref a16, .ref a19, .int v0'.1.2.2.2.2.2.2.2.2.1, .int v0'.1.2.2.2.2.2.2.2.2.2.1, .int v0'.1.2.2.2.2.2.2.2.2.2.2.1, .int v0'.1.2.2.2.2.2.2.2.2.2.2.2.1, .int v0'.1.2.2.2.2.2.2.2.2.2.2.2.2.1, .int v0'.1.2.2.2.2.2.2.2.2.2.2.2.2.2])), (a2, .inr (7, [.ref a3, .ref a4, .ref a5, .ref a6, .int v0'.1.1.2.2.2.2])), (a3, .inl (ca 0, 9, .inl v0'.1.1.1)), (a14, .inr (4, [.ref a15, .int v0'.1.2.2.2.2.2.1.2.1, .int v0'.1.2.2.2.2.2.1.2.2])), (a15, .inl (ca 0, 512, .inl v0'.1.2.2.2.2.2.1.1)), (a49, .inr (0, [.ref a50, .ref a51, .int v0'.2.2.2.2.1.2.2.1, .int v0'.2.2.2.2.1.2.2.2.1, .int v0'.2.2.2.2.1.2.2.2.2])), (a50, .inl (ca 0, 400, .inl v0'.2.2.2.2.1.1)), (a51, .inl (ca 0, 256, .inl v0'.2.2.2.2.1.2.1))] (va_A [(a0, .inr (11, [.ref a1, .ref a21, .ref a41, .ref a42, .ref a49, .ref a52, .ref a54, .ref a55])), (a1, .inr (10, [.ref a2, .ref a7, .ref a9, .ref a10, .ref a11, .ref a14, .ref a16, .ref a19, .int v0.1.2.2.2.2.2.2.2.2.1, .int v0.1.2.2.2.2.2.2.2.2.2.1, .int v0.1.2.2.2.2.2.2.2.2.2.2.1, .int v0.1.2.2.2.2.2.2.2.2.2.2.2.1, .int v0.1.2.2.2.2.2.2.2.2.2.2.2.2.1, .int v0.1.2.2.2.2.2.2.2.2.2.2.2.2.2])), (a2, .inr (7, [.ref a3, .ref a4, .ref a5, .ref a6, .int v0.1.1.2.2.2.2])), (a3, .inl (ca 0, 9, .inl v0.1.1.1)), (a14, .inr (4, [.ref a15, .int v0.1.2.2.2.2.2.1.2.1, .int v0.1.2.2.2.2.2.1.2.2])), (a15, .inl (ca 0, 512, .inl v0.1.2.2.2.2.2.1.1)), (a49, .inr (0, [.ref a50, .ref a51, .int v0.2.2.2.2.1.2.2.1, .int v0.2.2.2.2.1.2.2.2.1, .int v0.2.2.2.2.1.2.2.2.2])), (a50, .inl (ca 0, 400, .inl v0.2.2.2.2.1.1)), (a51, .inl (ca 0, 256, .inl v0.2.2.2.2.1.2.1))] sz)) 0 0 (va_A [(a0, .inr (11, [.ref a1, .ref a21, .ref a41, .ref a42, .ref a49, .ref a52, .ref a54, .ref a55])), (a1, .inr (10, [.ref a2, .ref a7, .ref a9, .ref a10, .ref a11, .ref a14, .ref a16, .ref a19, .int v0.1.2.2.2.2.2.2.2.2.1, .int v0.1.2.2.2.2.2.2.2.2.2.1, .int v0.1.2.2.2.2.2.2.2.2.2.2.1, .int v0.1.2.2.2.2.2.2.2.2.2.2.2.1, .int v0.1.2.2.2.2.2.2.2.2.2.2.2.2.1, .int v0.1.2.2.2.2.2.2.2.2.2.2.2.2.2])), (a2, .inr (7, [.ref a3, .ref a4, .ref a5, .ref a6, .int v0.1.1.2.2.2.2])), (a3, .inl (ca 0, 9, .inl v0.1.1.1)), (a14, .inr (4, [.ref a15, .int v0.1.2.2.2.2.2.1.2.1, .int v0.1.2.2.2.2.2.1.2.2])), (a15, .inl (ca 0, 512, .inl v0.1.2.2.2.2.2.1.1)), (a49, .inr (0, [.ref a50, .ref a51, .int v0.2.2.2.2.1.2.2.1, .int v0.2.2.2.2.1.2.2.2.1, .int v0.2.2.2.2.1.2.2.2.2])), (a50, .inl (ca 0, 400, .inl v0.2.2.2.2.1.1)), (a51, .inl (ca 0, 256, .inl v0.2.2.2.2.1.2.1))] sz) := by
  refine en (y := yX11_spreads) (wsm := wq_X11_spreads) (av := [.ref a0, .int p1, .int p2]) (cc := cX11_spreads) (maxL := 8) (ret := (some .boolean)) (Qf := fun A => QI D ca r [(a0, .inr (11, [.ref a1, .ref a21, .ref a41, .ref a42, .ref a49, .ref a52, .ref a54, .ref a55])), (a1, .inr (10, [.ref a2, .ref a7, .ref a9, .ref a10, .ref a11, .ref a14, .ref a16, .ref a19, .int v0'.1.2.2.2.2.2.2.2.2.1, .int v0'.1.2.2.2.2.2.2.2.2.2.1, .int v0'.1.2.2.2.2.2.2.2.2.2.2.1, .int v0'.1.2.2.2.2.2.2.2.2.2.2.2.1, .int v0'.1.2.2.2.2.2.2.2.2.2.2.2.2.1, .int v0'.1.2.2.2.2.2.2.2.2.2.2.2.2.2])), (a2, .inr (7, [.ref a3, .ref a4, .ref a5, .ref a6, .int v0'.1.1.2.2.2.2])), (a3, .inl (ca 0, 9, .inl v0'.1.1.1)), (a14, .inr (4, [.ref a15, .int v0'.1.2.2.2.2.2.1.2.1, .int v0'.1.2.2.2.2.2.1.2.2])), (a15, .inl (ca 0, 512, .inl v0'.1.2.2.2.2.2.1.1)), (a49, .inr (0, [.ref a50, .ref a51, .int v0'.2.2.2.2.1.2.2.1, .int v0'.2.2.2.2.1.2.2.2.1, .int v0'.2.2.2.2.1.2.2.2.2])), (a50, .inl (ca 0, 400, .inl v0'.2.2.2.2.1.1)), (a51, .inl (ca 0, 256, .inl v0'.2.2.2.2.1.2.1))] A) (by decide) rfl (Nat.le_of_ble_eq_true rfl) ?_
  intro p e s m args below meth c A Q ls hx hb hr hml hown hts hlocks hnm hA hN hZ hK hQ hP hD hS hl
  have w0 := hts _ (List.mem_cons_of_mem _ gw_2_191)
  have w1 := hts _ (List.mem_cons_of_mem _ gw_4_120)
  have w2 := hts _ (List.mem_cons_of_mem _ gw_2_187)
  have nw34 := NW.use (args := args) (w := .fieldLinkNest RX11 79 "NoiseWatch$Watch" "settings" "LNoiseWatch$Settings;" "NoiseWatch") hN 34 rfl
  have i10 : ∀ w ∈ u_ws RX10 TX10 14, w ∈ wq_X11_spreads := fun w h => List.mem_cons_of_mem _ (inX10 w h)
  have i11 : ∀ w ∈ u_ws RX11 TX11 8, w ∈ wq_X11_spreads := fun w h => List.mem_cons_of_mem _ (inX11 w h)
  have bl32 : ∀ (k32 : V11 → Int32 → Int64 → Int64 → Int32 → Option (Int32 × V11)) (q32 : ∀ (v0 : V11) (x2 : Int32) (x3 : Int64) (x5 : Int64) (x7 : Int32), k32 v0 x2 x3 x5 x7 = some (r, v0') → ∀ (H : Heap) (locs : List Loc) (ls : Array Slot), va_P D vwCl [(a0, .inr (11, [.ref a1, .ref a21, .ref a41, .ref a42, .ref a49, .ref a52, .ref a54, .ref a55])), (a1, .inr (10, [.ref a2, .ref a7, .ref a9, .ref a10, .ref a11, .ref a14, .ref a16, .ref a19, .int v0.1.2.2.2.2.2.2.2.2.1, .int v0.1.2.2.2.2.2.2.2.2.2.1, .int v0.1.2.2.2.2.2.2.2.2.2.2.1, .int v0.1.2.2.2.2.2.2.2.2.2.2.2.1, .int v0.1.2.2.2.2.2.2.2.2.2.2.2.2.1, .int v0.1.2.2.2.2.2.2.2.2.2.2.2.2.2])), (a2, .inr (7, [.ref a3, .ref a4, .ref a5, .ref a6, .int v0.1.1.2.2.2.2])), (a3, .inl (ca 0, 9, .inl v0.1.1.1)), (a14, .inr (4, [.ref a15, .int v0.1.2.2.2.2.2.1.2.1, .int v0.1.2.2.2.2.2.1.2.2])), (a15, .inl (ca 0, 512, .inl v0.1.2.2.2.2.2.1.1)), (a49, .inr (0, [.ref a50, .ref a51, .int v0.2.2.2.2.1.2.2.1, .int v0.2.2.2.2.1.2.2.2.1, .int v0.2.2.2.2.1.2.2.2.2])), (a50, .inl (ca 0, 400, .inl v0.2.2.2.2.1.1)), (a51, .inl (ca 0, 256, .inl v0.2.2.2.2.1.2.1))] H → va_D A [(a0, .inr (11, [.ref a1, .ref a21, .ref a41, .ref a42, .ref a49, .ref a52, .ref a54, .ref a55])), (a1, .inr (10, [.ref a2, .ref a7, .ref a9, .ref a10, .ref a11, .ref a14, .ref a16, .ref a19, .int v0.1.2.2.2.2.2.2.2.2.1, .int v0.1.2.2.2.2.2.2.2.2.2.1, .int v0.1.2.2.2.2.2.2.2.2.2.2.1, .int v0.1.2.2.2.2.2.2.2.2.2.2.2.1, .int v0.1.2.2.2.2.2.2.2.2.2.2.2.2.1, .int v0.1.2.2.2.2.2.2.2.2.2.2.2.2.2])), (a2, .inr (7, [.ref a3, .ref a4, .ref a5, .ref a6, .int v0.1.1.2.2.2.2])), (a3, .inl (ca 0, 9, .inl v0.1.1.1)), (a14, .inr (4, [.ref a15, .int v0.1.2.2.2.2.2.1.2.1, .int v0.1.2.2.2.2.2.1.2.2])), (a15, .inl (ca 0, 512, .inl v0.1.2.2.2.2.2.1.1)), (a49, .inr (0, [.ref a50, .ref a51, .int v0.2.2.2.2.1.2.2.1, .int v0.2.2.2.2.1.2.2.2.1, .int v0.2.2.2.2.1.2.2.2.2])), (a50, .inl (ca 0, 400, .inl v0.2.2.2.2.1.1)), (a51, .inl (ca 0, 256, .inl v0.2.2.2.2.1.2.1))] → va_S A s.heap H locs → lv_has ls 8 [(0, .ref a0), (2, .int x2), (3, .long x3), (5, .long x5), (7, .int x7)] → W p l e ({ frames := 4, cells := 0, slots := 0, locals := 89 } : Room) s m args below meth c H locs 0 0 Q (F0 m 32 ls [])) (v0 : V11) (x2 : Int32) (x3 : Int64) (x5 : Int64) (x7 : Int32), fl_X11_spreads_32 k32 v0 x2 x3 x5 x7 = some (r, v0') → ∀ (H : Heap) (locs : List Loc) (ls : Array Slot), va_P D vwCl [(a0, .inr (11, [.ref a1, .ref a21, .ref a41, .ref a42, .ref a49, .ref a52, .ref a54, .ref a55])), (a1, .inr (10, [.ref a2, .ref a7, .ref a9, .ref a10, .ref a11, .ref a14, .ref a16, .ref a19, .int v0.1.2.2.2.2.2.2.2.2.1, .int v0.1.2.2.2.2.2.2.2.2.2.1, .int v0.1.2.2.2.2.2.2.2.2.2.2.1, .int v0.1.2.2.2.2.2.2.2.2.2.2.2.1, .int v0.1.2.2.2.2.2.2.2.2.2.2.2.2.1, .int v0.1.2.2.2.2.2.2.2.2.2.2.2.2.2])), (a2, .inr (7, [.ref a3, .ref a4, .ref a5, .ref a6, .int v0.1.1.2.2.2.2])), (a3, .inl (ca 0, 9, .inl v0.1.1.1)), (a14, .inr (4, [.ref a15, .int v0.1.2.2.2.2.2.1.2.1, .int v0.1.2.2.2.2.2.1.2.2])), (a15, .inl (ca 0, 512, .inl v0.1.2.2.2.2.2.1.1)), (a49, .inr (0, [.ref a50, .ref a51, .int v0.2.2.2.2.1.2.2.1, .int v0.2.2.2.2.1.2.2.2.1, .int v0.2.2.2.2.1.2.2.2.2])), (a50, .inl (ca 0, 400, .inl v0.2.2.2.2.1.1)), (a51, .inl (ca 0, 256, .inl v0.2.2.2.2.1.2.1))] H → va_D A [(a0, .inr (11, [.ref a1, .ref a21, .ref a41, .ref a42, .ref a49, .ref a52, .ref a54, .ref a55])), (a1, .inr (10, [.ref a2, .ref a7, .ref a9, .ref a10, .ref a11, .ref a14, .ref a16, .ref a19, .int v0.1.2.2.2.2.2.2.2.2.1, .int v0.1.2.2.2.2.2.2.2.2.2.1, .int v0.1.2.2.2.2.2.2.2.2.2.2.1, .int v0.1.2.2.2.2.2.2.2.2.2.2.2.1, .int v0.1.2.2.2.2.2.2.2.2.2.2.2.2.1, .int v0.1.2.2.2.2.2.2.2.2.2.2.2.2.2])), (a2, .inr (7, [.ref a3, .ref a4, .ref a5, .ref a6, .int v0.1.1.2.2.2.2])), (a3, .inl (ca 0, 9, .inl v0.1.1.1)), (a14, .inr (4, [.ref a15, .int v0.1.2.2.2.2.2.1.2.1, .int v0.1.2.2.2.2.2.1.2.2])), (a15, .inl (ca 0, 512, .inl v0.1.2.2.2.2.2.1.1)), (a49, .inr (0, [.ref a50, .ref a51, .int v0.2.2.2.2.1.2.2.1, .int v0.2.2.2.2.1.2.2.2.1, .int v0.2.2.2.2.1.2.2.2.2])), (a50, .inl (ca 0, 400, .inl v0.2.2.2.2.1.1)), (a51, .inl (ca 0, 256, .inl v0.2.2.2.2.1.2.1))] → va_S A s.heap H locs → lv_has ls 8 [(0, .ref a0), (2, .int x2), (3, .long x3), (5, .long x5), (7, .int x7)] → W p l e ({ frames := 4, cells := 0, slots := 0, locals := 89 } : Room) s m args below meth c H locs 0 0 Q (F0 m 32 ls []) := by
    intro k32 q32 v0 x2 x3 x5 x7 hf H locs ls hP hD hS hl
    unfold fl_X11_spreads_32 at hf
    refine lv_iload hx hb dX11_spreads_32 (lv_at hl 4 rfl) ?_
    refine lv_iload_n hx hb dX11_spreads_34 rfl (lv_at hl 1 rfl) ?_
    refine xc_ge (tgt := 67) hx hb dX11_spreads_35 (by decide) hf (fun hf => ?_) (fun hf => ?_)
    · refine lv_lload_n hx hb dX11_spreads_67 rfl (lv_at hl 2 rfl) ?_
      refine lv_lload hx hb dX11_spreads_68 (lv_at hl 3 rfl) ?_
      refine xl_gt (tgt := 78) hx hb dX11_spreads_70 dX11_spreads_71 (by decide) hf (fun hf => ?_) (fun hf => ?_)
      · refine lv_iconst (v := 0) hx hb dX11_spreads_78 rfl ?_
        cases hf
        exact rt_Z hx hb hr hlocks hK hP hD hS hQ (Or.inl rfl) rfl rfl dX11_spreads_79
      · refine lv_iconst (v := 1) hx hb dX11_spreads_74 rfl ?_
        refine lv_goto (tgt := 79) hx hb dX11_spreads_75 (by decide) ?_
        cases hf
        exact rt_Z hx hb hr hlocks hK hP hD hS hQ (Or.inr rfl) rfl rfl dX11_spreads_79
    · refine lv_lload_n hx hb dX11_spreads_38 rfl (lv_at hl 2 rfl) ?_
      refine lv_ldc2 hx hb hown w1 dX11_spreads_39 ?_
      refine lv_lmul hx hb dX11_spreads_42 ?_
      refine xnml hf (fun x_7 hf => ?_)
      refine lv_lstore_n (lv' := [(3, .long x_7), (0, .ref a0), (2, .int x2), (5, .long x5), (7, .int x7)]) hx hb dX11_spreads_43 rfl hl (Nat.le_of_ble_eq_true rfl) rfl (fun ls hl => ?_)
      refine lv_lload hx hb dX11_spreads_44 (lv_at hl 3 rfl) ?_
      refine lv_aload_n hx hb dX11_spreads_46 rfl (lv_at hl 1 rfl) ?_
      refine va_get (C := RX11) (T := TX11) (N := 8) hx hb hts i11 hown hK hP 0 rfl rfl 0 (Nat.le_of_ble_eq_true rfl) w2 (fun _ h9 => h9) rfl dX11_spreads_47 ?_
      refine va_getN (C := RX10) (T := TX10) (N := 14) hx hb hts i10 hown hK hP 1 rfl rfl 0 (Nat.le_of_ble_eq_true rfl) nw34 (fun _ h9 => h9) rfl dX11_spreads_50 ?_
      refine lv_iconst (v := 0) hx hb dX11_spreads_53 rfl ?_
      obtain ⟨r_8, hc8, hf⟩ := bnd1_el hf
      refine xV_I (As := [.int (0 : Int32)]) (wx := [(a0, .inr (11, [.ref a1, .ref a21, .ref a41, .ref a42, .ref a49, .ref a52, .ref a54, .ref a55])), (a1, .inr (10, [.ref a2, .ref a7, .ref a9, .ref a10, .ref a11, .ref a14, .ref a16, .ref a19, .int v0.1.2.2.2.2.2.2.2.2.1, .int v0.1.2.2.2.2.2.2.2.2.2.1, .int v0.1.2.2.2.2.2.2.2.2.2.2.1, .int v0.1.2.2.2.2.2.2.2.2.2.2.2.1, .int v0.1.2.2.2.2.2.2.2.2.2.2.2.2.1, .int v0.1.2.2.2.2.2.2.2.2.2.2.2.2.2])), (a2, .inr (7, [.ref a3, .ref a4, .ref a5, .ref a6, .int v0.1.1.2.2.2.2])), (a3, .inl (ca 0, 9, .inl v0.1.1.1)), (a14, .inr (4, [.ref a15, .int v0.1.2.2.2.2.2.1.2.1, .int v0.1.2.2.2.2.2.1.2.2])), (a15, .inl (ca 0, 512, .inl v0.1.2.2.2.2.2.1.1)), (a49, .inr (0, [.ref a50, .ref a51, .int v0.2.2.2.2.1.2.2.1, .int v0.2.2.2.2.1.2.2.2.1, .int v0.2.2.2.2.1.2.2.2.2])), (a50, .inl (ca 0, 400, .inl v0.2.2.2.2.1.1)), (a51, .inl (ca 0, 256, .inl v0.2.2.2.2.1.2.1))]) ⟨hx, hb, hml, hown, hts⟩ (c_X7_valueOf l D ca zz a2 a3 a4 a5 a6 _ v0.1.1 (0 : Int32) r_8 hc8) (cwV 1 hts (gV gw_4_18 gw_2_15 gw_2_16 gw_1_3 gw_2_17) rfl rfl rfl (by decide +kernel) ⟨(Nat.le_of_ble_eq_true rfl), (Nat.le_of_ble_eq_true rfl)⟩) hK hN hZ hA hP hD hS [2, 3] rfl rfl rfl rfl 2 rfl rfl hl.1 rfl (Nat.le_of_ble_eq_true rfl) dX11_spreads_54 ⟨Nat.zero_le _, Nat.zero_le _⟩ rfl (fun H locs hP hD hS => ?_)
      refine lv_i2l hx hb dX11_spreads_57 rfl ?_
      refine lv_lmul hx hb dX11_spreads_58 ?_
      refine xnml hf (fun x_9 hf => ?_)
      refine lv_lstore (lv' := [(5, .long x_9), (3, .long x_7), (0, .ref a0), (2, .int x2), (7, .int x7)]) hx hb dX11_spreads_59 hl (Nat.le_of_ble_eq_true rfl) rfl (fun ls hl => ?_)
      obtain ⟨x_10, ex_10, hf⟩ := bnd_el hf
      refine lv_iinc (v := x_10) (lv' := [(7, .int x_10), (5, .long x_9), (3, .long x_7), (0, .ref a0), (2, .int x2)]) hx hb dX11_spreads_61 hl (k := 4) rfl (by rw [ex_10]; rfl) (Nat.le_of_ble_eq_true rfl) rfl (fun ls hl => ?_)
      refine lv_goto (tgt := 32) hx hb dX11_spreads_64 (by decide) ?_
      exact q32 v0 x2 x_7 x_9 x_10 hf _ _ _ hP hD hS (lv_sub hl [3, 4, 2, 1, 0] rfl)
  have b32 : ∀ (n : Nat) (v0 : V11) (x2 : Int32) (x3 : Int64) (x5 : Int64) (x7 : Int32), fb_X11_spreads_32 n v0 x2 x3 x5 x7 = some (r, v0') → ∀ (H : Heap) (locs : List Loc) (ls : Array Slot), va_P D vwCl [(a0, .inr (11, [.ref a1, .ref a21, .ref a41, .ref a42, .ref a49, .ref a52, .ref a54, .ref a55])), (a1, .inr (10, [.ref a2, .ref a7, .ref a9, .ref a10, .ref a11, .ref a14, .ref a16, .ref a19, .int v0.1.2.2.2.2.2.2.2.2.1, .int v0.1.2.2.2.2.2.2.2.2.2.1, .int v0.1.2.2.2.2.2.2.2.2.2.2.1, .int v0.1.2.2.2.2.2.2.2.2.2.2.2.1, .int v0.1.2.2.2.2.2.2.2.2.2.2.2.2.1, .int v0.1.2.2.2.2.2.2.2.2.2.2.2.2.2])), (a2, .inr (7, [.ref a3, .ref a4, .ref a5, .ref a6, .int v0.1.1.2.2.2.2])), (a3, .inl (ca 0, 9, .inl v0.1.1.1)), (a14, .inr (4, [.ref a15, .int v0.1.2.2.2.2.2.1.2.1, .int v0.1.2.2.2.2.2.1.2.2])), (a15, .inl (ca 0, 512, .inl v0.1.2.2.2.2.2.1.1)), (a49, .inr (0, [.ref a50, .ref a51, .int v0.2.2.2.2.1.2.2.1, .int v0.2.2.2.2.1.2.2.2.1, .int v0.2.2.2.2.1.2.2.2.2])), (a50, .inl (ca 0, 400, .inl v0.2.2.2.2.1.1)), (a51, .inl (ca 0, 256, .inl v0.2.2.2.2.1.2.1))] H → va_D A [(a0, .inr (11, [.ref a1, .ref a21, .ref a41, .ref a42, .ref a49, .ref a52, .ref a54, .ref a55])), (a1, .inr (10, [.ref a2, .ref a7, .ref a9, .ref a10, .ref a11, .ref a14, .ref a16, .ref a19, .int v0.1.2.2.2.2.2.2.2.2.1, .int v0.1.2.2.2.2.2.2.2.2.2.1, .int v0.1.2.2.2.2.2.2.2.2.2.2.1, .int v0.1.2.2.2.2.2.2.2.2.2.2.2.1, .int v0.1.2.2.2.2.2.2.2.2.2.2.2.2.1, .int v0.1.2.2.2.2.2.2.2.2.2.2.2.2.2])), (a2, .inr (7, [.ref a3, .ref a4, .ref a5, .ref a6, .int v0.1.1.2.2.2.2])), (a3, .inl (ca 0, 9, .inl v0.1.1.1)), (a14, .inr (4, [.ref a15, .int v0.1.2.2.2.2.2.1.2.1, .int v0.1.2.2.2.2.2.1.2.2])), (a15, .inl (ca 0, 512, .inl v0.1.2.2.2.2.2.1.1)), (a49, .inr (0, [.ref a50, .ref a51, .int v0.2.2.2.2.1.2.2.1, .int v0.2.2.2.2.1.2.2.2.1, .int v0.2.2.2.2.1.2.2.2.2])), (a50, .inl (ca 0, 400, .inl v0.2.2.2.2.1.1)), (a51, .inl (ca 0, 256, .inl v0.2.2.2.2.1.2.1))] → va_S A s.heap H locs → lv_has ls 8 [(0, .ref a0), (2, .int x2), (3, .long x3), (5, .long x5), (7, .int x7)] → W p l e ({ frames := 4, cells := 0, slots := 0, locals := 89 } : Room) s m args below meth c H locs 0 0 Q (F0 m 32 ls []) := by
    intro n
    induction n with
    | zero => intro v0 x2 x3 x5 x7 hf; exact no_el hf
    | succ n ih => exact bl32 (fb_X11_spreads_32 n) ih
  unfold f_X11_spreads at hf
  refine lv_aload_n hx hb dX11_spreads_0 rfl (lv_at hl 0 rfl) ?_
  refine lv_iload_n hx hb dX11_spreads_1 rfl (lv_at hl 1 rfl) ?_
  refine lv_iload_n hx hb dX11_spreads_2 rfl (lv_at hl 2 rfl) ?_
  obtain ⟨r_1, u_2, hc2, hf⟩ := bnd2_el hf
  refine xV_I (As := [.int p1, .int p2]) (wx := [(a0, .inr (11, [.ref a1, .ref a21, .ref a41, .ref a42, .ref a49, .ref a52, .ref a54, .ref a55])), (a1, .inr (10, [.ref a2, .ref a7, .ref a9, .ref a10, .ref a11, .ref a14, .ref a16, .ref a19, .int u_2.1.2.2.2.2.2.2.2.2.1, .int u_2.1.2.2.2.2.2.2.2.2.2.1, .int u_2.1.2.2.2.2.2.2.2.2.2.2.1, .int u_2.1.2.2.2.2.2.2.2.2.2.2.2.1, .int u_2.1.2.2.2.2.2.2.2.2.2.2.2.2.1, .int u_2.1.2.2.2.2.2.2.2.2.2.2.2.2.2])), (a2, .inr (7, [.ref a3, .ref a4, .ref a5, .ref a6, .int v0.1.1.2.2.2.2])), (a3, .inl (ca 0, 9, .inl v0.1.1.1)), (a14, .inr (4, [.ref a15, .int u_2.1.2.2.2.2.2.1.2.1, .int u_2.1.2.2.2.2.2.1.2.2])), (a15, .inl (ca 0, 512, .inl u_2.1.2.2.2.2.2.1.1)), (a49, .inr (0, [.ref a50, .ref a51, .int u_2.2.2.2.2.1.2.2.1, .int u_2.2.2.2.2.1.2.2.2.1, .int u_2.2.2.2.2.1.2.2.2.2])), (a50, .inl (ca 0, 400, .inl u_2.2.2.2.2.1.1)), (a51, .inl (ca 0, 256, .inl v0.2.2.2.2.1.2.1))]) ⟨hx, hb, hml, hown, hts⟩ (c_X11_loadTuples l D ca zz a0 a1 a2 a7 a9 a10 a11 a14 a15 a16 a19 a21 a41 a42 a49 a50 a51 a52 a54 a55 _ v0 p1 p2 r_1 u_2 hc2) (cwV 2 hts (gV gw_4_105 gw_4_107 gw_s_2_2 gw_1_1 gw_4_108) rfl rfl rfl (by decide +kernel) ⟨(Nat.le_of_ble_eq_true rfl), (Nat.le_of_ble_eq_true rfl)⟩) hK hN hZ hA hP hD hS [0, 1, 4, 5, 6, 7] rfl rfl rfl rfl 0 rfl rfl hl.1 rfl (Nat.le_of_ble_eq_true rfl) dX11_spreads_3 ⟨Nat.zero_le _, Nat.zero_le _⟩ rfl (fun H locs hP hD hS => ?_)
  refine xi_ne (tgt := 11) hx hb dX11_spreads_6 (by decide) hf (fun hf => ?_) (fun hf => ?_)
  · refine lv_aload_n hx hb dX11_spreads_11 rfl (lv_at hl 0 rfl) ?_
    refine va_get (C := RX11) (T := TX11) (N := 8) hx hb hts i11 hown hK hP 0 rfl rfl 4 (Nat.le_of_ble_eq_true rfl) w0 (fun _ h9 => h9) rfl dX11_spreads_12 ?_
    refine lv_iload_n hx hb dX11_spreads_15 rfl (lv_at hl 2 rfl) ?_
    obtain ⟨r_3, u_4, hc4, hf⟩ := bnd2_el hf
    refine xV_I (As := [.int p2]) (wx := [(a0, .inr (11, [.ref a1, .ref a21, .ref a41, .ref a42, .ref a49, .ref a52, .ref a54, .ref a55])), (a1, .inr (10, [.ref a2, .ref a7, .ref a9, .ref a10, .ref a11, .ref a14, .ref a16, .ref a19, .int u_2.1.2.2.2.2.2.2.2.2.1, .int u_2.1.2.2.2.2.2.2.2.2.2.1, .int u_2.1.2.2.2.2.2.2.2.2.2.2.1, .int u_2.1.2.2.2.2.2.2.2.2.2.2.2.1, .int u_2.1.2.2.2.2.2.2.2.2.2.2.2.2.1, .int u_2.1.2.2.2.2.2.2.2.2.2.2.2.2.2])), (a2, .inr (7, [.ref a3, .ref a4, .ref a5, .ref a6, .int v0.1.1.2.2.2.2])), (a3, .inl (ca 0, 9, .inl v0.1.1.1)), (a14, .inr (4, [.ref a15, .int u_2.1.2.2.2.2.2.1.2.1, .int u_2.1.2.2.2.2.2.1.2.2])), (a15, .inl (ca 0, 512, .inl u_2.1.2.2.2.2.2.1.1)), (a49, .inr (0, [.ref a50, .ref a51, .int u_4.2.2.1, .int u_4.2.2.2.1, .int u_4.2.2.2.2])), (a50, .inl (ca 0, 400, .inl u_4.1)), (a51, .inl (ca 0, 256, .inl u_4.2.1))]) ⟨hx, hb, hml, hown, hts⟩ (c_X0_mostOften l D ca zz a49 a50 a51 _ ((u_2.2.2.2.2.1.1, v0.2.2.2.2.1.2.1, u_2.2.2.2.2.1.2.2)) p2 r_3 u_4 hc4) (cwV 1 hts (gV gw_4_109 gw_4_110 gw_4_111 gw_1_14 gw_4_112) rfl rfl rfl (by decide +kernel) ⟨(Nat.le_of_ble_eq_true rfl), (Nat.le_of_ble_eq_true rfl)⟩) hK hN hZ hA hP hD hS [6, 7, 8] rfl rfl rfl rfl 6 rfl rfl hl.1 rfl (Nat.le_of_ble_eq_true rfl) dX11_spreads_16 ⟨Nat.zero_le _, Nat.zero_le _⟩ rfl (fun H locs hP hD hS => ?_)
    refine lv_i2l hx hb dX11_spreads_19 rfl ?_
    refine xnml hf (fun x_5 hf => ?_)
    refine lv_lstore_n (lv' := [(3, .long x_5), (0, .ref a0), (1, .int p1), (2, .int p2)]) hx hb dX11_spreads_20 rfl hl (Nat.le_of_ble_eq_true rfl) rfl (fun ls hl => ?_)
    refine lv_iload_n hx hb dX11_spreads_21 rfl (lv_at hl 2 rfl) ?_
    refine lv_iload_n hx hb dX11_spreads_22 rfl (lv_at hl 3 rfl) ?_
    refine lv_isub hx hb dX11_spreads_23 ?_
    refine lv_iconst (v := 1) hx hb dX11_spreads_24 rfl ?_
    refine lv_iadd hx hb dX11_spreads_25 ?_
    refine lv_i2l hx hb dX11_spreads_26 rfl ?_
    refine xnml hf (fun x_6 hf => ?_)
    refine lv_lstore (lv' := [(5, .long x_6), (3, .long x_5), (0, .ref a0), (1, .int p1), (2, .int p2)]) hx hb dX11_spreads_27 hl (Nat.le_of_ble_eq_true rfl) rfl (fun ls hl => ?_)
    refine lv_iconst (v := 0) hx hb dX11_spreads_29 rfl ?_
    refine lv_istore (lv' := [(7, .int (0 : Int32)), (5, .long x_6), (3, .long x_5), (0, .ref a0), (1, .int p1), (2, .int p2)]) hx hb dX11_spreads_30 hl (Nat.le_of_ble_eq_true rfl) rfl (fun ls hl => ?_)
    exact b32 FU (((v0.1.1, v0.1.2.1, v0.1.2.2.1, v0.1.2.2.2.1, v0.1.2.2.2.2.1, u_2.1.2.2.2.2.2.1, v0.1.2.2.2.2.2.2.1, v0.1.2.2.2.2.2.2.2.1, u_2.1.2.2.2.2.2.2.2.2), v0.2.1, v0.2.2.1, v0.2.2.2.1, u_4, v0.2.2.2.2.2.1, v0.2.2.2.2.2.2.1, v0.2.2.2.2.2.2.2)) p2 x_5 x_6 (0 : Int32) hf _ _ _ hP hD hS (lv_sub hl [3, 5, 2, 1, 0] rfl)
  · refine lv_iconst (v := 0) hx hb dX11_spreads_9 rfl ?_
    cases hf
    exact rt_Z hx hb hr hlocks hK hP hD hS hQ (Or.inl rfl) rfl rfl dX11_spreads_10
abbrev wq_X0_alikeAt : List Cond := Cond.code yX0_alikeAt cX0_alikeAt 4 (some .int) :: GL
set_option maxHeartbeats 4000000 in
set_option maxRecDepth 100000 in
theorem c_X0_alikeAt (l : Launch) (D : va_G) (ca : Nat → ClassId) (zz : Nat → Nat) (a0 a1 a2 : Nat) (sz : Nat) (v0 : V0) (p1 : Int32) (r : Int32) (hf : f_X0_alikeAt v0 p1 = some r) : Met l yX0_alikeAt wq_X0_alikeAt ({ frames := 0, cells := 0, slots := 0, locals := 0 } : Room) (PR D ca zz [.ref a0, .int p1] sz [(a0, .inr (0, [.ref a1, .ref a2, .int v0.2.2.1, .int v0.2.2.2.1, .int v0.2.2.2.2])), (a1, .inl (ca 0, 400, .inl v0.1))]) (QI D ca r [(a0, .inr (0, [.ref a1, .ref a2, .int v0.2.2.1, .int v0.2.2.2.1, .int v0.2.2.2.2])), (a1, .inl (ca 0, 400, .inl v0.1))] (va_A [(a0, .inr (0, [.ref a1, .ref a2, .int v0.2.2.1, .int v0.2.2.2.1, .int v0.2.2.2.2])), (a1, .inl (ca 0, 400, .inl v0.1))] sz)) 0 0 (va_A [(a0, .inr (0, [.ref a1, .ref a2, .int v0.2.2.1, .int v0.2.2.2.1, .int v0.2.2.2.2])), (a1, .inl (ca 0, 400, .inl v0.1))] sz) := by
  refine en (y := yX0_alikeAt) (wsm := wq_X0_alikeAt) (av := [.ref a0, .int p1]) (cc := cX0_alikeAt) (maxL := 4) (ret := (some .int)) (Qf := fun A => QI D ca r [(a0, .inr (0, [.ref a1, .ref a2, .int v0.2.2.1, .int v0.2.2.2.1, .int v0.2.2.2.2])), (a1, .inl (ca 0, 400, .inl v0.1))] A) (by decide) rfl (Nat.le_of_ble_eq_true rfl) ?_
  intro p e s m args below meth c A Q ls hx hb hr hml hown hts hlocks hnm hA hN hZ hK hQ hP hD hS hl
  have w0 := hts _ (List.mem_cons_of_mem _ gw_2_167)
  have w1 := hts _ (List.mem_cons_of_mem _ gw_2_165)
  have i0 : ∀ w ∈ u_ws RX0 TX0 5, w ∈ wq_X0_alikeAt := fun w h => List.mem_cons_of_mem _ (inX0 w h)
  have bl11 : ∀ (k11 : Int32 → Int32 → Int32 → Option (Int32)) (q11 : ∀ (x1 : Int32) (x2 : Int32) (x3 : Int32), k11 x1 x2 x3 = some r → ∀ (H : Heap) (locs : List Loc) (ls : Array Slot), va_P D vwCl [(a0, .inr (0, [.ref a1, .ref a2, .int v0.2.2.1, .int v0.2.2.2.1, .int v0.2.2.2.2])), (a1, .inl (ca 0, 400, .inl v0.1))] H → va_D A [(a0, .inr (0, [.ref a1, .ref a2, .int v0.2.2.1, .int v0.2.2.2.1, .int v0.2.2.2.2])), (a1, .inl (ca 0, 400, .inl v0.1))] → va_S A s.heap H locs → lv_has ls 4 [(0, .ref a0), (1, .int x1), (2, .int x2), (3, .int x3)] → W p l e ({ frames := 0, cells := 0, slots := 0, locals := 0 } : Room) s m args below meth c H locs 0 0 Q (F0 m 11 ls [])) (x1 : Int32) (x2 : Int32) (x3 : Int32), fl_X0_alikeAt_11 v0 k11 x1 x2 x3 = some r → ∀ (H : Heap) (locs : List Loc) (ls : Array Slot), va_P D vwCl [(a0, .inr (0, [.ref a1, .ref a2, .int v0.2.2.1, .int v0.2.2.2.1, .int v0.2.2.2.2])), (a1, .inl (ca 0, 400, .inl v0.1))] H → va_D A [(a0, .inr (0, [.ref a1, .ref a2, .int v0.2.2.1, .int v0.2.2.2.1, .int v0.2.2.2.2])), (a1, .inl (ca 0, 400, .inl v0.1))] → va_S A s.heap H locs → lv_has ls 4 [(0, .ref a0), (1, .int x1), (2, .int x2), (3, .int x3)] → W p l e ({ frames := 0, cells := 0, slots := 0, locals := 0 } : Room) s m args below meth c H locs 0 0 Q (F0 m 11 ls []) := by
    intro k11 q11 x1 x2 x3 hf H locs ls hP hD hS hl
    unfold fl_X0_alikeAt_11 at hf
    refine lv_iload_n hx hb dX0_alikeAt_11 rfl (lv_at hl 3 rfl) ?_
    refine lv_aload_n hx hb dX0_alikeAt_12 rfl (lv_at hl 0 rfl) ?_
    refine va_get (C := RX0) (T := TX0) (N := 5) hx hb hts i0 hown hK hP 0 rfl rfl 2 (Nat.le_of_ble_eq_true rfl) w0 (fun _ h9 => h9) rfl dX0_alikeAt_13 ?_
    refine xc_ge (tgt := 52) hx hb dX0_alikeAt_16 (by decide) hf (fun hf => ?_) (fun hf => ?_)
    · refine lv_iload_n hx hb dX0_alikeAt_52 rfl (lv_at hl 2 rfl) ?_
      cases hf
      exact rt_I hx hb hr hlocks hK hP hD hS hQ rfl rfl dX0_alikeAt_53
    · refine lv_iload_n hx hb dX0_alikeAt_19 rfl (lv_at hl 3 rfl) ?_
      refine lv_sipush (v := 400) hx hb dX0_alikeAt_20 rfl ?_
      refine xc_ge (tgt := 52) hx hb dX0_alikeAt_23 (by decide) hf (fun hf => ?_) (fun hf => ?_)
      · refine lv_iload_n hx hb dX0_alikeAt_52 rfl (lv_at hl 2 rfl) ?_
        cases hf
        exact rt_I hx hb hr hlocks hK hP hD hS hQ rfl rfl dX0_alikeAt_53
      · refine lv_aload_n hx hb dX0_alikeAt_26 rfl (lv_at hl 0 rfl) ?_
        refine va_get (C := RX0) (T := TX0) (N := 5) hx hb hts i0 hown hK hP 0 rfl rfl 0 (Nat.le_of_ble_eq_true rfl) w1 (fun _ h9 => h9) rfl dX0_alikeAt_27 ?_
        refine lv_iload_n hx hb dX0_alikeAt_30 rfl (lv_at hl 3 rfl) ?_
        refine xiald hx hb hK hP 1 rfl hf dX0_alikeAt_31 (fun hf => ?_)
        refine lv_aload_n hx hb dX0_alikeAt_32 rfl (lv_at hl 0 rfl) ?_
        refine va_get (C := RX0) (T := TX0) (N := 5) hx hb hts i0 hown hK hP 0 rfl rfl 0 (Nat.le_of_ble_eq_true rfl) w1 (fun _ h9 => h9) rfl dX0_alikeAt_33 ?_
        refine lv_iload_n hx hb dX0_alikeAt_36 rfl (lv_at hl 3 rfl) ?_
        refine lv_iload_n hx hb dX0_alikeAt_37 rfl (lv_at hl 1 rfl) ?_
        refine lv_isub hx hb dX0_alikeAt_38 ?_
        refine xiald hx hb hK hP 1 rfl hf dX0_alikeAt_39 (fun hf => ?_)
        refine xc_ne (tgt := 46) hx hb dX0_alikeAt_40 (by decide) hf (fun hf => ?_) (fun hf => ?_)
        · obtain ⟨x_1, ex_1, hf⟩ := bnd_el hf
          refine lv_iinc (v := x_1) (lv' := [(3, .int x_1), (0, .ref a0), (1, .int x1), (2, .int x2)]) hx hb dX0_alikeAt_46 hl (k := 3) rfl (by rw [ex_1]; rfl) (Nat.le_of_ble_eq_true rfl) rfl (fun ls hl => ?_)
          refine lv_goto (tgt := 11) hx hb dX0_alikeAt_49 (by decide) ?_
          exact q11 x1 x2 x_1 hf _ _ _ hP hD hS (lv_sub hl [1, 2, 3, 0] rfl)
        · obtain ⟨x_2, ex_2, hf⟩ := bnd_el hf
          refine lv_iinc (v := x_2) (lv' := [(2, .int x_2), (0, .ref a0), (1, .int x1), (3, .int x3)]) hx hb dX0_alikeAt_43 hl (k := 2) rfl (by rw [ex_2]; rfl) (Nat.le_of_ble_eq_true rfl) rfl (fun ls hl => ?_)
          obtain ⟨x_3, ex_3, hf⟩ := bnd_el hf
          refine lv_iinc (v := x_3) (lv' := [(3, .int x_3), (2, .int x_2), (0, .ref a0), (1, .int x1)]) hx hb dX0_alikeAt_46 hl (k := 3) rfl (by rw [ex_3]; rfl) (Nat.le_of_ble_eq_true rfl) rfl (fun ls hl => ?_)
          refine lv_goto (tgt := 11) hx hb dX0_alikeAt_49 (by decide) ?_
          exact q11 x1 x_2 x_3 hf _ _ _ hP hD hS (lv_sub hl [2, 3, 1, 0] rfl)
  have b11 : ∀ (n : Nat) (x1 : Int32) (x2 : Int32) (x3 : Int32), fb_X0_alikeAt_11 v0 n x1 x2 x3 = some r → ∀ (H : Heap) (locs : List Loc) (ls : Array Slot), va_P D vwCl [(a0, .inr (0, [.ref a1, .ref a2, .int v0.2.2.1, .int v0.2.2.2.1, .int v0.2.2.2.2])), (a1, .inl (ca 0, 400, .inl v0.1))] H → va_D A [(a0, .inr (0, [.ref a1, .ref a2, .int v0.2.2.1, .int v0.2.2.2.1, .int v0.2.2.2.2])), (a1, .inl (ca 0, 400, .inl v0.1))] → va_S A s.heap H locs → lv_has ls 4 [(0, .ref a0), (1, .int x1), (2, .int x2), (3, .int x3)] → W p l e ({ frames := 0, cells := 0, slots := 0, locals := 0 } : Room) s m args below meth c H locs 0 0 Q (F0 m 11 ls []) := by
    intro n
    induction n with
    | zero => intro x1 x2 x3 hf; exact no_el hf
    | succ n ih => exact bl11 (fb_X0_alikeAt_11 v0 n) ih
  unfold f_X0_alikeAt at hf
  refine lv_iload_n hx hb dX0_alikeAt_0 rfl (lv_at hl 1 rfl) ?_
  refine lv_iconst (v := 1) hx hb dX0_alikeAt_1 rfl ?_
  refine xc_ge (tgt := 7) hx hb dX0_alikeAt_2 (by decide) hf (fun hf => ?_) (fun hf => ?_)
  · refine lv_iconst (v := 0) hx hb dX0_alikeAt_7 rfl ?_
    refine lv_istore_n (lv' := [(2, .int (0 : Int32)), (0, .ref a0), (1, .int p1)]) hx hb dX0_alikeAt_8 rfl hl (Nat.le_of_ble_eq_true rfl) rfl (fun ls hl => ?_)
    refine lv_iload_n hx hb dX0_alikeAt_9 rfl (lv_at hl 2 rfl) ?_
    refine lv_istore_n (lv' := [(3, .int p1), (2, .int (0 : Int32)), (0, .ref a0), (1, .int p1)]) hx hb dX0_alikeAt_10 rfl hl (Nat.le_of_ble_eq_true rfl) rfl (fun ls hl => ?_)
    exact b11 FU p1 (0 : Int32) p1 hf _ _ _ hP hD hS (lv_sub hl [2, 3, 1, 0] rfl)
  · refine lv_iconst (v := 0) hx hb dX0_alikeAt_5 rfl ?_
    cases hf
    exact rt_I hx hb hr hlocks hK hP hD hS hQ rfl rfl dX0_alikeAt_6
abbrev wq_X11_lag : List Cond := Cond.code yX11_lag cX11_lag 3 (some .int) :: GL
set_option maxHeartbeats 4000000 in
set_option maxRecDepth 100000 in
theorem c_X11_lag (l : Launch) (D : va_G) (ca : Nat → ClassId) (zz : Nat → Nat) (a0 a1 a2 a7 a9 a10 a11 a14 a15 a16 a19 a21 a41 a42 a49 a50 a51 a52 a54 a55 : Nat) (sz : Nat) (v0 : V11) (p1 : Int32) (p2 : Int32) (r : Int32) (v0' : V11) (hf : f_X11_lag v0 p1 p2 = some (r, v0')) : Met l yX11_lag wq_X11_lag ({ frames := 3, cells := 0, slots := 0, locals := 67 } : Room) (PR D ca zz [.ref a0, .int p1, .int p2] sz [(a0, .inr (11, [.ref a1, .ref a21, .ref a41, .ref a42, .ref a49, .ref a52, .ref a54, .ref a55])), (a1, .inr (10, [.ref a2, .ref a7, .ref a9, .ref a10, .ref a11, .ref a14, .ref a16, .ref a19, .int v0.1.2.2.2.2.2.2.2.2.1, .int v0.1.2.2.2.2.2.2.2.2.2.1, .int v0.1.2.2.2.2.2.2.2.2.2.2.1, .int v0.1.2.2.2.2.2.2.2.2.2.2.2.1, .int v0.1.2.2.2.2.2.2.2.2.2.2.2.2.1, .int v0.1.2.2.2.2.2.2.2.2.2.2.2.2.2])), (a14, .inr (4, [.ref a15, .int v0.1.2.2.2.2.2.1.2.1, .int v0.1.2.2.2.2.2.1.2.2])), (a15, .inl (ca 0, 512, .inl v0.1.2.2.2.2.2.1.1)), (a49, .inr (0, [.ref a50, .ref a51, .int v0.2.2.2.2.1.2.2.1, .int v0.2.2.2.2.1.2.2.2.1, .int v0.2.2.2.2.1.2.2.2.2])), (a50, .inl (ca 0, 400, .inl v0.2.2.2.2.1.1))]) (QI D ca r [(a0, .inr (11, [.ref a1, .ref a21, .ref a41, .ref a42, .ref a49, .ref a52, .ref a54, .ref a55])), (a1, .inr (10, [.ref a2, .ref a7, .ref a9, .ref a10, .ref a11, .ref a14, .ref a16, .ref a19, .int v0'.1.2.2.2.2.2.2.2.2.1, .int v0'.1.2.2.2.2.2.2.2.2.2.1, .int v0'.1.2.2.2.2.2.2.2.2.2.2.1, .int v0'.1.2.2.2.2.2.2.2.2.2.2.2.1, .int v0'.1.2.2.2.2.2.2.2.2.2.2.2.2.1, .int v0'.1.2.2.2.2.2.2.2.2.2.2.2.2.2])), (a14, .inr (4, [.ref a15, .int v0'.1.2.2.2.2.2.1.2.1, .int v0'.1.2.2.2.2.2.1.2.2])), (a15, .inl (ca 0, 512, .inl v0'.1.2.2.2.2.2.1.1)), (a49, .inr (0, [.ref a50, .ref a51, .int v0'.2.2.2.2.1.2.2.1, .int v0'.2.2.2.2.1.2.2.2.1, .int v0'.2.2.2.2.1.2.2.2.2])), (a50, .inl (ca 0, 400, .inl v0'.2.2.2.2.1.1))] (va_A [(a0, .inr (11, [.ref a1, .ref a21, .ref a41, .ref a42, .ref a49, .ref a52, .ref a54, .ref a55])), (a1, .inr (10, [.ref a2, .ref a7, .ref a9, .ref a10, .ref a11, .ref a14, .ref a16, .ref a19, .int v0.1.2.2.2.2.2.2.2.2.1, .int v0.1.2.2.2.2.2.2.2.2.2.1, .int v0.1.2.2.2.2.2.2.2.2.2.2.1, .int v0.1.2.2.2.2.2.2.2.2.2.2.2.1, .int v0.1.2.2.2.2.2.2.2.2.2.2.2.2.1, .int v0.1.2.2.2.2.2.2.2.2.2.2.2.2.2])), (a14, .inr (4, [.ref a15, .int v0.1.2.2.2.2.2.1.2.1, .int v0.1.2.2.2.2.2.1.2.2])), (a15, .inl (ca 0, 512, .inl v0.1.2.2.2.2.2.1.1)), (a49, .inr (0, [.ref a50, .ref a51, .int v0.2.2.2.2.1.2.2.1, .int v0.2.2.2.2.1.2.2.2.1, .int v0.2.2.2.2.1.2.2.2.2])), (a50, .inl (ca 0, 400, .inl v0.2.2.2.2.1.1))] sz)) 0 0 (va_A [(a0, .inr (11, [.ref a1, .ref a21, .ref a41, .ref a42, .ref a49, .ref a52, .ref a54, .ref a55])), (a1, .inr (10, [.ref a2, .ref a7, .ref a9, .ref a10, .ref a11, .ref a14, .ref a16, .ref a19, .int v0.1.2.2.2.2.2.2.2.2.1, .int v0.1.2.2.2.2.2.2.2.2.2.1, .int v0.1.2.2.2.2.2.2.2.2.2.2.1, .int v0.1.2.2.2.2.2.2.2.2.2.2.2.1, .int v0.1.2.2.2.2.2.2.2.2.2.2.2.2.1, .int v0.1.2.2.2.2.2.2.2.2.2.2.2.2.2])), (a14, .inr (4, [.ref a15, .int v0.1.2.2.2.2.2.1.2.1, .int v0.1.2.2.2.2.2.1.2.2])), (a15, .inl (ca 0, 512, .inl v0.1.2.2.2.2.2.1.1)), (a49, .inr (0, [.ref a50, .ref a51, .int v0.2.2.2.2.1.2.2.1, .int v0.2.2.2.2.1.2.2.2.1, .int v0.2.2.2.2.1.2.2.2.2])), (a50, .inl (ca 0, 400, .inl v0.2.2.2.2.1.1))] sz) := by
  refine en (y := yX11_lag) (wsm := wq_X11_lag) (av := [.ref a0, .int p1, .int p2]) (cc := cX11_lag) (maxL := 3) (ret := (some .int)) (Qf := fun A => QI D ca r [(a0, .inr (11, [.ref a1, .ref a21, .ref a41, .ref a42, .ref a49, .ref a52, .ref a54, .ref a55])), (a1, .inr (10, [.ref a2, .ref a7, .ref a9, .ref a10, .ref a11, .ref a14, .ref a16, .ref a19, .int v0'.1.2.2.2.2.2.2.2.2.1, .int v0'.1.2.2.2.2.2.2.2.2.2.1, .int v0'.1.2.2.2.2.2.2.2.2.2.2.1, .int v0'.1.2.2.2.2.2.2.2.2.2.2.2.1, .int v0'.1.2.2.2.2.2.2.2.2.2.2.2.2.1, .int v0'.1.2.2.2.2.2.2.2.2.2.2.2.2.2])), (a14, .inr (4, [.ref a15, .int v0'.1.2.2.2.2.2.1.2.1, .int v0'.1.2.2.2.2.2.1.2.2])), (a15, .inl (ca 0, 512, .inl v0'.1.2.2.2.2.2.1.1)), (a49, .inr (0, [.ref a50, .ref a51, .int v0'.2.2.2.2.1.2.2.1, .int v0'.2.2.2.2.1.2.2.2.1, .int v0'.2.2.2.2.1.2.2.2.2])), (a50, .inl (ca 0, 400, .inl v0'.2.2.2.2.1.1))] A) (by decide) rfl (Nat.le_of_ble_eq_true rfl) ?_
  intro p e s m args below meth c A Q ls hx hb hr hml hown hts hlocks hnm hA hN hZ hK hQ hP hD hS hl
  have w0 := hts _ (List.mem_cons_of_mem _ gw_2_191)
  have i11 : ∀ w ∈ u_ws RX11 TX11 8, w ∈ wq_X11_lag := fun w h => List.mem_cons_of_mem _ (inX11 w h)
  unfold f_X11_lag at hf
  refine lv_iload_n hx hb dX11_lag_0 rfl (lv_at hl 2 rfl) ?_
  refine lv_iconst (v := 1) hx hb dX11_lag_1 rfl ?_
  refine xc_lt (tgt := 25) hx hb dX11_lag_2 (by decide) hf (fun hf => ?_) (fun hf => ?_)
  · refine lv_iconst (v := -1) hx hb dX11_lag_25 rfl ?_
    cases hf
    exact rt_I hx hb hr hlocks hK hP hD hS hQ rfl rfl dX11_lag_26
  · refine lv_iload_n hx hb dX11_lag_5 rfl (lv_at hl 2 rfl) ?_
    refine lv_bipush (v := 32) hx hb dX11_lag_6 rfl ?_
    refine xc_gt (tgt := 25) hx hb dX11_lag_8 (by decide) hf (fun hf => ?_) (fun hf => ?_)
    · refine lv_iconst (v := -1) hx hb dX11_lag_25 rfl ?_
      cases hf
      exact rt_I hx hb hr hlocks hK hP hD hS hQ rfl rfl dX11_lag_26
    · refine lv_iload_n hx hb dX11_lag_11 rfl (lv_at hl 2 rfl) ?_
      refine lv_iload_n hx hb dX11_lag_12 rfl (lv_at hl 1 rfl) ?_
      refine xc_ge (tgt := 25) hx hb dX11_lag_13 (by decide) hf (fun hf => ?_) (fun hf => ?_)
      · refine lv_iconst (v := -1) hx hb dX11_lag_25 rfl ?_
        cases hf
        exact rt_I hx hb hr hlocks hK hP hD hS hQ rfl rfl dX11_lag_26
      · refine lv_aload_n hx hb dX11_lag_16 rfl (lv_at hl 0 rfl) ?_
        refine lv_iload_n hx hb dX11_lag_17 rfl (lv_at hl 1 rfl) ?_
        refine lv_iconst (v := 2) hx hb dX11_lag_18 rfl ?_
        obtain ⟨r_1, u_2, hc2, hf⟩ := bnd2_el hf
        refine xV_I (As := [.int p1, .int (2 : Int32)]) (wx := [(a0, .inr (11, [.ref a1, .ref a21, .ref a41, .ref a42, .ref a49, .ref a52, .ref a54, .ref a55])), (a1, .inr (10, [.ref a2, .ref a7, .ref a9, .ref a10, .ref a11, .ref a14, .ref a16, .ref a19, .int u_2.1.2.2.2.2.2.2.2.2.1, .int u_2.1.2.2.2.2.2.2.2.2.2.1, .int u_2.1.2.2.2.2.2.2.2.2.2.2.1, .int u_2.1.2.2.2.2.2.2.2.2.2.2.2.1, .int u_2.1.2.2.2.2.2.2.2.2.2.2.2.2.1, .int u_2.1.2.2.2.2.2.2.2.2.2.2.2.2.2])), (a14, .inr (4, [.ref a15, .int u_2.1.2.2.2.2.2.1.2.1, .int u_2.1.2.2.2.2.2.1.2.2])), (a15, .inl (ca 0, 512, .inl u_2.1.2.2.2.2.2.1.1)), (a49, .inr (0, [.ref a50, .ref a51, .int u_2.2.2.2.2.1.2.2.1, .int u_2.2.2.2.2.1.2.2.2.1, .int u_2.2.2.2.2.1.2.2.2.2])), (a50, .inl (ca 0, 400, .inl u_2.2.2.2.2.1.1))]) ⟨hx, hb, hml, hown, hts⟩ (c_X11_loadLatest l D ca zz a0 a1 a2 a7 a9 a10 a11 a14 a15 a16 a19 a21 a41 a42 a49 a50 a51 a52 a54 a55 _ v0 p1 (2 : Int32) r_1 u_2 hc2) (cwV 2 hts (gV gw_4_57 gw_4_59 gw_s_1_13 gw_1_1 gw_4_60) rfl rfl rfl (by decide +kernel) ⟨(Nat.le_of_ble_eq_true rfl), (Nat.le_of_ble_eq_true rfl)⟩) hK hN hZ hA hP hD hS [0, 1, 2, 3, 4, 5] rfl rfl rfl rfl 0 rfl rfl hl.1 rfl (Nat.le_of_ble_eq_true rfl) dX11_lag_19 ⟨Nat.zero_le _, Nat.zero_le _⟩ rfl (fun H locs hP hD hS => ?_)
        refine xi_ne (tgt := 27) hx hb dX11_lag_22 (by decide) hf (fun hf => ?_) (fun hf => ?_)
        · refine lv_aload_n hx hb dX11_lag_27 rfl (lv_at hl 0 rfl) ?_
          refine va_get (C := RX11) (T := TX11) (N := 8) hx hb hts i11 hown hK hP 0 rfl rfl 4 (Nat.le_of_ble_eq_true rfl) w0 (fun _ h9 => h9) rfl dX11_lag_28 ?_
          refine lv_iload_n hx hb dX11_lag_31 rfl (lv_at hl 2 rfl) ?_
          obtain ⟨r_3, hc3, hf⟩ := bnd1_el hf
          refine xV_I (As := [.int p2]) (wx := [(a0, .inr (11, [.ref a1, .ref a21, .ref a41, .ref a42, .ref a49, .ref a52, .ref a54, .ref a55])), (a1, .inr (10, [.ref a2, .ref a7, .ref a9, .ref a10, .ref a11, .ref a14, .ref a16, .ref a19, .int u_2.1.2.2.2.2.2.2.2.2.1, .int u_2.1.2.2.2.2.2.2.2.2.2.1, .int u_2.1.2.2.2.2.2.2.2.2.2.2.1, .int u_2.1.2.2.2.2.2.2.2.2.2.2.2.1, .int u_2.1.2.2.2.2.2.2.2.2.2.2.2.2.1, .int u_2.1.2.2.2.2.2.2.2.2.2.2.2.2.2])), (a14, .inr (4, [.ref a15, .int u_2.1.2.2.2.2.2.1.2.1, .int u_2.1.2.2.2.2.2.1.2.2])), (a15, .inl (ca 0, 512, .inl u_2.1.2.2.2.2.2.1.1)), (a49, .inr (0, [.ref a50, .ref a51, .int u_2.2.2.2.2.1.2.2.1, .int u_2.2.2.2.2.1.2.2.2.1, .int u_2.2.2.2.2.1.2.2.2.2])), (a50, .inl (ca 0, 400, .inl u_2.2.2.2.2.1.1))]) ⟨hx, hb, hml, hown, hts⟩ (c_X0_alikeAt l D ca zz a49 a50 a51 _ ((u_2.2.2.2.2.1.1, v0.2.2.2.2.1.2.1, u_2.2.2.2.2.1.2.2)) p2 r_3 hc3) (cwV 1 hts (gV gw_4_125 gw_4_126 gw_4_127 gw_1_14 gw_4_128) rfl rfl rfl (by decide +kernel) ⟨(Nat.le_of_ble_eq_true rfl), (Nat.le_of_ble_eq_true rfl)⟩) hK hN hZ hA hP hD hS [4, 5] rfl rfl rfl rfl 4 rfl rfl hl.1 rfl (Nat.le_of_ble_eq_true rfl) dX11_lag_32 ⟨Nat.zero_le _, Nat.zero_le _⟩ rfl (fun H locs hP hD hS => ?_)
          cases hf
          exact rt_I hx hb hr hlocks hK hP hD hS hQ rfl rfl dX11_lag_35
        · refine lv_iconst (v := -1) hx hb dX11_lag_25 rfl ?_
          cases hf
          exact rt_I hx hb hr hlocks hK hP hD hS hQ rfl rfl dX11_lag_26
abbrev wq_X11_echo : List Cond := Cond.code yX11_echo cX11_echo 6 (some .int) :: GL
set_option maxHeartbeats 4000000 in
set_option maxRecDepth 100000 in
theorem c_X11_echo (l : Launch) (D : va_G) (ca : Nat → ClassId) (zz : Nat → Nat) (a0 a1 a2 a7 a9 a10 a11 a14 a15 a16 a19 a21 a41 a42 a49 a50 a51 a52 a54 a55 : Nat) (sz : Nat) (v0 : V11) (p1 : Int32) (r : Int32) (v0' : V11) (hf : f_X11_echo v0 p1 = some (r, v0')) : Met l yX11_echo wq_X11_echo ({ frames := 3, cells := 0, slots := 0, locals := 67 } : Room) (PR D ca zz [.ref a0, .int p1] sz [(a0, .inr (11, [.ref a1, .ref a21, .ref a41, .ref a42, .ref a49, .ref a52, .ref a54, .ref a55])), (a1, .inr (10, [.ref a2, .ref a7, .ref a9, .ref a10, .ref a11, .ref a14, .ref a16, .ref a19, .int v0.1.2.2.2.2.2.2.2.2.1, .int v0.1.2.2.2.2.2.2.2.2.2.1, .int v0.1.2.2.2.2.2.2.2.2.2.2.1, .int v0.1.2.2.2.2.2.2.2.2.2.2.2.1, .int v0.1.2.2.2.2.2.2.2.2.2.2.2.2.1, .int v0.1.2.2.2.2.2.2.2.2.2.2.2.2.2])), (a14, .inr (4, [.ref a15, .int v0.1.2.2.2.2.2.1.2.1, .int v0.1.2.2.2.2.2.1.2.2])), (a15, .inl (ca 0, 512, .inl v0.1.2.2.2.2.2.1.1)), (a49, .inr (0, [.ref a50, .ref a51, .int v0.2.2.2.2.1.2.2.1, .int v0.2.2.2.2.1.2.2.2.1, .int v0.2.2.2.2.1.2.2.2.2])), (a50, .inl (ca 0, 400, .inl v0.2.2.2.2.1.1))]) (QI D ca r [(a0, .inr (11, [.ref a1, .ref a21, .ref a41, .ref a42, .ref a49, .ref a52, .ref a54, .ref a55])), (a1, .inr (10, [.ref a2, .ref a7, .ref a9, .ref a10, .ref a11, .ref a14, .ref a16, .ref a19, .int v0'.1.2.2.2.2.2.2.2.2.1, .int v0'.1.2.2.2.2.2.2.2.2.2.1, .int v0'.1.2.2.2.2.2.2.2.2.2.2.1, .int v0'.1.2.2.2.2.2.2.2.2.2.2.2.1, .int v0'.1.2.2.2.2.2.2.2.2.2.2.2.2.1, .int v0'.1.2.2.2.2.2.2.2.2.2.2.2.2.2])), (a14, .inr (4, [.ref a15, .int v0'.1.2.2.2.2.2.1.2.1, .int v0'.1.2.2.2.2.2.1.2.2])), (a15, .inl (ca 0, 512, .inl v0'.1.2.2.2.2.2.1.1)), (a49, .inr (0, [.ref a50, .ref a51, .int v0'.2.2.2.2.1.2.2.1, .int v0'.2.2.2.2.1.2.2.2.1, .int v0'.2.2.2.2.1.2.2.2.2])), (a50, .inl (ca 0, 400, .inl v0'.2.2.2.2.1.1))] (va_A [(a0, .inr (11, [.ref a1, .ref a21, .ref a41, .ref a42, .ref a49, .ref a52, .ref a54, .ref a55])), (a1, .inr (10, [.ref a2, .ref a7, .ref a9, .ref a10, .ref a11, .ref a14, .ref a16, .ref a19, .int v0.1.2.2.2.2.2.2.2.2.1, .int v0.1.2.2.2.2.2.2.2.2.2.1, .int v0.1.2.2.2.2.2.2.2.2.2.2.1, .int v0.1.2.2.2.2.2.2.2.2.2.2.2.1, .int v0.1.2.2.2.2.2.2.2.2.2.2.2.2.1, .int v0.1.2.2.2.2.2.2.2.2.2.2.2.2.2])), (a14, .inr (4, [.ref a15, .int v0.1.2.2.2.2.2.1.2.1, .int v0.1.2.2.2.2.2.1.2.2])), (a15, .inl (ca 0, 512, .inl v0.1.2.2.2.2.2.1.1)), (a49, .inr (0, [.ref a50, .ref a51, .int v0.2.2.2.2.1.2.2.1, .int v0.2.2.2.2.1.2.2.2.1, .int v0.2.2.2.2.1.2.2.2.2])), (a50, .inl (ca 0, 400, .inl v0.2.2.2.2.1.1))] sz)) 0 0 (va_A [(a0, .inr (11, [.ref a1, .ref a21, .ref a41, .ref a42, .ref a49, .ref a52, .ref a54, .ref a55])), (a1, .inr (10, [.ref a2, .ref a7, .ref a9, .ref a10, .ref a11, .ref a14, .ref a16, .ref a19, .int v0.1.2.2.2.2.2.2.2.2.1, .int v0.1.2.2.2.2.2.2.2.2.2.1, .int v0.1.2.2.2.2.2.2.2.2.2.2.1, .int v0.1.2.2.2.2.2.2.2.2.2.2.2.1, .int v0.1.2.2.2.2.2.2.2.2.2.2.2.2.1, .int v0.1.2.2.2.2.2.2.2.2.2.2.2.2.2])), (a14, .inr (4, [.ref a15, .int v0.1.2.2.2.2.2.1.2.1, .int v0.1.2.2.2.2.2.1.2.2])), (a15, .inl (ca 0, 512, .inl v0.1.2.2.2.2.2.1.1)), (a49, .inr (0, [.ref a50, .ref a51, .int v0.2.2.2.2.1.2.2.1, .int v0.2.2.2.2.1.2.2.2.1, .int v0.2.2.2.2.1.2.2.2.2])), (a50, .inl (ca 0, 400, .inl v0.2.2.2.2.1.1))] sz) := by
  refine en (y := yX11_echo) (wsm := wq_X11_echo) (av := [.ref a0, .int p1]) (cc := cX11_echo) (maxL := 6) (ret := (some .int)) (Qf := fun A => QI D ca r [(a0, .inr (11, [.ref a1, .ref a21, .ref a41, .ref a42, .ref a49, .ref a52, .ref a54, .ref a55])), (a1, .inr (10, [.ref a2, .ref a7, .ref a9, .ref a10, .ref a11, .ref a14, .ref a16, .ref a19, .int v0'.1.2.2.2.2.2.2.2.2.1, .int v0'.1.2.2.2.2.2.2.2.2.2.1, .int v0'.1.2.2.2.2.2.2.2.2.2.2.1, .int v0'.1.2.2.2.2.2.2.2.2.2.2.2.1, .int v0'.1.2.2.2.2.2.2.2.2.2.2.2.2.1, .int v0'.1.2.2.2.2.2.2.2.2.2.2.2.2.2])), (a14, .inr (4, [.ref a15, .int v0'.1.2.2.2.2.2.1.2.1, .int v0'.1.2.2.2.2.2.1.2.2])), (a15, .inl (ca 0, 512, .inl v0'.1.2.2.2.2.2.1.1)), (a49, .inr (0, [.ref a50, .ref a51, .int v0'.2.2.2.2.1.2.2.1, .int v0'.2.2.2.2.1.2.2.2.1, .int v0'.2.2.2.2.1.2.2.2.2])), (a50, .inl (ca 0, 400, .inl v0'.2.2.2.2.1.1))] A) (by decide) rfl (Nat.le_of_ble_eq_true rfl) ?_
  intro p e s m args below meth c A Q ls hx hb hr hml hown hts hlocks hnm hA hN hZ hK hQ hP hD hS hl
  have w0 := hts _ (List.mem_cons_of_mem _ gw_2_191)
  have i11 : ∀ w ∈ u_ws RX11 TX11 8, w ∈ wq_X11_echo := fun w h => List.mem_cons_of_mem _ (inX11 w h)
  have bl25 : ∀ (k25 : V11 → Int32 → Int32 → Int32 → Int32 → Option (Int32 × V11)) (q25 : ∀ (v0 : V11) (x1 : Int32) (x2 : Int32) (x3 : Int32) (x4 : Int32), k25 v0 x1 x2 x3 x4 = some (r, v0') → ∀ (H : Heap) (locs : List Loc) (ls : Array Slot), va_P D vwCl [(a0, .inr (11, [.ref a1, .ref a21, .ref a41, .ref a42, .ref a49, .ref a52, .ref a54, .ref a55])), (a1, .inr (10, [.ref a2, .ref a7, .ref a9, .ref a10, .ref a11, .ref a14, .ref a16, .ref a19, .int v0.1.2.2.2.2.2.2.2.2.1, .int v0.1.2.2.2.2.2.2.2.2.2.1, .int v0.1.2.2.2.2.2.2.2.2.2.2.1, .int v0.1.2.2.2.2.2.2.2.2.2.2.2.1, .int v0.1.2.2.2.2.2.2.2.2.2.2.2.2.1, .int v0.1.2.2.2.2.2.2.2.2.2.2.2.2.2])), (a14, .inr (4, [.ref a15, .int v0.1.2.2.2.2.2.1.2.1, .int v0.1.2.2.2.2.2.1.2.2])), (a15, .inl (ca 0, 512, .inl v0.1.2.2.2.2.2.1.1)), (a49, .inr (0, [.ref a50, .ref a51, .int v0.2.2.2.2.1.2.2.1, .int v0.2.2.2.2.1.2.2.2.1, .int v0.2.2.2.2.1.2.2.2.2])), (a50, .inl (ca 0, 400, .inl v0.2.2.2.2.1.1))] H → va_D A [(a0, .inr (11, [.ref a1, .ref a21, .ref a41, .ref a42, .ref a49, .ref a52, .ref a54, .ref a55])), (a1, .inr (10, [.ref a2, .ref a7, .ref a9, .ref a10, .ref a11, .ref a14, .ref a16, .ref a19, .int v0.1.2.2.2.2.2.2.2.2.1, .int v0.1.2.2.2.2.2.2.2.2.2.1, .int v0.1.2.2.2.2.2.2.2.2.2.2.1, .int v0.1.2.2.2.2.2.2.2.2.2.2.2.1, .int v0.1.2.2.2.2.2.2.2.2.2.2.2.2.1, .int v0.1.2.2.2.2.2.2.2.2.2.2.2.2.2])), (a14, .inr (4, [.ref a15, .int v0.1.2.2.2.2.2.1.2.1, .int v0.1.2.2.2.2.2.1.2.2])), (a15, .inl (ca 0, 512, .inl v0.1.2.2.2.2.2.1.1)), (a49, .inr (0, [.ref a50, .ref a51, .int v0.2.2.2.2.1.2.2.1, .int v0.2.2.2.2.1.2.2.2.1, .int v0.2.2.2.2.1.2.2.2.2])), (a50, .inl (ca 0, 400, .inl v0.2.2.2.2.1.1))] → va_S A s.heap H locs → lv_has ls 6 [(0, .ref a0), (1, .int x1), (2, .int x2), (3, .int x3), (4, .int x4)] → W p l e ({ frames := 3, cells := 0, slots := 0, locals := 67 } : Room) s m args below meth c H locs 0 0 Q (F0 m 25 ls [])) (v0 : V11) (x1 : Int32) (x2 : Int32) (x3 : Int32) (x4 : Int32), fl_X11_echo_25 k25 v0 x1 x2 x3 x4 = some (r, v0') → ∀ (H : Heap) (locs : List Loc) (ls : Array Slot), va_P D vwCl [(a0, .inr (11, [.ref a1, .ref a21, .ref a41, .ref a42, .ref a49, .ref a52, .ref a54, .ref a55])), (a1, .inr (10, [.ref a2, .ref a7, .ref a9, .ref a10, .ref a11, .ref a14, .ref a16, .ref a19, .int v0.1.2.2.2.2.2.2.2.2.1, .int v0.1.2.2.2.2.2.2.2.2.2.1, .int v0.1.2.2.2.2.2.2.2.2.2.2.1, .int v0.1.2.2.2.2.2.2.2.2.2.2.2.1, .int v0.1.2.2.2.2.2.2.2.2.2.2.2.2.1, .int v0.1.2.2.2.2.2.2.2.2.2.2.2.2.2])), (a14, .inr (4, [.ref a15, .int v0.1.2.2.2.2.2.1.2.1, .int v0.1.2.2.2.2.2.1.2.2])), (a15, .inl (ca 0, 512, .inl v0.1.2.2.2.2.2.1.1)), (a49, .inr (0, [.ref a50, .ref a51, .int v0.2.2.2.2.1.2.2.1, .int v0.2.2.2.2.1.2.2.2.1, .int v0.2.2.2.2.1.2.2.2.2])), (a50, .inl (ca 0, 400, .inl v0.2.2.2.2.1.1))] H → va_D A [(a0, .inr (11, [.ref a1, .ref a21, .ref a41, .ref a42, .ref a49, .ref a52, .ref a54, .ref a55])), (a1, .inr (10, [.ref a2, .ref a7, .ref a9, .ref a10, .ref a11, .ref a14, .ref a16, .ref a19, .int v0.1.2.2.2.2.2.2.2.2.1, .int v0.1.2.2.2.2.2.2.2.2.2.1, .int v0.1.2.2.2.2.2.2.2.2.2.2.1, .int v0.1.2.2.2.2.2.2.2.2.2.2.2.1, .int v0.1.2.2.2.2.2.2.2.2.2.2.2.2.1, .int v0.1.2.2.2.2.2.2.2.2.2.2.2.2.2])), (a14, .inr (4, [.ref a15, .int v0.1.2.2.2.2.2.1.2.1, .int v0.1.2.2.2.2.2.1.2.2])), (a15, .inl (ca 0, 512, .inl v0.1.2.2.2.2.2.1.1)), (a49, .inr (0, [.ref a50, .ref a51, .int v0.2.2.2.2.1.2.2.1, .int v0.2.2.2.2.1.2.2.2.1, .int v0.2.2.2.2.1.2.2.2.2])), (a50, .inl (ca 0, 400, .inl v0.2.2.2.2.1.1))] → va_S A s.heap H locs → lv_has ls 6 [(0, .ref a0), (1, .int x1), (2, .int x2), (3, .int x3), (4, .int x4)] → W p l e ({ frames := 3, cells := 0, slots := 0, locals := 67 } : Room) s m args below meth c H locs 0 0 Q (F0 m 25 ls []) := by
    intro k25 q25 v0 x1 x2 x3 x4 hf H locs ls hP hD hS hl
    unfold fl_X11_echo_25 at hf
    refine lv_iload hx hb dX11_echo_25 (lv_at hl 4 rfl) ?_
    refine lv_bipush (v := 32) hx hb dX11_echo_27 rfl ?_
    refine xc_gt (tgt := 76) hx hb dX11_echo_29 (by decide) hf (fun hf => ?_) (fun hf => ?_)
    · refine lv_iload_n hx hb dX11_echo_76 rfl (lv_at hl 2 rfl) ?_
      cases hf
      exact rt_I hx hb hr hlocks hK hP hD hS hQ rfl rfl dX11_echo_77
    · refine lv_iload hx hb dX11_echo_32 (lv_at hl 4 rfl) ?_
      refine lv_iload_n hx hb dX11_echo_34 rfl (lv_at hl 1 rfl) ?_
      refine xc_ge (tgt := 76) hx hb dX11_echo_35 (by decide) hf (fun hf => ?_) (fun hf => ?_)
      · refine lv_iload_n hx hb dX11_echo_76 rfl (lv_at hl 2 rfl) ?_
        cases hf
        exact rt_I hx hb hr hlocks hK hP hD hS hQ rfl rfl dX11_echo_77
      · refine lv_aload_n hx hb dX11_echo_38 rfl (lv_at hl 0 rfl) ?_
        refine va_get (C := RX11) (T := TX11) (N := 8) hx hb hts i11 hown hK hP 0 rfl rfl 4 (Nat.le_of_ble_eq_true rfl) w0 (fun _ h9 => h9) rfl dX11_echo_39 ?_
        refine lv_iload hx hb dX11_echo_42 (lv_at hl 4 rfl) ?_
        obtain ⟨r_4, hc4, hf⟩ := bnd1_el hf
        refine xV_I (As := [.int x4]) (wx := [(a0, .inr (11, [.ref a1, .ref a21, .ref a41, .ref a42, .ref a49, .ref a52, .ref a54, .ref a55])), (a1, .inr (10, [.ref a2, .ref a7, .ref a9, .ref a10, .ref a11, .ref a14, .ref a16, .ref a19, .int v0.1.2.2.2.2.2.2.2.2.1, .int v0.1.2.2.2.2.2.2.2.2.2.1, .int v0.1.2.2.2.2.2.2.2.2.2.2.1, .int v0.1.2.2.2.2.2.2.2.2.2.2.2.1, .int v0.1.2.2.2.2.2.2.2.2.2.2.2.2.1, .int v0.1.2.2.2.2.2.2.2.2.2.2.2.2.2])), (a14, .inr (4, [.ref a15, .int v0.1.2.2.2.2.2.1.2.1, .int v0.1.2.2.2.2.2.1.2.2])), (a15, .inl (ca 0, 512, .inl v0.1.2.2.2.2.2.1.1)), (a49, .inr (0, [.ref a50, .ref a51, .int v0.2.2.2.2.1.2.2.1, .int v0.2.2.2.2.1.2.2.2.1, .int v0.2.2.2.2.1.2.2.2.2])), (a50, .inl (ca 0, 400, .inl v0.2.2.2.2.1.1))]) ⟨hx, hb, hml, hown, hts⟩ (c_X0_alikeAt l D ca zz a49 a50 a51 _ v0.2.2.2.2.1 x4 r_4 hc4) (cwV 1 hts (gV gw_4_125 gw_4_126 gw_4_127 gw_1_14 gw_4_128) rfl rfl rfl (by decide +kernel) ⟨(Nat.le_of_ble_eq_true rfl), (Nat.le_of_ble_eq_true rfl)⟩) hK hN hZ hA hP hD hS [4, 5] rfl rfl rfl rfl 4 rfl rfl hl.1 rfl (Nat.le_of_ble_eq_true rfl) dX11_echo_44 ⟨Nat.zero_le _, Nat.zero_le _⟩ rfl (fun H locs hP hD hS => ?_)
        refine lv_istore (lv' := [(5, .int r_4), (0, .ref a0), (1, .int x1), (2, .int x2), (3, .int x3), (4, .int x4)]) hx hb dX11_echo_47 hl (Nat.le_of_ble_eq_true rfl) rfl (fun ls hl => ?_)
        refine lv_iload hx hb dX11_echo_49 (lv_at hl 0 rfl) ?_
        refine lv_iload_n hx hb dX11_echo_51 rfl (lv_at hl 2 rfl) ?_
        refine lv_iload_n hx hb dX11_echo_52 rfl (lv_at hl 3 rfl) ?_
        refine lv_isub hx hb dX11_echo_53 ?_
        refine lv_imul hx hb dX11_echo_54 ?_
        refine lv_iload_n hx hb dX11_echo_55 rfl (lv_at hl 4 rfl) ?_
        refine lv_iload_n hx hb dX11_echo_56 rfl (lv_at hl 2 rfl) ?_
        refine lv_iload hx hb dX11_echo_57 (lv_at hl 5 rfl) ?_
        refine lv_isub hx hb dX11_echo_59 ?_
        refine lv_imul hx hb dX11_echo_60 ?_
        refine xc_le (tgt := 70) hx hb dX11_echo_61 (by decide) hf (fun hf => ?_) (fun hf => ?_)
        · obtain ⟨x_5, ex_5, hf⟩ := bnd_el hf
          refine lv_iinc (v := x_5) (lv' := [(4, .int x_5), (5, .int r_4), (0, .ref a0), (1, .int x1), (2, .int x2), (3, .int x3)]) hx hb dX11_echo_70 hl (k := 5) rfl (by rw [ex_5]; rfl) (Nat.le_of_ble_eq_true rfl) rfl (fun ls hl => ?_)
          refine lv_goto (tgt := 25) hx hb dX11_echo_73 (by decide) ?_
          exact q25 v0 x1 x2 x3 x_5 hf _ _ _ hP hD hS (lv_sub hl [2, 3, 4, 5, 0] rfl)
        · refine lv_iload hx hb dX11_echo_64 (lv_at hl 5 rfl) ?_
          refine lv_istore_n (lv' := [(2, .int x4), (5, .int r_4), (0, .ref a0), (1, .int x1), (3, .int x3), (4, .int x4)]) hx hb dX11_echo_66 rfl hl (Nat.le_of_ble_eq_true rfl) rfl (fun ls hl => ?_)
          refine lv_iload hx hb dX11_echo_67 (lv_at hl 1 rfl) ?_
          refine lv_istore_n (lv' := [(3, .int r_4), (2, .int x4), (5, .int r_4), (0, .ref a0), (1, .int x1), (4, .int x4)]) hx hb dX11_echo_69 rfl hl (Nat.le_of_ble_eq_true rfl) rfl (fun ls hl => ?_)
          obtain ⟨x_6, ex_6, hf⟩ := bnd_el hf
          refine lv_iinc (v := x_6) (lv' := [(4, .int x_6), (3, .int r_4), (2, .int x4), (5, .int r_4), (0, .ref a0), (1, .int x1)]) hx hb dX11_echo_70 hl (k := 5) rfl (by rw [ex_6]; rfl) (Nat.le_of_ble_eq_true rfl) rfl (fun ls hl => ?_)
          refine lv_goto (tgt := 25) hx hb dX11_echo_73 (by decide) ?_
          exact q25 v0 x1 x4 r_4 x_6 hf _ _ _ hP hD hS (lv_sub hl [4, 5, 2, 1, 0] rfl)
  have b25 : ∀ (n : Nat) (v0 : V11) (x1 : Int32) (x2 : Int32) (x3 : Int32) (x4 : Int32), fb_X11_echo_25 n v0 x1 x2 x3 x4 = some (r, v0') → ∀ (H : Heap) (locs : List Loc) (ls : Array Slot), va_P D vwCl [(a0, .inr (11, [.ref a1, .ref a21, .ref a41, .ref a42, .ref a49, .ref a52, .ref a54, .ref a55])), (a1, .inr (10, [.ref a2, .ref a7, .ref a9, .ref a10, .ref a11, .ref a14, .ref a16, .ref a19, .int v0.1.2.2.2.2.2.2.2.2.1, .int v0.1.2.2.2.2.2.2.2.2.2.1, .int v0.1.2.2.2.2.2.2.2.2.2.2.1, .int v0.1.2.2.2.2.2.2.2.2.2.2.2.1, .int v0.1.2.2.2.2.2.2.2.2.2.2.2.2.1, .int v0.1.2.2.2.2.2.2.2.2.2.2.2.2.2])), (a14, .inr (4, [.ref a15, .int v0.1.2.2.2.2.2.1.2.1, .int v0.1.2.2.2.2.2.1.2.2])), (a15, .inl (ca 0, 512, .inl v0.1.2.2.2.2.2.1.1)), (a49, .inr (0, [.ref a50, .ref a51, .int v0.2.2.2.2.1.2.2.1, .int v0.2.2.2.2.1.2.2.2.1, .int v0.2.2.2.2.1.2.2.2.2])), (a50, .inl (ca 0, 400, .inl v0.2.2.2.2.1.1))] H → va_D A [(a0, .inr (11, [.ref a1, .ref a21, .ref a41, .ref a42, .ref a49, .ref a52, .ref a54, .ref a55])), (a1, .inr (10, [.ref a2, .ref a7, .ref a9, .ref a10, .ref a11, .ref a14, .ref a16, .ref a19, .int v0.1.2.2.2.2.2.2.2.2.1, .int v0.1.2.2.2.2.2.2.2.2.2.1, .int v0.1.2.2.2.2.2.2.2.2.2.2.1, .int v0.1.2.2.2.2.2.2.2.2.2.2.2.1, .int v0.1.2.2.2.2.2.2.2.2.2.2.2.2.1, .int v0.1.2.2.2.2.2.2.2.2.2.2.2.2.2])), (a14, .inr (4, [.ref a15, .int v0.1.2.2.2.2.2.1.2.1, .int v0.1.2.2.2.2.2.1.2.2])), (a15, .inl (ca 0, 512, .inl v0.1.2.2.2.2.2.1.1)), (a49, .inr (0, [.ref a50, .ref a51, .int v0.2.2.2.2.1.2.2.1, .int v0.2.2.2.2.1.2.2.2.1, .int v0.2.2.2.2.1.2.2.2.2])), (a50, .inl (ca 0, 400, .inl v0.2.2.2.2.1.1))] → va_S A s.heap H locs → lv_has ls 6 [(0, .ref a0), (1, .int x1), (2, .int x2), (3, .int x3), (4, .int x4)] → W p l e ({ frames := 3, cells := 0, slots := 0, locals := 67 } : Room) s m args below meth c H locs 0 0 Q (F0 m 25 ls []) := by
    intro n
    induction n with
    | zero => intro v0 x1 x2 x3 x4 hf; exact no_el hf
    | succ n ih => exact bl25 (fb_X11_echo_25 n) ih
  unfold f_X11_echo at hf
  refine lv_aload_n hx hb dX11_echo_0 rfl (lv_at hl 0 rfl) ?_
  refine lv_iload_n hx hb dX11_echo_1 rfl (lv_at hl 1 rfl) ?_
  refine lv_iconst (v := 2) hx hb dX11_echo_2 rfl ?_
  obtain ⟨r_1, u_2, hc2, hf⟩ := bnd2_el hf
  refine xV_I (As := [.int p1, .int (2 : Int32)]) (wx := [(a0, .inr (11, [.ref a1, .ref a21, .ref a41, .ref a42, .ref a49, .ref a52, .ref a54, .ref a55])), (a1, .inr (10, [.ref a2, .ref a7, .ref a9, .ref a10, .ref a11, .ref a14, .ref a16, .ref a19, .int u_2.1.2.2.2.2.2.2.2.2.1, .int u_2.1.2.2.2.2.2.2.2.2.2.1, .int u_2.1.2.2.2.2.2.2.2.2.2.2.1, .int u_2.1.2.2.2.2.2.2.2.2.2.2.2.1, .int u_2.1.2.2.2.2.2.2.2.2.2.2.2.2.1, .int u_2.1.2.2.2.2.2.2.2.2.2.2.2.2.2])), (a14, .inr (4, [.ref a15, .int u_2.1.2.2.2.2.2.1.2.1, .int u_2.1.2.2.2.2.2.1.2.2])), (a15, .inl (ca 0, 512, .inl u_2.1.2.2.2.2.2.1.1)), (a49, .inr (0, [.ref a50, .ref a51, .int u_2.2.2.2.2.1.2.2.1, .int u_2.2.2.2.2.1.2.2.2.1, .int u_2.2.2.2.2.1.2.2.2.2])), (a50, .inl (ca 0, 400, .inl u_2.2.2.2.2.1.1))]) ⟨hx, hb, hml, hown, hts⟩ (c_X11_loadLatest l D ca zz a0 a1 a2 a7 a9 a10 a11 a14 a15 a16 a19 a21 a41 a42 a49 a50 a51 a52 a54 a55 _ v0 p1 (2 : Int32) r_1 u_2 hc2) (cwV 2 hts (gV gw_4_57 gw_4_59 gw_s_1_13 gw_1_1 gw_4_60) rfl rfl rfl (by decide +kernel) ⟨(Nat.le_of_ble_eq_true rfl), (Nat.le_of_ble_eq_true rfl)⟩) hK hN hZ hA hP hD hS [0, 1, 2, 3, 4, 5] rfl rfl rfl rfl 0 rfl rfl hl.1 rfl (Nat.le_of_ble_eq_true rfl) dX11_echo_3 ⟨Nat.zero_le _, Nat.zero_le _⟩ rfl (fun H locs hP hD hS => ?_)
  refine xi_ne (tgt := 11) hx hb dX11_echo_6 (by decide) hf (fun hf => ?_) (fun hf => ?_)
  · refine lv_iconst (v := 1) hx hb dX11_echo_11 rfl ?_
    refine lv_istore_n (lv' := [(2, .int (1 : Int32)), (0, .ref a0), (1, .int p1)]) hx hb dX11_echo_12 rfl hl (Nat.le_of_ble_eq_true rfl) rfl (fun ls hl => ?_)
    refine lv_aload_n hx hb dX11_echo_13 rfl (lv_at hl 1 rfl) ?_
    refine va_get (C := RX11) (T := TX11) (N := 8) hx hb hts i11 hown hK hP 0 rfl rfl 4 (Nat.le_of_ble_eq_true rfl) w0 (fun _ h9 => h9) rfl dX11_echo_14 ?_
    refine lv_iconst (v := 1) hx hb dX11_echo_17 rfl ?_
    obtain ⟨r_3, hc3, hf⟩ := bnd1_el hf
    refine xV_I (As := [.int (1 : Int32)]) (wx := [(a0, .inr (11, [.ref a1, .ref a21, .ref a41, .ref a42, .ref a49, .ref a52, .ref a54, .ref a55])), (a1, .inr (10, [.ref a2, .ref a7, .ref a9, .ref a10, .ref a11, .ref a14, .ref a16, .ref a19, .int u_2.1.2.2.2.2.2.2.2.2.1, .int u_2.1.2.2.2.2.2.2.2.2.2.1, .int u_2.1.2.2.2.2.2.2.2.2.2.2.1, .int u_2.1.2.2.2.2.2.2.2.2.2.2.2.1, .int u_2.1.2.2.2.2.2.2.2.2.2.2.2.2.1, .int u_2.1.2.2.2.2.2.2.2.2.2.2.2.2.2])), (a14, .inr (4, [.ref a15, .int u_2.1.2.2.2.2.2.1.2.1, .int u_2.1.2.2.2.2.2.1.2.2])), (a15, .inl (ca 0, 512, .inl u_2.1.2.2.2.2.2.1.1)), (a49, .inr (0, [.ref a50, .ref a51, .int u_2.2.2.2.2.1.2.2.1, .int u_2.2.2.2.2.1.2.2.2.1, .int u_2.2.2.2.2.1.2.2.2.2])), (a50, .inl (ca 0, 400, .inl u_2.2.2.2.2.1.1))]) ⟨hx, hb, hml, hown, hts⟩ (c_X0_alikeAt l D ca zz a49 a50 a51 _ ((u_2.2.2.2.2.1.1, v0.2.2.2.2.1.2.1, u_2.2.2.2.2.1.2.2)) (1 : Int32) r_3 hc3) (cwV 1 hts (gV gw_4_125 gw_4_126 gw_4_127 gw_1_14 gw_4_128) rfl rfl rfl (by decide +kernel) ⟨(Nat.le_of_ble_eq_true rfl), (Nat.le_of_ble_eq_true rfl)⟩) hK hN hZ hA hP hD hS [4, 5] rfl rfl rfl rfl 4 rfl rfl hl.1 rfl (Nat.le_of_ble_eq_true rfl) dX11_echo_18 ⟨Nat.zero_le _, Nat.zero_le _⟩ rfl (fun H locs hP hD hS => ?_)
    refine lv_istore_n (lv' := [(3, .int r_3), (2, .int (1 : Int32)), (0, .ref a0), (1, .int p1)]) hx hb dX11_echo_21 rfl hl (Nat.le_of_ble_eq_true rfl) rfl (fun ls hl => ?_)
    refine lv_iconst (v := 2) hx hb dX11_echo_22 rfl ?_
    refine lv_istore (lv' := [(4, .int (2 : Int32)), (3, .int r_3), (2, .int (1 : Int32)), (0, .ref a0), (1, .int p1)]) hx hb dX11_echo_23 hl (Nat.le_of_ble_eq_true rfl) rfl (fun ls hl => ?_)
    exact b25 FU (((v0.1.1, v0.1.2.1, v0.1.2.2.1, v0.1.2.2.2.1, v0.1.2.2.2.2.1, u_2.1.2.2.2.2.2.1, v0.1.2.2.2.2.2.2.1, v0.1.2.2.2.2.2.2.2.1, u_2.1.2.2.2.2.2.2.2.2), v0.2.1, v0.2.2.1, v0.2.2.2.1, (u_2.2.2.2.2.1.1, v0.2.2.2.2.1.2.1, u_2.2.2.2.2.1.2.2), v0.2.2.2.2.2.1, v0.2.2.2.2.2.2.1, v0.2.2.2.2.2.2.2)) p1 (1 : Int32) r_3 (2 : Int32) hf _ _ _ hP hD hS (lv_sub hl [3, 4, 2, 1, 0] rfl)
  · refine lv_iconst (v := -1) hx hb dX11_echo_9 rfl ?_
    cases hf
    exact rt_I hx hb hr hlocks hK hP hD hS hQ rfl rfl dX11_echo_10
abbrev wq_X6_isFull : List Cond := Cond.code yX6_isFull cX6_isFull 2 (some .boolean) :: GL
set_option maxHeartbeats 4000000 in
set_option maxRecDepth 100000 in
theorem c_X6_isFull (l : Launch) (D : va_G) (ca : Nat → ClassId) (zz : Nat → Nat) (a0 a1 a2 : Nat) (sz : Nat) (v0 : V6) (p1 : Int32) (r : Int32) (hf : f_X6_isFull v0 p1 = some r) : Met l yX6_isFull wq_X6_isFull ({ frames := 2, cells := 0, slots := 0, locals := 42 } : Room) (PR D ca zz [.ref a0, .int p1] sz [(a0, .inr (6, [.ref a1, .ref a2, .int v0.2.2])), (a2, .inl (ca 0, 15, .inl v0.2.1))]) (QI D ca r [(a0, .inr (6, [.ref a1, .ref a2, .int v0.2.2])), (a2, .inl (ca 0, 15, .inl v0.2.1))] (va_A [(a0, .inr (6, [.ref a1, .ref a2, .int v0.2.2])), (a2, .inl (ca 0, 15, .inl v0.2.1))] sz)) 0 0 (va_A [(a0, .inr (6, [.ref a1, .ref a2, .int v0.2.2])), (a2, .inl (ca 0, 15, .inl v0.2.1))] sz) := by
  refine en (y := yX6_isFull) (wsm := wq_X6_isFull) (av := [.ref a0, .int p1]) (cc := cX6_isFull) (maxL := 2) (ret := (some .boolean)) (Qf := fun A => QI D ca r [(a0, .inr (6, [.ref a1, .ref a2, .int v0.2.2])), (a2, .inl (ca 0, 15, .inl v0.2.1))] A) (by decide) rfl (Nat.le_of_ble_eq_true rfl) ?_
  intro p e s m args below meth c A Q ls hx hb hr hml hown hts hlocks hnm hA hN hZ hK hQ hP hD hS hl
  unfold f_X6_isFull at hf
  refine lv_aload_n hx hb dX6_isFull_0 rfl (lv_at hl 0 rfl) ?_
  refine lv_iload_n hx hb dX6_isFull_1 rfl (lv_at hl 1 rfl) ?_
  obtain ⟨r_1, hc1, hf⟩ := bnd1_el hf
  refine xV_I (As := [.int p1]) (wx := [(a0, .inr (6, [.ref a1, .ref a2, .int v0.2.2])), (a2, .inl (ca 0, 15, .inl v0.2.1))]) ⟨hx, hb, hml, hown, hts⟩ (c_X6_lengthOf l D ca zz a0 a1 a2 _ v0 p1 r_1 hc1) (cwV 1 hts (gV gw_4_145 gw_4_42 gw_4_43 gw_1_9 gw_4_44) rfl rfl rfl (by decide +kernel) ⟨(Nat.le_of_ble_eq_true rfl), (Nat.le_of_ble_eq_true rfl)⟩) hK hN hZ hA hP hD hS [0, 1] rfl rfl rfl rfl 0 rfl rfl hl.1 rfl (Nat.le_of_ble_eq_true rfl) dX6_isFull_2 ⟨Nat.zero_le _, Nat.zero_le _⟩ rfl (fun H locs hP hD hS => ?_)
  refine lv_bipush (v := 15) hx hb dX6_isFull_5 rfl ?_
  refine xc_ne (tgt := 14) hx hb dX6_isFull_7 (by decide) hf (fun hf => ?_) (fun hf => ?_)
  · refine lv_iconst (v := 0) hx hb dX6_isFull_14 rfl ?_
    cases hf
    exact rt_Z hx hb hr hlocks hK hP hD hS hQ (Or.inl rfl) rfl rfl dX6_isFull_15
  · refine lv_iconst (v := 1) hx hb dX6_isFull_10 rfl ?_
    refine lv_goto (tgt := 15) hx hb dX6_isFull_11 (by decide) ?_
    cases hf
    exact rt_Z hx hb hr hlocks hK hP hD hS hQ (Or.inr rfl) rfl rfl dX6_isFull_15
abbrev wq_X6_full : List Cond := Cond.code yX6_full cX6_full 3 (some .int) :: GL
set_option maxHeartbeats 4000000 in
set_option maxRecDepth 100000 in
theorem c_X6_full (l : Launch) (D : va_G) (ca : Nat → ClassId) (zz : Nat → Nat) (a0 a1 a2 : Nat) (sz : Nat) (v0 : V6) (r : Int32) (hf : f_X6_full v0 = some r) : Met l yX6_full wq_X6_full ({ frames := 3, cells := 0, slots := 0, locals := 63 } : Room) (PR D ca zz [.ref a0] sz [(a0, .inr (6, [.ref a1, .ref a2, .int v0.2.2])), (a2, .inl (ca 0, 15, .inl v0.2.1))]) (QI D ca r [(a0, .inr (6, [.ref a1, .ref a2, .int v0.2.2])), (a2, .inl (ca 0, 15, .inl v0.2.1))] (va_A [(a0, .inr (6, [.ref a1, .ref a2, .int v0.2.2])), (a2, .inl (ca 0, 15, .inl v0.2.1))] sz)) 0 0 (va_A [(a0, .inr (6, [.ref a1, .ref a2, .int v0.2.2])), (a2, .inl (ca 0, 15, .inl v0.2.1))] sz) := by
  refine en (y := yX6_full) (wsm := wq_X6_full) (av := [.ref a0]) (cc := cX6_full) (maxL := 3) (ret := (some .int)) (Qf := fun A => QI D ca r [(a0, .inr (6, [.ref a1, .ref a2, .int v0.2.2])), (a2, .inl (ca 0, 15, .inl v0.2.1))] A) (by decide) rfl (Nat.le_of_ble_eq_true rfl) ?_
  intro p e s m args below meth c A Q ls hx hb hr hml hown hts hlocks hnm hA hN hZ hK hQ hP hD hS hl
  have bl4 : ∀ (k4 : Int32 → Int32 → Option (Int32)) (q4 : ∀ (x1 : Int32) (x2 : Int32), k4 x1 x2 = some r → ∀ (H : Heap) (locs : List Loc) (ls : Array Slot), va_P D vwCl [(a0, .inr (6, [.ref a1, .ref a2, .int v0.2.2])), (a2, .inl (ca 0, 15, .inl v0.2.1))] H → va_D A [(a0, .inr (6, [.ref a1, .ref a2, .int v0.2.2])), (a2, .inl (ca 0, 15, .inl v0.2.1))] → va_S A s.heap H locs → lv_has ls 3 [(0, .ref a0), (1, .int x1), (2, .int x2)] → W p l e ({ frames := 3, cells := 0, slots := 0, locals := 63 } : Room) s m args below meth c H locs 0 0 Q (F0 m 4 ls [])) (x1 : Int32) (x2 : Int32), fl_X6_full_4 v0 k4 x1 x2 = some r → ∀ (H : Heap) (locs : List Loc) (ls : Array Slot), va_P D vwCl [(a0, .inr (6, [.ref a1, .ref a2, .int v0.2.2])), (a2, .inl (ca 0, 15, .inl v0.2.1))] H → va_D A [(a0, .inr (6, [.ref a1, .ref a2, .int v0.2.2])), (a2, .inl (ca 0, 15, .inl v0.2.1))] → va_S A s.heap H locs → lv_has ls 3 [(0, .ref a0), (1, .int x1), (2, .int x2)] → W p l e ({ frames := 3, cells := 0, slots := 0, locals := 63 } : Room) s m args below meth c H locs 0 0 Q (F0 m 4 ls []) := by
    intro k4 q4 x1 x2 hf H locs ls hP hD hS hl
    unfold fl_X6_full_4 at hf
    refine lv_iload_n hx hb dX6_full_4 rfl (lv_at hl 2 rfl) ?_
    refine lv_bipush (v := 15) hx hb dX6_full_5 rfl ?_
    refine xc_ge (tgt := 27) hx hb dX6_full_7 (by decide) hf (fun hf => ?_) (fun hf => ?_)
    · refine lv_iload_n hx hb dX6_full_27 rfl (lv_at hl 1 rfl) ?_
      cases hf
      exact rt_I hx hb hr hlocks hK hP hD hS hQ rfl rfl dX6_full_28
    · refine lv_aload_n hx hb dX6_full_10 rfl (lv_at hl 0 rfl) ?_
      refine lv_iload_n hx hb dX6_full_11 rfl (lv_at hl 2 rfl) ?_
      obtain ⟨r_1, hc1, hf⟩ := bnd1_el hf
      refine xV_I (As := [.int x2]) (wx := [(a0, .inr (6, [.ref a1, .ref a2, .int v0.2.2])), (a2, .inl (ca 0, 15, .inl v0.2.1))]) ⟨hx, hb, hml, hown, hts⟩ (c_X6_isFull l D ca zz a0 a1 a2 _ v0 x2 r_1 hc1) (cwV 1 hts (gV gw_4_141 gw_4_143 gw_s_2_3 gw_1_9 gw_4_144) rfl rfl rfl (by decide +kernel) ⟨(Nat.le_of_ble_eq_true rfl), (Nat.le_of_ble_eq_true rfl)⟩) hK hN hZ hA hP hD hS [0, 1] rfl rfl rfl rfl 0 rfl rfl hl.1 rfl (Nat.le_of_ble_eq_true rfl) dX6_full_12 ⟨Nat.zero_le _, Nat.zero_le _⟩ rfl (fun H locs hP hD hS => ?_)
      refine xi_eq (tgt := 21) hx hb dX6_full_15 (by decide) hf (fun hf => ?_) (fun hf => ?_)
      · obtain ⟨x_2, ex_2, hf⟩ := bnd_el hf
        refine lv_iinc (v := x_2) (lv' := [(2, .int x_2), (0, .ref a0), (1, .int x1)]) hx hb dX6_full_21 hl (k := 2) rfl (by rw [ex_2]; rfl) (Nat.le_of_ble_eq_true rfl) rfl (fun ls hl => ?_)
        refine lv_goto (tgt := 4) hx hb dX6_full_24 (by decide) ?_
        exact q4 x1 x_2 hf _ _ _ hP hD hS (lv_sub hl [1, 2, 0] rfl)
      · obtain ⟨x_3, ex_3, hf⟩ := bnd_el hf
        refine lv_iinc (v := x_3) (lv' := [(1, .int x_3), (0, .ref a0), (2, .int x2)]) hx hb dX6_full_18 hl (k := 1) rfl (by rw [ex_3]; rfl) (Nat.le_of_ble_eq_true rfl) rfl (fun ls hl => ?_)
        obtain ⟨x_4, ex_4, hf⟩ := bnd_el hf
        refine lv_iinc (v := x_4) (lv' := [(2, .int x_4), (1, .int x_3), (0, .ref a0)]) hx hb dX6_full_21 hl (k := 2) rfl (by rw [ex_4]; rfl) (Nat.le_of_ble_eq_true rfl) rfl (fun ls hl => ?_)
        refine lv_goto (tgt := 4) hx hb dX6_full_24 (by decide) ?_
        exact q4 x_3 x_4 hf _ _ _ hP hD hS (lv_sub hl [2, 1, 0] rfl)
  have b4 : ∀ (n : Nat) (x1 : Int32) (x2 : Int32), fb_X6_full_4 v0 n x1 x2 = some r → ∀ (H : Heap) (locs : List Loc) (ls : Array Slot), va_P D vwCl [(a0, .inr (6, [.ref a1, .ref a2, .int v0.2.2])), (a2, .inl (ca 0, 15, .inl v0.2.1))] H → va_D A [(a0, .inr (6, [.ref a1, .ref a2, .int v0.2.2])), (a2, .inl (ca 0, 15, .inl v0.2.1))] → va_S A s.heap H locs → lv_has ls 3 [(0, .ref a0), (1, .int x1), (2, .int x2)] → W p l e ({ frames := 3, cells := 0, slots := 0, locals := 63 } : Room) s m args below meth c H locs 0 0 Q (F0 m 4 ls []) := by
    intro n
    induction n with
    | zero => intro x1 x2 hf; exact no_el hf
    | succ n ih => exact bl4 (fb_X6_full_4 v0 n) ih
  unfold f_X6_full at hf
  refine lv_iconst (v := 0) hx hb dX6_full_0 rfl ?_
  refine lv_istore_n (lv' := [(1, .int (0 : Int32)), (0, .ref a0)]) hx hb dX6_full_1 rfl hl (Nat.le_of_ble_eq_true rfl) rfl (fun ls hl => ?_)
  refine lv_iconst (v := 0) hx hb dX6_full_2 rfl ?_
  refine lv_istore_n (lv' := [(2, .int (0 : Int32)), (1, .int (0 : Int32)), (0, .ref a0)]) hx hb dX6_full_3 rfl hl (Nat.le_of_ble_eq_true rfl) rfl (fun ls hl => ?_)
  exact b4 FU (0 : Int32) (0 : Int32) hf _ _ _ hP hD hS (lv_sub hl [2, 1, 0] rfl)
abbrev wq_J6_bitCount_0f7a4 : List Cond := Cond.code yJ6_bitCount_0f7a4 cJ6_bitCount_0f7a4 1 (some .int) :: GL
set_option maxHeartbeats 4000000 in
set_option maxRecDepth 100000 in
theorem c_J6_bitCount_0f7a4 (l : Launch) (D : va_G) (ca : Nat → ClassId) (zz : Nat → Nat) (sz : Nat) (p0 : Int32) (r : Int32) (hf : f_J6_bitCount_0f7a4 p0 = some r) : Met l yJ6_bitCount_0f7a4 wq_J6_bitCount_0f7a4 ({ frames := 0, cells := 0, slots := 0, locals := 0 } : Room) (PR D ca zz [.int p0] sz []) (QI D ca r [] (va_A [] sz)) 0 0 (va_A [] sz) := by
  refine en (y := yJ6_bitCount_0f7a4) (wsm := wq_J6_bitCount_0f7a4) (av := [.int p0]) (cc := cJ6_bitCount_0f7a4) (maxL := 1) (ret := (some .int)) (Qf := fun A => QI D ca r [] A) (by decide) rfl (Nat.le_of_ble_eq_true rfl) ?_
  intro p e s m args below meth c A Q ls hx hb hr hml hown hts hlocks hnm hA hN hZ hK hQ hP hD hS hl
  have w0 := hts _ (List.mem_cons_of_mem _ gw_4_157)
  have w1 := hts _ (List.mem_cons_of_mem _ gw_4_158)
  have w2 := hts _ (List.mem_cons_of_mem _ gw_4_159)
  unfold f_J6_bitCount_0f7a4 at hf
  refine lv_iload_n hx hb dJ6_bitCount_0f7a4_0 rfl (lv_at hl 0 rfl) ?_
  refine lv_iload_n hx hb dJ6_bitCount_0f7a4_1 rfl (lv_at hl 0 rfl) ?_
  refine lv_iconst (v := 1) hx hb dJ6_bitCount_0f7a4_2 rfl ?_
  refine lv_iushr (v := jushr p0 (1 : Int32)) hx hb dJ6_bitCount_0f7a4_3 rfl ?_
  refine lv_ldcw hx hb hown w0 dJ6_bitCount_0f7a4_4 ?_
  refine lv_iand hx hb dJ6_bitCount_0f7a4_7 ?_
  refine lv_isub hx hb dJ6_bitCount_0f7a4_8 ?_
  refine xnm hf (fun x_1 hf => ?_)
  refine lv_istore_n (lv' := [(0, .int x_1)]) hx hb dJ6_bitCount_0f7a4_9 rfl hl (Nat.le_of_ble_eq_true rfl) rfl (fun ls hl => ?_)
  refine lv_iload_n hx hb dJ6_bitCount_0f7a4_10 rfl (lv_at hl 0 rfl) ?_
  refine lv_ldcw hx hb hown w1 dJ6_bitCount_0f7a4_11 ?_
  refine lv_iand hx hb dJ6_bitCount_0f7a4_14 ?_
  refine lv_iload_n hx hb dJ6_bitCount_0f7a4_15 rfl (lv_at hl 0 rfl) ?_
  refine lv_iconst (v := 2) hx hb dJ6_bitCount_0f7a4_16 rfl ?_
  refine lv_iushr (v := jushr x_1 (2 : Int32)) hx hb dJ6_bitCount_0f7a4_17 rfl ?_
  refine lv_ldcw hx hb hown w1 dJ6_bitCount_0f7a4_18 ?_
  refine lv_iand hx hb dJ6_bitCount_0f7a4_21 ?_
  refine lv_iadd hx hb dJ6_bitCount_0f7a4_22 ?_
  refine xnm hf (fun x_2 hf => ?_)
  refine lv_istore_n (lv' := [(0, .int x_2)]) hx hb dJ6_bitCount_0f7a4_23 rfl hl (Nat.le_of_ble_eq_true rfl) rfl (fun ls hl => ?_)
  refine lv_iload_n hx hb dJ6_bitCount_0f7a4_24 rfl (lv_at hl 0 rfl) ?_
  refine lv_iload_n hx hb dJ6_bitCount_0f7a4_25 rfl (lv_at hl 0 rfl) ?_
  refine lv_iconst (v := 4) hx hb dJ6_bitCount_0f7a4_26 rfl ?_
  refine lv_iushr (v := jushr x_2 (4 : Int32)) hx hb dJ6_bitCount_0f7a4_27 rfl ?_
  refine lv_iadd hx hb dJ6_bitCount_0f7a4_28 ?_
  refine lv_ldcw hx hb hown w2 dJ6_bitCount_0f7a4_29 ?_
  refine lv_iand hx hb dJ6_bitCount_0f7a4_32 ?_
  refine xnm hf (fun x_3 hf => ?_)
  refine lv_istore_n (lv' := [(0, .int x_3)]) hx hb dJ6_bitCount_0f7a4_33 rfl hl (Nat.le_of_ble_eq_true rfl) rfl (fun ls hl => ?_)
  refine lv_iload_n hx hb dJ6_bitCount_0f7a4_34 rfl (lv_at hl 0 rfl) ?_
  refine lv_iload_n hx hb dJ6_bitCount_0f7a4_35 rfl (lv_at hl 0 rfl) ?_
  refine lv_bipush (v := 8) hx hb dJ6_bitCount_0f7a4_36 rfl ?_
  refine lv_iushr (v := jushr x_3 (8 : Int32)) hx hb dJ6_bitCount_0f7a4_38 rfl ?_
  refine lv_iadd hx hb dJ6_bitCount_0f7a4_39 ?_
  refine xnm hf (fun x_4 hf => ?_)
  refine lv_istore_n (lv' := [(0, .int x_4)]) hx hb dJ6_bitCount_0f7a4_40 rfl hl (Nat.le_of_ble_eq_true rfl) rfl (fun ls hl => ?_)
  refine lv_iload_n hx hb dJ6_bitCount_0f7a4_41 rfl (lv_at hl 0 rfl) ?_
  refine lv_iload_n hx hb dJ6_bitCount_0f7a4_42 rfl (lv_at hl 0 rfl) ?_
  refine lv_bipush (v := 16) hx hb dJ6_bitCount_0f7a4_43 rfl ?_
  refine lv_iushr (v := jushr x_4 (16 : Int32)) hx hb dJ6_bitCount_0f7a4_45 rfl ?_
  refine lv_iadd hx hb dJ6_bitCount_0f7a4_46 ?_
  refine xnm hf (fun x_5 hf => ?_)
  refine lv_istore_n (lv' := [(0, .int x_5)]) hx hb dJ6_bitCount_0f7a4_47 rfl hl (Nat.le_of_ble_eq_true rfl) rfl (fun ls hl => ?_)
  refine lv_iload_n hx hb dJ6_bitCount_0f7a4_48 rfl (lv_at hl 0 rfl) ?_
  refine lv_bipush (v := 63) hx hb dJ6_bitCount_0f7a4_49 rfl ?_
  refine lv_iand hx hb dJ6_bitCount_0f7a4_51 ?_
  cases hf
  exact rt_I hx hb hr hlocks hK hP hD hS hQ rfl rfl dJ6_bitCount_0f7a4_52
abbrev wq_X6_moreOfRow : List Cond := Cond.code yX6_moreOfRow cX6_moreOfRow 3 (some .int) :: GL
set_option maxHeartbeats 4000000 in
set_option maxRecDepth 100000 in
theorem c_X6_moreOfRow (l : Launch) (D : va_G) (ca : Nat → ClassId) (zz : Nat → Nat) (a0 a1 a2 : Nat) (sz : Nat) (v0 : V6) (p1 : Int32) (r : Int32) (hf : f_X6_moreOfRow v0 p1 = some r) : Met l yX6_moreOfRow wq_X6_moreOfRow ({ frames := 3, cells := 0, slots := 0, locals := 63 } : Room) (PR D ca zz [.ref a0, .int p1] sz [(a0, .inr (6, [.ref a1, .ref a2, .int v0.2.2])), (a1, .inl (ca 0, 15, .inl v0.1)), (a2, .inl (ca 0, 15, .inl v0.2.1))]) (QI D ca r [(a0, .inr (6, [.ref a1, .ref a2, .int v0.2.2])), (a1, .inl (ca 0, 15, .inl v0.1)), (a2, .inl (ca 0, 15, .inl v0.2.1))] (va_A [(a0, .inr (6, [.ref a1, .ref a2, .int v0.2.2])), (a1, .inl (ca 0, 15, .inl v0.1)), (a2, .inl (ca 0, 15, .inl v0.2.1))] sz)) 0 0 (va_A [(a0, .inr (6, [.ref a1, .ref a2, .int v0.2.2])), (a1, .inl (ca 0, 15, .inl v0.1)), (a2, .inl (ca 0, 15, .inl v0.2.1))] sz) := by
  refine en (y := yX6_moreOfRow) (wsm := wq_X6_moreOfRow) (av := [.ref a0, .int p1]) (cc := cX6_moreOfRow) (maxL := 3) (ret := (some .int)) (Qf := fun A => QI D ca r [(a0, .inr (6, [.ref a1, .ref a2, .int v0.2.2])), (a1, .inl (ca 0, 15, .inl v0.1)), (a2, .inl (ca 0, 15, .inl v0.2.1))] A) (by decide) rfl (Nat.le_of_ble_eq_true rfl) ?_
  intro p e s m args below meth c A Q ls hx hb hr hml hown hts hlocks hnm hA hN hZ hK hQ hP hD hS hl
  have w0 := hts _ (List.mem_cons_of_mem _ gw_1_216)
  have w1 := hts _ (List.mem_cons_of_mem _ gw_4_160)
  have w2 := hts _ (List.mem_cons_of_mem _ gw_2_33)
  have w3 := hts _ (List.mem_cons_of_mem _ gw_1_11)
  have w4 := hts _ (List.mem_cons_of_mem _ gw_2_34)
  have i6 : ∀ w ∈ u_ws RX6 TX6 3, w ∈ wq_X6_moreOfRow := fun w h => List.mem_cons_of_mem _ (inX6 w h)
  unfold f_X6_moreOfRow at hf
  refine lv_aload_n hx hb dX6_moreOfRow_0 rfl (lv_at hl 0 rfl) ?_
  refine lv_iload_n hx hb dX6_moreOfRow_1 rfl (lv_at hl 1 rfl) ?_
  obtain ⟨r_1, hc1, hf⟩ := bnd1_el hf
  refine xV_I (As := [.int p1]) (wx := [(a0, .inr (6, [.ref a1, .ref a2, .int v0.2.2])), (a1, .inl (ca 0, 15, .inl v0.1)), (a2, .inl (ca 0, 15, .inl v0.2.1))]) ⟨hx, hb, hml, hown, hts⟩ (c_X6_has l D ca zz a0 a1 a2 _ v0 p1 r_1 hc1) (cwV 1 hts (gV gw_4_45 gw_4_47 gw_s_1_12 gw_1_9 gw_4_48) rfl rfl rfl (by decide +kernel) ⟨(Nat.le_of_ble_eq_true rfl), (Nat.le_of_ble_eq_true rfl)⟩) hK hN hZ hA hP hD hS [0] rfl rfl rfl rfl 0 rfl rfl hl.1 rfl (Nat.le_of_ble_eq_true rfl) dX6_moreOfRow_2 ⟨Nat.zero_le _, Nat.zero_le _⟩ rfl (fun H locs hP hD hS => ?_)
  refine xi_eq (tgt := 16) hx hb dX6_moreOfRow_5 (by decide) hf (fun hf => ?_) (fun hf => ?_)
  · refine lv_iconst (v := 0) hx hb dX6_moreOfRow_16 rfl ?_
    cases hf
    exact rt_I hx hb hr hlocks hK hP hD hS hQ rfl rfl dX6_moreOfRow_17
  · refine lv_aload_n hx hb dX6_moreOfRow_8 rfl (lv_at hl 0 rfl) ?_
    refine lv_iload_n hx hb dX6_moreOfRow_9 rfl (lv_at hl 1 rfl) ?_
    obtain ⟨r_2, hc2, hf⟩ := bnd1_el hf
    refine xV_I (As := [.int p1]) (wx := [(a0, .inr (6, [.ref a1, .ref a2, .int v0.2.2])), (a1, .inl (ca 0, 15, .inl v0.1)), (a2, .inl (ca 0, 15, .inl v0.2.1))]) ⟨hx, hb, hml, hown, hts⟩ (c_X6_isFull l D ca zz a0 a1 a2 _ v0 p1 r_2 hc2) (cwV 1 hts (gV gw_4_141 gw_4_143 gw_s_2_3 gw_1_9 gw_4_144) rfl rfl rfl (by decide +kernel) ⟨(Nat.le_of_ble_eq_true rfl), (Nat.le_of_ble_eq_true rfl)⟩) hK hN hZ hA hP hD hS [0, 2] rfl rfl rfl rfl 0 rfl rfl hl.1 rfl (Nat.le_of_ble_eq_true rfl) dX6_moreOfRow_10 ⟨Nat.zero_le _, Nat.zero_le _⟩ rfl (fun H locs hP hD hS => ?_)
    refine xi_ne (tgt := 18) hx hb dX6_moreOfRow_13 (by decide) hf (fun hf => ?_) (fun hf => ?_)
    · refine lv_aload_n hx hb dX6_moreOfRow_18 rfl (lv_at hl 0 rfl) ?_
      refine va_get (C := RX6) (T := TX6) (N := 3) hx hb hts i6 hown hK hP 0 rfl rfl 0 (Nat.le_of_ble_eq_true rfl) w0 (fun _ h9 => h9) rfl dX6_moreOfRow_19 ?_
      refine lv_iload_n hx hb dX6_moreOfRow_22 rfl (lv_at hl 1 rfl) ?_
      refine xiald hx hb hK hP 1 rfl hf dX6_moreOfRow_23 (fun hf => ?_)
      obtain ⟨r_3, hc3, hf⟩ := bnd1_el hf
      refine xS_I (As := [.int (v0.1 (p1).toNatClampNeg)]) (wx := [(a0, .inr (6, [.ref a1, .ref a2, .int v0.2.2])), (a1, .inl (ca 0, 15, .inl v0.1)), (a2, .inl (ca 0, 15, .inl v0.2.1))]) ⟨hx, hb, hml, hown, hts⟩ (c_J6_bitCount_0f7a4 l D ca zz  _ (v0.1 (p1).toNatClampNeg) r_3 hc3) (va_cwS 1 hts (gS gw_4_154 gw_4_155 gw_1_25 gw_4_156) rfl rfl rfl (by decide +kernel) ⟨(Nat.le_of_ble_eq_true rfl), (Nat.le_of_ble_eq_true rfl)⟩) hK hN hZ hA hP hD hS [] rfl rfl rfl rfl hl.1 rfl (Nat.le_of_ble_eq_true rfl) dX6_moreOfRow_24 ⟨Nat.zero_le _, Nat.zero_le _⟩ rfl (fun H locs hP hD hS => ?_)
      refine lv_istore_n (lv' := [(2, .int r_3), (0, .ref a0), (1, .int p1)]) hx hb dX6_moreOfRow_27 rfl hl (Nat.le_of_ble_eq_true rfl) rfl (fun ls hl => ?_)
      refine lv_iload_n hx hb dX6_moreOfRow_28 rfl (lv_at hl 0 rfl) ?_
      refine lv_bipush (v := 15) hx hb dX6_moreOfRow_29 rfl ?_
      refine lv_iload_n hx hb dX6_moreOfRow_31 rfl (lv_at hl 0 rfl) ?_
      refine lv_isub hx hb dX6_moreOfRow_32 ?_
      refine va_mmax hx hb (hml.trans hl.1.symm) hown w1 w2 w3 w4 (Nat.le_of_ble_eq_true rfl) (Nat.le_of_ble_eq_true rfl) (Nat.zero_le _) (Nat.zero_le _) dX6_moreOfRow_33 ?_
      refine xnm hf (fun x_4 hf => ?_)
      cases hf
      exact rt_I hx hb hr hlocks hK hP hD hS hQ rfl rfl dX6_moreOfRow_36
    · refine lv_iconst (v := 0) hx hb dX6_moreOfRow_16 rfl ?_
      cases hf
      exact rt_I hx hb hr hlocks hK hP hD hS hQ rfl rfl dX6_moreOfRow_17
abbrev wq_X6_greatestRow : List Cond := Cond.code yX6_greatestRow cX6_greatestRow 3 (some .int) :: GL
set_option maxHeartbeats 4000000 in
set_option maxRecDepth 100000 in
theorem c_X6_greatestRow (l : Launch) (D : va_G) (ca : Nat → ClassId) (zz : Nat → Nat) (a0 a1 a2 : Nat) (sz : Nat) (v0 : V6) (r : Int32) (hf : f_X6_greatestRow v0 = some r) : Met l yX6_greatestRow wq_X6_greatestRow ({ frames := 4, cells := 0, slots := 0, locals := 85 } : Room) (PR D ca zz [.ref a0] sz [(a0, .inr (6, [.ref a1, .ref a2, .int v0.2.2])), (a1, .inl (ca 0, 15, .inl v0.1)), (a2, .inl (ca 0, 15, .inl v0.2.1))]) (QI D ca r [(a0, .inr (6, [.ref a1, .ref a2, .int v0.2.2])), (a1, .inl (ca 0, 15, .inl v0.1)), (a2, .inl (ca 0, 15, .inl v0.2.1))] (va_A [(a0, .inr (6, [.ref a1, .ref a2, .int v0.2.2])), (a1, .inl (ca 0, 15, .inl v0.1)), (a2, .inl (ca 0, 15, .inl v0.2.1))] sz)) 0 0 (va_A [(a0, .inr (6, [.ref a1, .ref a2, .int v0.2.2])), (a1, .inl (ca 0, 15, .inl v0.1)), (a2, .inl (ca 0, 15, .inl v0.2.1))] sz) := by
  refine en (y := yX6_greatestRow) (wsm := wq_X6_greatestRow) (av := [.ref a0]) (cc := cX6_greatestRow) (maxL := 3) (ret := (some .int)) (Qf := fun A => QI D ca r [(a0, .inr (6, [.ref a1, .ref a2, .int v0.2.2])), (a1, .inl (ca 0, 15, .inl v0.1)), (a2, .inl (ca 0, 15, .inl v0.2.1))] A) (by decide) rfl (Nat.le_of_ble_eq_true rfl) ?_
  intro p e s m args below meth c A Q ls hx hb hr hml hown hts hlocks hnm hA hN hZ hK hQ hP hD hS hl
  have w0 := hts _ (List.mem_cons_of_mem _ gw_4_160)
  have w1 := hts _ (List.mem_cons_of_mem _ gw_2_33)
  have w2 := hts _ (List.mem_cons_of_mem _ gw_1_11)
  have w3 := hts _ (List.mem_cons_of_mem _ gw_2_34)
  have bl4 : ∀ (k4 : Int32 → Int32 → Option (Int32)) (q4 : ∀ (x1 : Int32) (x2 : Int32), k4 x1 x2 = some r → ∀ (H : Heap) (locs : List Loc) (ls : Array Slot), va_P D vwCl [(a0, .inr (6, [.ref a1, .ref a2, .int v0.2.2])), (a1, .inl (ca 0, 15, .inl v0.1)), (a2, .inl (ca 0, 15, .inl v0.2.1))] H → va_D A [(a0, .inr (6, [.ref a1, .ref a2, .int v0.2.2])), (a1, .inl (ca 0, 15, .inl v0.1)), (a2, .inl (ca 0, 15, .inl v0.2.1))] → va_S A s.heap H locs → lv_has ls 3 [(0, .ref a0), (1, .int x1), (2, .int x2)] → W p l e ({ frames := 4, cells := 0, slots := 0, locals := 85 } : Room) s m args below meth c H locs 0 0 Q (F0 m 4 ls [])) (x1 : Int32) (x2 : Int32), fl_X6_greatestRow_4 v0 k4 x1 x2 = some r → ∀ (H : Heap) (locs : List Loc) (ls : Array Slot), va_P D vwCl [(a0, .inr (6, [.ref a1, .ref a2, .int v0.2.2])), (a1, .inl (ca 0, 15, .inl v0.1)), (a2, .inl (ca 0, 15, .inl v0.2.1))] H → va_D A [(a0, .inr (6, [.ref a1, .ref a2, .int v0.2.2])), (a1, .inl (ca 0, 15, .inl v0.1)), (a2, .inl (ca 0, 15, .inl v0.2.1))] → va_S A s.heap H locs → lv_has ls 3 [(0, .ref a0), (1, .int x1), (2, .int x2)] → W p l e ({ frames := 4, cells := 0, slots := 0, locals := 85 } : Room) s m args below meth c H locs 0 0 Q (F0 m 4 ls []) := by
    intro k4 q4 x1 x2 hf H locs ls hP hD hS hl
    unfold fl_X6_greatestRow_4 at hf
    refine lv_iload_n hx hb dX6_greatestRow_4 rfl (lv_at hl 2 rfl) ?_
    refine lv_bipush (v := 15) hx hb dX6_greatestRow_5 rfl ?_
    refine xc_ge (tgt := 26) hx hb dX6_greatestRow_7 (by decide) hf (fun hf => ?_) (fun hf => ?_)
    · refine lv_iload_n hx hb dX6_greatestRow_26 rfl (lv_at hl 1 rfl) ?_
      cases hf
      exact rt_I hx hb hr hlocks hK hP hD hS hQ rfl rfl dX6_greatestRow_27
    · refine lv_iload_n hx hb dX6_greatestRow_10 rfl (lv_at hl 1 rfl) ?_
      refine lv_aload_n hx hb dX6_greatestRow_11 rfl (lv_at hl 0 rfl) ?_
      refine lv_iload_n hx hb dX6_greatestRow_12 rfl (lv_at hl 2 rfl) ?_
      obtain ⟨r_1, hc1, hf⟩ := bnd1_el hf
      refine xV_I (As := [.int x2]) (wx := [(a0, .inr (6, [.ref a1, .ref a2, .int v0.2.2])), (a1, .inl (ca 0, 15, .inl v0.1)), (a2, .inl (ca 0, 15, .inl v0.2.1))]) ⟨hx, hb, hml, hown, hts⟩ (c_X6_moreOfRow l D ca zz a0 a1 a2 _ v0 x2 r_1 hc1) (cwV 1 hts (gV gw_4_150 gw_4_152 gw_s_2_4 gw_1_9 gw_4_153) rfl rfl rfl (by decide +kernel) ⟨(Nat.le_of_ble_eq_true rfl), (Nat.le_of_ble_eq_true rfl)⟩) hK hN hZ hA hP hD hS [0, 1, 2] rfl rfl rfl rfl 0 rfl rfl hl.1 rfl (Nat.le_of_ble_eq_true rfl) dX6_greatestRow_13 ⟨Nat.zero_le _, Nat.zero_le _⟩ rfl (fun H locs hP hD hS => ?_)
      refine va_mmax hx hb (hml.trans hl.1.symm) hown w0 w1 w2 w3 (Nat.le_of_ble_eq_true rfl) (Nat.le_of_ble_eq_true rfl) (Nat.zero_le _) (Nat.zero_le _) dX6_greatestRow_16 ?_
      refine xnm hf (fun x_2 hf => ?_)
      refine lv_istore_n (lv' := [(1, .int x_2), (0, .ref a0), (2, .int x2)]) hx hb dX6_greatestRow_19 rfl hl (Nat.le_of_ble_eq_true rfl) rfl (fun ls hl => ?_)
      obtain ⟨x_3, ex_3, hf⟩ := bnd_el hf
      refine lv_iinc (v := x_3) (lv' := [(2, .int x_3), (1, .int x_2), (0, .ref a0)]) hx hb dX6_greatestRow_20 hl (k := 2) rfl (by rw [ex_3]; rfl) (Nat.le_of_ble_eq_true rfl) rfl (fun ls hl => ?_)
      refine lv_goto (tgt := 4) hx hb dX6_greatestRow_23 (by decide) ?_
      exact q4 x_2 x_3 hf _ _ _ hP hD hS (lv_sub hl [2, 1, 0] rfl)
  have b4 : ∀ (n : Nat) (x1 : Int32) (x2 : Int32), fb_X6_greatestRow_4 v0 n x1 x2 = some r → ∀ (H : Heap) (locs : List Loc) (ls : Array Slot), va_P D vwCl [(a0, .inr (6, [.ref a1, .ref a2, .int v0.2.2])), (a1, .inl (ca 0, 15, .inl v0.1)), (a2, .inl (ca 0, 15, .inl v0.2.1))] H → va_D A [(a0, .inr (6, [.ref a1, .ref a2, .int v0.2.2])), (a1, .inl (ca 0, 15, .inl v0.1)), (a2, .inl (ca 0, 15, .inl v0.2.1))] → va_S A s.heap H locs → lv_has ls 3 [(0, .ref a0), (1, .int x1), (2, .int x2)] → W p l e ({ frames := 4, cells := 0, slots := 0, locals := 85 } : Room) s m args below meth c H locs 0 0 Q (F0 m 4 ls []) := by
    intro n
    induction n with
    | zero => intro x1 x2 hf; exact no_el hf
    | succ n ih => exact bl4 (fb_X6_greatestRow_4 v0 n) ih
  unfold f_X6_greatestRow at hf
  refine lv_iconst (v := 0) hx hb dX6_greatestRow_0 rfl ?_
  refine lv_istore_n (lv' := [(1, .int (0 : Int32)), (0, .ref a0)]) hx hb dX6_greatestRow_1 rfl hl (Nat.le_of_ble_eq_true rfl) rfl (fun ls hl => ?_)
  refine lv_iconst (v := 0) hx hb dX6_greatestRow_2 rfl ?_
  refine lv_istore_n (lv' := [(2, .int (0 : Int32)), (1, .int (0 : Int32)), (0, .ref a0)]) hx hb dX6_greatestRow_3 rfl hl (Nat.le_of_ble_eq_true rfl) rfl (fun ls hl => ?_)
  exact b4 FU (0 : Int32) (0 : Int32) hf _ _ _ hP hD hS (lv_sub hl [2, 1, 0] rfl)
abbrev wq_X6_moreOfColumn : List Cond := Cond.code yX6_moreOfColumn cX6_moreOfColumn 5 (some .int) :: GL
set_option maxHeartbeats 4000000 in
set_option maxRecDepth 100000 in
theorem c_X6_moreOfColumn (l : Launch) (D : va_G) (ca : Nat → ClassId) (zz : Nat → Nat) (a0 a1 a2 : Nat) (sz : Nat) (v0 : V6) (p1 : Int32) (r : Int32) (hf : f_X6_moreOfColumn v0 p1 = some r) : Met l yX6_moreOfColumn wq_X6_moreOfColumn ({ frames := 3, cells := 0, slots := 0, locals := 63 } : Room) (PR D ca zz [.ref a0, .int p1] sz [(a0, .inr (6, [.ref a1, .ref a2, .int v0.2.2])), (a1, .inl (ca 0, 15, .inl v0.1)), (a2, .inl (ca 0, 15, .inl v0.2.1))]) (QI D ca r [(a0, .inr (6, [.ref a1, .ref a2, .int v0.2.2])), (a1, .inl (ca 0, 15, .inl v0.1)), (a2, .inl (ca 0, 15, .inl v0.2.1))] (va_A [(a0, .inr (6, [.ref a1, .ref a2, .int v0.2.2])), (a1, .inl (ca 0, 15, .inl v0.1)), (a2, .inl (ca 0, 15, .inl v0.2.1))] sz)) 0 0 (va_A [(a0, .inr (6, [.ref a1, .ref a2, .int v0.2.2])), (a1, .inl (ca 0, 15, .inl v0.1)), (a2, .inl (ca 0, 15, .inl v0.2.1))] sz) := by
  refine en (y := yX6_moreOfColumn) (wsm := wq_X6_moreOfColumn) (av := [.ref a0, .int p1]) (cc := cX6_moreOfColumn) (maxL := 5) (ret := (some .int)) (Qf := fun A => QI D ca r [(a0, .inr (6, [.ref a1, .ref a2, .int v0.2.2])), (a1, .inl (ca 0, 15, .inl v0.1)), (a2, .inl (ca 0, 15, .inl v0.2.1))] A) (by decide) rfl (Nat.le_of_ble_eq_true rfl) ?_
  intro p e s m args below meth c A Q ls hx hb hr hml hown hts hlocks hnm hA hN hZ hK hQ hP hD hS hl
  have w0 := hts _ (List.mem_cons_of_mem _ gw_4_160)
  have w1 := hts _ (List.mem_cons_of_mem _ gw_2_33)
  have w2 := hts _ (List.mem_cons_of_mem _ gw_1_11)
  have w3 := hts _ (List.mem_cons_of_mem _ gw_2_34)
  have bl7 : ∀ (k7 : Int32 → Int32 → Int32 → Int32 → Option (Int32)) (q7 : ∀ (x1 : Int32) (x2 : Int32) (x3 : Int32) (x4 : Int32), k7 x1 x2 x3 x4 = some r → ∀ (H : Heap) (locs : List Loc) (ls : Array Slot), va_P D vwCl [(a0, .inr (6, [.ref a1, .ref a2, .int v0.2.2])), (a1, .inl (ca 0, 15, .inl v0.1)), (a2, .inl (ca 0, 15, .inl v0.2.1))] H → va_D A [(a0, .inr (6, [.ref a1, .ref a2, .int v0.2.2])), (a1, .inl (ca 0, 15, .inl v0.1)), (a2, .inl (ca 0, 15, .inl v0.2.1))] → va_S A s.heap H locs → lv_has ls 5 [(0, .ref a0), (1, .int x1), (2, .int x2), (3, .int x3), (4, .int x4)] → W p l e ({ frames := 3, cells := 0, slots := 0, locals := 63 } : Room) s m args below meth c H locs 0 0 Q (F0 m 7 ls [])) (x1 : Int32) (x2 : Int32) (x3 : Int32) (x4 : Int32), fl_X6_moreOfColumn_7 v0 k7 x1 x2 x3 x4 = some r → ∀ (H : Heap) (locs : List Loc) (ls : Array Slot), va_P D vwCl [(a0, .inr (6, [.ref a1, .ref a2, .int v0.2.2])), (a1, .inl (ca 0, 15, .inl v0.1)), (a2, .inl (ca 0, 15, .inl v0.2.1))] H → va_D A [(a0, .inr (6, [.ref a1, .ref a2, .int v0.2.2])), (a1, .inl (ca 0, 15, .inl v0.1)), (a2, .inl (ca 0, 15, .inl v0.2.1))] → va_S A s.heap H locs → lv_has ls 5 [(0, .ref a0), (1, .int x1), (2, .int x2), (3, .int x3), (4, .int x4)] → W p l e ({ frames := 3, cells := 0, slots := 0, locals := 63 } : Room) s m args below meth c H locs 0 0 Q (F0 m 7 ls []) := by
    intro k7 q7 x1 x2 x3 x4 hf H locs ls hP hD hS hl
    unfold fl_X6_moreOfColumn_7 at hf
    refine lv_iload hx hb dX6_moreOfColumn_7 (lv_at hl 4 rfl) ?_
    refine lv_bipush (v := 15) hx hb dX6_moreOfColumn_9 rfl ?_
    refine xc_ge (tgt := 42) hx hb dX6_moreOfColumn_11 (by decide) hf (fun hf => ?_) (fun hf => ?_)
    · refine lv_iload_n hx hb dX6_moreOfColumn_42 rfl (lv_at hl 3 rfl) ?_
      refine lv_iconst (v := 2) hx hb dX6_moreOfColumn_43 rfl ?_
      refine xc_ge (tgt := 51) hx hb dX6_moreOfColumn_44 (by decide) hf (fun hf => ?_) (fun hf => ?_)
      · refine lv_iload_n hx hb dX6_moreOfColumn_51 rfl (lv_at hl 2 rfl) ?_
        refine lv_iload_n hx hb dX6_moreOfColumn_52 rfl (lv_at hl 3 rfl) ?_
        refine lv_iload_n hx hb dX6_moreOfColumn_53 rfl (lv_at hl 2 rfl) ?_
        refine lv_isub hx hb dX6_moreOfColumn_54 ?_
        refine va_mmax hx hb (hml.trans hl.1.symm) hown w0 w1 w2 w3 (Nat.le_of_ble_eq_true rfl) (Nat.le_of_ble_eq_true rfl) (Nat.zero_le _) (Nat.zero_le _) dX6_moreOfColumn_55 ?_
        refine xnm hf (fun x_1 hf => ?_)
        cases hf
        exact rt_I hx hb hr hlocks hK hP hD hS hQ rfl rfl dX6_moreOfColumn_58
      · refine lv_iconst (v := 0) hx hb dX6_moreOfColumn_47 rfl ?_
        refine lv_goto (tgt := 58) hx hb dX6_moreOfColumn_48 (by decide) ?_
        cases hf
        exact rt_I hx hb hr hlocks hK hP hD hS hQ rfl rfl dX6_moreOfColumn_58
    · refine lv_aload_n hx hb dX6_moreOfColumn_14 rfl (lv_at hl 0 rfl) ?_
      refine lv_iload hx hb dX6_moreOfColumn_15 (lv_at hl 4 rfl) ?_
      obtain ⟨r_2, hc2, hf⟩ := bnd1_el hf
      refine xV_I (As := [.int x4]) (wx := [(a0, .inr (6, [.ref a1, .ref a2, .int v0.2.2])), (a1, .inl (ca 0, 15, .inl v0.1)), (a2, .inl (ca 0, 15, .inl v0.2.1))]) ⟨hx, hb, hml, hown, hts⟩ (c_X6_isFull l D ca zz a0 a1 a2 _ v0 x4 r_2 hc2) (cwV 1 hts (gV gw_4_141 gw_4_143 gw_s_2_3 gw_1_9 gw_4_144) rfl rfl rfl (by decide +kernel) ⟨(Nat.le_of_ble_eq_true rfl), (Nat.le_of_ble_eq_true rfl)⟩) hK hN hZ hA hP hD hS [0, 2] rfl rfl rfl rfl 0 rfl rfl hl.1 rfl (Nat.le_of_ble_eq_true rfl) dX6_moreOfColumn_17 ⟨Nat.zero_le _, Nat.zero_le _⟩ rfl (fun H locs hP hD hS => ?_)
      refine xi_eq (tgt := 36) hx hb dX6_moreOfColumn_20 (by decide) hf (fun hf => ?_) (fun hf => ?_)
      · obtain ⟨x_3, ex_3, hf⟩ := bnd_el hf
        refine lv_iinc (v := x_3) (lv' := [(4, .int x_3), (0, .ref a0), (1, .int x1), (2, .int x2), (3, .int x3)]) hx hb dX6_moreOfColumn_36 hl (k := 4) rfl (by rw [ex_3]; rfl) (Nat.le_of_ble_eq_true rfl) rfl (fun ls hl => ?_)
        refine lv_goto (tgt := 7) hx hb dX6_moreOfColumn_39 (by decide) ?_
        exact q7 x1 x2 x3 x_3 hf _ _ _ hP hD hS (lv_sub hl [1, 2, 3, 4, 0] rfl)
      · obtain ⟨x_4, ex_4, hf⟩ := bnd_el hf
        refine lv_iinc (v := x_4) (lv' := [(3, .int x_4), (0, .ref a0), (1, .int x1), (2, .int x2), (4, .int x4)]) hx hb dX6_moreOfColumn_23 hl (k := 3) rfl (by rw [ex_4]; rfl) (Nat.le_of_ble_eq_true rfl) rfl (fun ls hl => ?_)
        refine lv_iload_n hx hb dX6_moreOfColumn_26 rfl (lv_at hl 3 rfl) ?_
        refine lv_aload_n hx hb dX6_moreOfColumn_27 rfl (lv_at hl 1 rfl) ?_
        refine lv_iload hx hb dX6_moreOfColumn_28 (lv_at hl 4 rfl) ?_
        refine lv_iload_n hx hb dX6_moreOfColumn_30 rfl (lv_at hl 2 rfl) ?_
        obtain ⟨r_5, hc5, hf⟩ := bnd1_el hf
        refine xV_I (As := [.int x4, .int x1]) (wx := [(a0, .inr (6, [.ref a1, .ref a2, .int v0.2.2])), (a1, .inl (ca 0, 15, .inl v0.1)), (a2, .inl (ca 0, 15, .inl v0.2.1))]) ⟨hx, hb, hml, hown, hts⟩ (c_X6_sampleOf l D ca zz a0 a1 a2 _ v0 x4 x1 r_5 hc5) (cwV 2 hts (gV gw_4_169 gw_4_50 gw_4_51 gw_1_9 gw_4_52) rfl rfl rfl (by decide +kernel) ⟨(Nat.le_of_ble_eq_true rfl), (Nat.le_of_ble_eq_true rfl)⟩) hK hN hZ hA hP hD hS [0, 1, 2] rfl rfl rfl rfl 0 rfl rfl hl.1 rfl (Nat.le_of_ble_eq_true rfl) dX6_moreOfColumn_31 ⟨Nat.zero_le _, Nat.zero_le _⟩ rfl (fun H locs hP hD hS => ?_)
        refine lv_iadd hx hb dX6_moreOfColumn_34 ?_
        refine xnm hf (fun x_6 hf => ?_)
        refine lv_istore_n (lv' := [(2, .int x_6), (3, .int x_4), (0, .ref a0), (1, .int x1), (4, .int x4)]) hx hb dX6_moreOfColumn_35 rfl hl (Nat.le_of_ble_eq_true rfl) rfl (fun ls hl => ?_)
        obtain ⟨x_7, ex_7, hf⟩ := bnd_el hf
        refine lv_iinc (v := x_7) (lv' := [(4, .int x_7), (2, .int x_6), (3, .int x_4), (0, .ref a0), (1, .int x1)]) hx hb dX6_moreOfColumn_36 hl (k := 4) rfl (by rw [ex_7]; rfl) (Nat.le_of_ble_eq_true rfl) rfl (fun ls hl => ?_)
        refine lv_goto (tgt := 7) hx hb dX6_moreOfColumn_39 (by decide) ?_
        exact q7 x1 x_6 x_4 x_7 hf _ _ _ hP hD hS (lv_sub hl [3, 4, 1, 2, 0] rfl)
  have b7 : ∀ (n : Nat) (x1 : Int32) (x2 : Int32) (x3 : Int32) (x4 : Int32), fb_X6_moreOfColumn_7 v0 n x1 x2 x3 x4 = some r → ∀ (H : Heap) (locs : List Loc) (ls : Array Slot), va_P D vwCl [(a0, .inr (6, [.ref a1, .ref a2, .int v0.2.2])), (a1, .inl (ca 0, 15, .inl v0.1)), (a2, .inl (ca 0, 15, .inl v0.2.1))] H → va_D A [(a0, .inr (6, [.ref a1, .ref a2, .int v0.2.2])), (a1, .inl (ca 0, 15, .inl v0.1)), (a2, .inl (ca 0, 15, .inl v0.2.1))] → va_S A s.heap H locs → lv_has ls 5 [(0, .ref a0), (1, .int x1), (2, .int x2), (3, .int x3), (4, .int x4)] → W p l e ({ frames := 3, cells := 0, slots := 0, locals := 63 } : Room) s m args below meth c H locs 0 0 Q (F0 m 7 ls []) := by
    intro n
    induction n with
    | zero => intro x1 x2 x3 x4 hf; exact no_el hf
    | succ n ih => exact bl7 (fb_X6_moreOfColumn_7 v0 n) ih
  unfold f_X6_moreOfColumn at hf
  refine lv_iconst (v := 0) hx hb dX6_moreOfColumn_0 rfl ?_
  refine lv_istore_n (lv' := [(2, .int (0 : Int32)), (0, .ref a0), (1, .int p1)]) hx hb dX6_moreOfColumn_1 rfl hl (Nat.le_of_ble_eq_true rfl) rfl (fun ls hl => ?_)
  refine lv_iconst (v := 0) hx hb dX6_moreOfColumn_2 rfl ?_
  refine lv_istore_n (lv' := [(3, .int (0 : Int32)), (2, .int (0 : Int32)), (0, .ref a0), (1, .int p1)]) hx hb dX6_moreOfColumn_3 rfl hl (Nat.le_of_ble_eq_true rfl) rfl (fun ls hl => ?_)
  refine lv_iconst (v := 0) hx hb dX6_moreOfColumn_4 rfl ?_
  refine lv_istore (lv' := [(4, .int (0 : Int32)), (3, .int (0 : Int32)), (2, .int (0 : Int32)), (0, .ref a0), (1, .int p1)]) hx hb dX6_moreOfColumn_5 hl (Nat.le_of_ble_eq_true rfl) rfl (fun ls hl => ?_)
  exact b7 FU p1 (0 : Int32) (0 : Int32) (0 : Int32) hf _ _ _ hP hD hS (lv_sub hl [3, 4, 2, 1, 0] rfl)
abbrev wq_X6_greatestColumn : List Cond := Cond.code yX6_greatestColumn cX6_greatestColumn 3 (some .int) :: GL
set_option maxHeartbeats 4000000 in
set_option maxRecDepth 100000 in
theorem c_X6_greatestColumn (l : Launch) (D : va_G) (ca : Nat → ClassId) (zz : Nat → Nat) (a0 a1 a2 : Nat) (sz : Nat) (v0 : V6) (r : Int32) (hf : f_X6_greatestColumn v0 = some r) : Met l yX6_greatestColumn wq_X6_greatestColumn ({ frames := 4, cells := 0, slots := 0, locals := 87 } : Room) (PR D ca zz [.ref a0] sz [(a0, .inr (6, [.ref a1, .ref a2, .int v0.2.2])), (a1, .inl (ca 0, 15, .inl v0.1)), (a2, .inl (ca 0, 15, .inl v0.2.1))]) (QI D ca r [(a0, .inr (6, [.ref a1, .ref a2, .int v0.2.2])), (a1, .inl (ca 0, 15, .inl v0.1)), (a2, .inl (ca 0, 15, .inl v0.2.1))] (va_A [(a0, .inr (6, [.ref a1, .ref a2, .int v0.2.2])), (a1, .inl (ca 0, 15, .inl v0.1)), (a2, .inl (ca 0, 15, .inl v0.2.1))] sz)) 0 0 (va_A [(a0, .inr (6, [.ref a1, .ref a2, .int v0.2.2])), (a1, .inl (ca 0, 15, .inl v0.1)), (a2, .inl (ca 0, 15, .inl v0.2.1))] sz) := by
  refine en (y := yX6_greatestColumn) (wsm := wq_X6_greatestColumn) (av := [.ref a0]) (cc := cX6_greatestColumn) (maxL := 3) (ret := (some .int)) (Qf := fun A => QI D ca r [(a0, .inr (6, [.ref a1, .ref a2, .int v0.2.2])), (a1, .inl (ca 0, 15, .inl v0.1)), (a2, .inl (ca 0, 15, .inl v0.2.1))] A) (by decide) rfl (Nat.le_of_ble_eq_true rfl) ?_
  intro p e s m args below meth c A Q ls hx hb hr hml hown hts hlocks hnm hA hN hZ hK hQ hP hD hS hl
  have w0 := hts _ (List.mem_cons_of_mem _ gw_4_160)
  have w1 := hts _ (List.mem_cons_of_mem _ gw_2_33)
  have w2 := hts _ (List.mem_cons_of_mem _ gw_1_11)
  have w3 := hts _ (List.mem_cons_of_mem _ gw_2_34)
  have bl4 : ∀ (k4 : Int32 → Int32 → Option (Int32)) (q4 : ∀ (x1 : Int32) (x2 : Int32), k4 x1 x2 = some r → ∀ (H : Heap) (locs : List Loc) (ls : Array Slot), va_P D vwCl [(a0, .inr (6, [.ref a1, .ref a2, .int v0.2.2])), (a1, .inl (ca 0, 15, .inl v0.1)), (a2, .inl (ca 0, 15, .inl v0.2.1))] H → va_D A [(a0, .inr (6, [.ref a1, .ref a2, .int v0.2.2])), (a1, .inl (ca 0, 15, .inl v0.1)), (a2, .inl (ca 0, 15, .inl v0.2.1))] → va_S A s.heap H locs → lv_has ls 3 [(0, .ref a0), (1, .int x1), (2, .int x2)] → W p l e ({ frames := 4, cells := 0, slots := 0, locals := 87 } : Room) s m args below meth c H locs 0 0 Q (F0 m 4 ls [])) (x1 : Int32) (x2 : Int32), fl_X6_greatestColumn_4 v0 k4 x1 x2 = some r → ∀ (H : Heap) (locs : List Loc) (ls : Array Slot), va_P D vwCl [(a0, .inr (6, [.ref a1, .ref a2, .int v0.2.2])), (a1, .inl (ca 0, 15, .inl v0.1)), (a2, .inl (ca 0, 15, .inl v0.2.1))] H → va_D A [(a0, .inr (6, [.ref a1, .ref a2, .int v0.2.2])), (a1, .inl (ca 0, 15, .inl v0.1)), (a2, .inl (ca 0, 15, .inl v0.2.1))] → va_S A s.heap H locs → lv_has ls 3 [(0, .ref a0), (1, .int x1), (2, .int x2)] → W p l e ({ frames := 4, cells := 0, slots := 0, locals := 87 } : Room) s m args below meth c H locs 0 0 Q (F0 m 4 ls []) := by
    intro k4 q4 x1 x2 hf H locs ls hP hD hS hl
    unfold fl_X6_greatestColumn_4 at hf
    refine lv_iload_n hx hb dX6_greatestColumn_4 rfl (lv_at hl 2 rfl) ?_
    refine lv_bipush (v := 15) hx hb dX6_greatestColumn_5 rfl ?_
    refine xc_ge (tgt := 26) hx hb dX6_greatestColumn_7 (by decide) hf (fun hf => ?_) (fun hf => ?_)
    · refine lv_iload_n hx hb dX6_greatestColumn_26 rfl (lv_at hl 1 rfl) ?_
      cases hf
      exact rt_I hx hb hr hlocks hK hP hD hS hQ rfl rfl dX6_greatestColumn_27
    · refine lv_iload_n hx hb dX6_greatestColumn_10 rfl (lv_at hl 1 rfl) ?_
      refine lv_aload_n hx hb dX6_greatestColumn_11 rfl (lv_at hl 0 rfl) ?_
      refine lv_iload_n hx hb dX6_greatestColumn_12 rfl (lv_at hl 2 rfl) ?_
      obtain ⟨r_1, hc1, hf⟩ := bnd1_el hf
      refine xV_I (As := [.int x2]) (wx := [(a0, .inr (6, [.ref a1, .ref a2, .int v0.2.2])), (a1, .inl (ca 0, 15, .inl v0.1)), (a2, .inl (ca 0, 15, .inl v0.2.1))]) ⟨hx, hb, hml, hown, hts⟩ (c_X6_moreOfColumn l D ca zz a0 a1 a2 _ v0 x2 r_1 hc1) (cwV 1 hts (gV gw_4_165 gw_4_167 gw_s_2_5 gw_1_9 gw_4_168) rfl rfl rfl (by decide +kernel) ⟨(Nat.le_of_ble_eq_true rfl), (Nat.le_of_ble_eq_true rfl)⟩) hK hN hZ hA hP hD hS [0, 1, 2] rfl rfl rfl rfl 0 rfl rfl hl.1 rfl (Nat.le_of_ble_eq_true rfl) dX6_greatestColumn_13 ⟨Nat.zero_le _, Nat.zero_le _⟩ rfl (fun H locs hP hD hS => ?_)
      refine va_mmax hx hb (hml.trans hl.1.symm) hown w0 w1 w2 w3 (Nat.le_of_ble_eq_true rfl) (Nat.le_of_ble_eq_true rfl) (Nat.zero_le _) (Nat.zero_le _) dX6_greatestColumn_16 ?_
      refine xnm hf (fun x_2 hf => ?_)
      refine lv_istore_n (lv' := [(1, .int x_2), (0, .ref a0), (2, .int x2)]) hx hb dX6_greatestColumn_19 rfl hl (Nat.le_of_ble_eq_true rfl) rfl (fun ls hl => ?_)
      obtain ⟨x_3, ex_3, hf⟩ := bnd_el hf
      refine lv_iinc (v := x_3) (lv' := [(2, .int x_3), (1, .int x_2), (0, .ref a0)]) hx hb dX6_greatestColumn_20 hl (k := 2) rfl (by rw [ex_3]; rfl) (Nat.le_of_ble_eq_true rfl) rfl (fun ls hl => ?_)
      refine lv_goto (tgt := 4) hx hb dX6_greatestColumn_23 (by decide) ?_
      exact q4 x_2 x_3 hf _ _ _ hP hD hS (lv_sub hl [2, 1, 0] rfl)
  have b4 : ∀ (n : Nat) (x1 : Int32) (x2 : Int32), fb_X6_greatestColumn_4 v0 n x1 x2 = some r → ∀ (H : Heap) (locs : List Loc) (ls : Array Slot), va_P D vwCl [(a0, .inr (6, [.ref a1, .ref a2, .int v0.2.2])), (a1, .inl (ca 0, 15, .inl v0.1)), (a2, .inl (ca 0, 15, .inl v0.2.1))] H → va_D A [(a0, .inr (6, [.ref a1, .ref a2, .int v0.2.2])), (a1, .inl (ca 0, 15, .inl v0.1)), (a2, .inl (ca 0, 15, .inl v0.2.1))] → va_S A s.heap H locs → lv_has ls 3 [(0, .ref a0), (1, .int x1), (2, .int x2)] → W p l e ({ frames := 4, cells := 0, slots := 0, locals := 87 } : Room) s m args below meth c H locs 0 0 Q (F0 m 4 ls []) := by
    intro n
    induction n with
    | zero => intro x1 x2 hf; exact no_el hf
    | succ n ih => exact bl4 (fb_X6_greatestColumn_4 v0 n) ih
  unfold f_X6_greatestColumn at hf
  refine lv_iconst (v := 0) hx hb dX6_greatestColumn_0 rfl ?_
  refine lv_istore_n (lv' := [(1, .int (0 : Int32)), (0, .ref a0)]) hx hb dX6_greatestColumn_1 rfl hl (Nat.le_of_ble_eq_true rfl) rfl (fun ls hl => ?_)
  refine lv_iconst (v := 0) hx hb dX6_greatestColumn_2 rfl ?_
  refine lv_istore_n (lv' := [(2, .int (0 : Int32)), (1, .int (0 : Int32)), (0, .ref a0)]) hx hb dX6_greatestColumn_3 rfl hl (Nat.le_of_ble_eq_true rfl) rfl (fun ls hl => ?_)
  exact b4 FU (0 : Int32) (0 : Int32) hf _ _ _ hP hD hS (lv_sub hl [2, 1, 0] rfl)
