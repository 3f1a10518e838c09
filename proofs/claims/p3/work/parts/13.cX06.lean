abbrev wq_X9_byteOf : List Cond := Cond.code yX9_byteOf cX9_byteOf 3 (some .int) :: GL
set_option maxHeartbeats 4000000 in
set_option maxRecDepth 100000 in
theorem c_X9_byteOf (l : Launch) (D : va_G) (ca : Nat → ClassId) (zz : Nat → Nat) (sz : Nat) (p0 : Int64) (p1 : Int32) (r : Int32) (hf : f_X9_byteOf p0 p1 = some r) : Met l yX9_byteOf wq_X9_byteOf ({ frames := 0, cells := 0, slots := 0, locals := 0 } : Room) (PR D ca zz [.long p0, .int p1] sz []) (QI D ca r [] (va_A [] sz)) 0 0 (va_A [] sz) := by
  refine en (y := yX9_byteOf) (wsm := wq_X9_byteOf) (av := [.long p0, .int p1]) (cc := cX9_byteOf) (maxL := 3) (ret := (some .int)) (Qf := fun A => (QI D ca r [] A)) (by decide) rfl (Nat.le_of_ble_eq_true rfl) ?_
  intro p e s m args below meth c A Q ls hx hb hr hml hown hts hlocks hnm hA hN hZ hK hQ hP hD hS hl
  unfold f_X9_byteOf at hf
  refine lv_lload_n hx hb dX9_byteOf_0 rfl (lv_at hl 0 rfl) ?_
  refine lv_bipush (v := 56) hx hb dX9_byteOf_1 rfl ?_
  refine lv_bipush (v := 8) hx hb dX9_byteOf_3 rfl ?_
  refine lv_iload_n hx hb dX9_byteOf_5 rfl (lv_at hl 1 rfl) ?_
  refine lv_imul hx hb dX9_byteOf_6 ?_
  refine lv_isub hx hb dX9_byteOf_7 ?_
  refine lv_lushr (v := jlushr p0 ((56 : Int32) - ((8 : Int32) * p1))) hx hb dX9_byteOf_8 rfl ?_
  refine lv_l2i hx hb dX9_byteOf_9 rfl ?_
  refine lv_sipush (v := 255) hx hb dX9_byteOf_10 rfl ?_
  refine lv_iand hx hb dX9_byteOf_13 ?_
  have he := Option.some.inj hf
  have e_r := he
  refine rt_I hx hb hr hlocks hK hP hD hS hQ e_r ?_ dX9_byteOf_14
  rfl
abbrev wq_X9_append : List Cond := Cond.code yX9_append cX9_append 5 (some .int) :: GL
set_option maxHeartbeats 4000000 in
set_option maxRecDepth 100000 in
theorem c_X9_append (l : Launch) (D : va_G) (ca : Nat → ClassId) (zz : Nat → Nat) (a0 a1 : Nat) (sz : Nat) (v0 : V9) (p1 : Int64) (r : Int32) (v0' : V9) (hf : f_X9_append v0 p1 = some (r, v0')) : Met l yX9_append wq_X9_append ({ frames := 1, cells := 0, slots := 0, locals := 22 } : Room) (PR D ca zz [.ref a0, .long p1] sz [(a0, .inr (9, [.ref a1, .int v0.2.1, .int v0.2.2.1, .int v0.2.2.2])), (a1, .inl (ca 0, 300, .inl v0.1))]) (QI D ca r [(a0, .inr (9, [.ref a1, .int v0'.2.1, .int v0'.2.2.1, .int v0'.2.2.2])), (a1, .inl (ca 0, 300, .inl v0'.1))] (va_A [(a0, .inr (9, [.ref a1, .int v0.2.1, .int v0.2.2.1, .int v0.2.2.2])), (a1, .inl (ca 0, 300, .inl v0.1))] sz)) 0 0 (va_A [(a0, .inr (9, [.ref a1, .int v0.2.1, .int v0.2.2.1, .int v0.2.2.2])), (a1, .inl (ca 0, 300, .inl v0.1))] sz) := by
  refine en (y := yX9_append) (wsm := wq_X9_append) (av := [.ref a0, .long p1]) (cc := cX9_append) (maxL := 5) (ret := (some .int)) (Qf := fun A => (QI D ca r [(a0, .inr (9, [.ref a1, .int v0'.2.1, .int v0'.2.2.1, .int v0'.2.2.2])), (a1, .inl (ca 0, 300, .inl v0'.1))] A)) (by decide) rfl (Nat.le_of_ble_eq_true rfl) ?_
  intro p e s m args below meth c A Q ls hx hb hr hml hown hts hlocks hnm hA hN hZ hK hQ hP hD hS hl
  have w0 := hts _ (List.mem_cons_of_mem _ gw_1_234)
  have w1 := hts _ (List.mem_cons_of_mem _ gw_1_233)
  have i9 : ∀ w ∈ u_ws RX9 TX9 4, w ∈ wq_X9_append := fun w h => List.mem_cons_of_mem _ (inX9 w h)
  have bl46 : ∀ (k46 : V9 → Int64 → Int32 → Int32 → Option (Int32 × V9)) (q46 : ∀ (v0 : V9) (x1 : Int64) (x3 : Int32) (x4 : Int32), k46 v0 x1 x3 x4 = some (r, v0') → ∀ (H : Heap) (locs : List Loc) (ls : Array Slot), va_P D vwCl [(a0, .inr (9, [.ref a1, .int v0.2.1, .int v0.2.2.1, .int v0.2.2.2])), (a1, .inl (ca 0, 300, .inl v0.1))] H → va_D A [(a0, .inr (9, [.ref a1, .int v0.2.1, .int v0.2.2.1, .int v0.2.2.2])), (a1, .inl (ca 0, 300, .inl v0.1))] → va_S A s.heap H locs → lv_has ls 5 [(0, .ref a0), (1, .long x1), (3, .int x3), (4, .int x4)] → W p l e ({ frames := 1, cells := 0, slots := 0, locals := 22 } : Room) s m args below meth c H locs 0 0 Q (F0 m 46 ls [])) (v0 : V9) (x1 : Int64) (x3 : Int32) (x4 : Int32), fl_X9_append_46 k46 v0 x1 x3 x4 = some (r, v0') → ∀ (H : Heap) (locs : List Loc) (ls : Array Slot), va_P D vwCl [(a0, .inr (9, [.ref a1, .int v0.2.1, .int v0.2.2.1, .int v0.2.2.2])), (a1, .inl (ca 0, 300, .inl v0.1))] H → va_D A [(a0, .inr (9, [.ref a1, .int v0.2.1, .int v0.2.2.1, .int v0.2.2.2])), (a1, .inl (ca 0, 300, .inl v0.1))] → va_S A s.heap H locs → lv_has ls 5 [(0, .ref a0), (1, .long x1), (3, .int x3), (4, .int x4)] → W p l e ({ frames := 1, cells := 0, slots := 0, locals := 22 } : Room) s m args below meth c H locs 0 0 Q (F0 m 46 ls []) := by
    intro k46 q46 v0 x1 x3 x4 hf H locs ls hP hD hS hl
    unfold fl_X9_append_46 at hf
    refine lv_iload hx hb dX9_append_46 (lv_at hl 3 rfl) ?_
    refine lv_iload_n hx hb dX9_append_48 rfl (lv_at hl 2 rfl) ?_
    refine xc_ge (tgt := 76) hx hb dX9_append_49 (by decide) hf (fun hf => ?_) (fun hf => ?_)
    · refine lv_aload_n hx hb dX9_append_76 rfl (lv_at hl 0 rfl) ?_
      refine lv_dup hx hb dX9_append_77 rfl ?_
      refine va_get (C := RX9) (T := TX9) (N := 4) hx hb hts i9 hown hK hP 0 rfl rfl 1 (Nat.le_of_ble_eq_true rfl) w0 (fun _ h9 => h9) rfl dX9_append_78 ?_
      refine lv_iload_n hx hb dX9_append_81 rfl (lv_at hl 2 rfl) ?_
      refine lv_iadd hx hb dX9_append_82 ?_
      refine xnm hf (fun x_1 hf => ?_)
      refine xput (C := RX9) (T := TX9) (N := 4) (wx := [(a0, .inr (9, [.ref a1, .int x_1, .int v0.2.2.1, .int v0.2.2.2])), (a1, .inl (ca 0, 300, .inl v0.1))]) hx hb hts i9 tyX9 tyX9_ok nmX9 hown hK hP hD hS 0 rfl rfl 1 (Nat.le_of_ble_eq_true rfl) w0 (fun _ h9 => h9) rfl rfl rfl rfl (Nat.le_of_ble_eq_true rfl) dX9_append_83 rfl (fun H locs hP hD hS => ?_)
      refine lv_aload_n hx hb dX9_append_86 rfl (lv_at hl 0 rfl) ?_
      refine va_get (C := RX9) (T := TX9) (N := 4) hx hb hts i9 hown hK hP 0 rfl rfl 1 (Nat.le_of_ble_eq_true rfl) w0 (fun _ h9 => h9) rfl dX9_append_87 ?_
      have he := Option.some.inj hf
      obtain ⟨e_r, he⟩ := Prod.mk.inj he
      have e_v0 := he
      refine rt_I hx hb hr hlocks hK hP hD hS hQ e_r ?_ dX9_append_90
      simp only [← e_v0]
    · refine lv_aload_n hx hb dX9_append_52 rfl (lv_at hl 0 rfl) ?_
      refine va_get (C := RX9) (T := TX9) (N := 4) hx hb hts i9 hown hK hP 0 rfl rfl 0 (Nat.le_of_ble_eq_true rfl) w1 (fun _ h9 => h9) rfl dX9_append_53 ?_
      refine lv_aload_n hx hb dX9_append_56 rfl (lv_at hl 0 rfl) ?_
      refine va_get (C := RX9) (T := TX9) (N := 4) hx hb hts i9 hown hK hP 0 rfl rfl 1 (Nat.le_of_ble_eq_true rfl) w0 (fun _ h9 => h9) rfl dX9_append_57 ?_
      refine lv_iload hx hb dX9_append_60 (lv_at hl 3 rfl) ?_
      refine lv_iadd hx hb dX9_append_62 ?_
      refine lv_lload_n hx hb dX9_append_63 rfl (lv_at hl 1 rfl) ?_
      refine lv_iload hx hb dX9_append_64 (lv_at hl 3 rfl) ?_
      obtain ⟨r_2, hc2, hf⟩ := bnd1_el hf
      refine xS_I (As := [.long x1, .int x4]) (wx := [(a0, .inr (9, [.ref a1, .int v0.2.1, .int v0.2.2.1, .int v0.2.2.2])), (a1, .inl (ca 0, 300, .inl v0.1))]) ⟨hx, hb, hml, hown, hts⟩ (c_X9_byteOf l D ca zz  _ x1 x4 r_2 hc2) (va_cwS 2 hts (gS gw_2_220 gw_2_221 gw_1_10 gw_2_222) rfl rfl rfl (by decide +kernel) ⟨(Nat.le_of_ble_eq_true rfl), (Nat.le_of_ble_eq_true rfl)⟩) hK hN hZ hA hP hD hS [] [none, none] (by decide +kernel) rfl rfl rfl rfl hl.1 rfl (Nat.le_of_ble_eq_true rfl) dX9_append_66 ⟨Nat.zero_le _, Nat.zero_le _⟩ rfl (fun H locs hP hD hS => ?_)
      refine xiast (wx := [(a0, .inr (9, [.ref a1, .int v0.2.1, .int v0.2.2.1, .int v0.2.2.2])), (a1, .inl (ca 0, 300, .inl ((upd v0.1 (v0.2.1 + x4).toNatClampNeg r_2))))]) hx hb hK hP hD hS 1 rfl hf dX9_append_69 rfl (fun H locs hf hP hD hS => ?_)
      obtain ⟨y_3, ey_3, hf⟩ := bnd_el hf
      rw [← ey_3] at hP hD
      obtain ⟨x_4, ex_4, hf⟩ := bnd_el hf
      refine lv_iinc (v := x_4) (lv' := [(4, .int x_4), (0, .ref a0), (1, .long x1), (3, .int x3)]) hx hb dX9_append_70 hl (k := 3) rfl (by rw [ex_4]; rfl) (Nat.le_of_ble_eq_true rfl) rfl (fun ls hl => ?_)
      refine lv_goto (tgt := 46) hx hb dX9_append_73 (by decide) ?_
      have jb := q46 ((y_3, v0.2)) x1 x3 x_4
      dsimp only at jb
      exact jb hf _ _ _ hP hD hS (lv_sub hl [1, 2, 3, 0] rfl)
  have b46 : ∀ (n : Nat) (v0 : V9) (x1 : Int64) (x3 : Int32) (x4 : Int32), fb_X9_append_46 n v0 x1 x3 x4 = some (r, v0') → ∀ (H : Heap) (locs : List Loc) (ls : Array Slot), va_P D vwCl [(a0, .inr (9, [.ref a1, .int v0.2.1, .int v0.2.2.1, .int v0.2.2.2])), (a1, .inl (ca 0, 300, .inl v0.1))] H → va_D A [(a0, .inr (9, [.ref a1, .int v0.2.1, .int v0.2.2.1, .int v0.2.2.2])), (a1, .inl (ca 0, 300, .inl v0.1))] → va_S A s.heap H locs → lv_has ls 5 [(0, .ref a0), (1, .long x1), (3, .int x3), (4, .int x4)] → W p l e ({ frames := 1, cells := 0, slots := 0, locals := 22 } : Room) s m args below meth c H locs 0 0 Q (F0 m 46 ls []) := by
    intro n
    induction n with
    | zero => intro v0 x1 x3 x4 hf; exact no_el hf
    | succ n ih => exact bl46 (fb_X9_append_46 n) ih
  have b22 : ∀ (v0 : V9) (x1 : Int64) (x3 : Int32), fc_X9_append_22 v0 x1 x3 = some (r, v0') → ∀ (H : Heap) (locs : List Loc) (ls : Array Slot), va_P D vwCl [(a0, .inr (9, [.ref a1, .int v0.2.1, .int v0.2.2.1, .int v0.2.2.2])), (a1, .inl (ca 0, 300, .inl v0.1))] H → va_D A [(a0, .inr (9, [.ref a1, .int v0.2.1, .int v0.2.2.1, .int v0.2.2.2])), (a1, .inl (ca 0, 300, .inl v0.1))] → va_S A s.heap H locs → lv_has ls 5 [(0, .ref a0), (1, .long x1), (3, .int x3)] → W p l e ({ frames := 1, cells := 0, slots := 0, locals := 22 } : Room) s m args below meth c H locs 0 0 Q (F0 m 22 ls []) := by
    intro v0 x1 x3 hf H locs ls hP hD hS hl
    unfold fc_X9_append_22 at hf
    refine lv_aload_n hx hb dX9_append_22 rfl (lv_at hl 0 rfl) ?_
    refine va_get (C := RX9) (T := TX9) (N := 4) hx hb hts i9 hown hK hP 0 rfl rfl 1 (Nat.le_of_ble_eq_true rfl) w0 (fun _ h9 => h9) rfl dX9_append_23 ?_
    refine xi_lt (tgt := 41) hx hb dX9_append_26 (by decide) hf (fun hf => ?_) (fun hf => ?_)
    · refine lv_iconst (v := -1) hx hb dX9_append_41 rfl ?_
      have he := Option.some.inj hf
      obtain ⟨e_r, he⟩ := Prod.mk.inj he
      have e_v0 := he
      refine rt_I hx hb hr hlocks hK hP hD hS hQ e_r ?_ dX9_append_42
      simp only [← e_v0]
    · refine lv_aload_n hx hb dX9_append_29 rfl (lv_at hl 0 rfl) ?_
      refine va_get (C := RX9) (T := TX9) (N := 4) hx hb hts i9 hown hK hP 0 rfl rfl 1 (Nat.le_of_ble_eq_true rfl) w0 (fun _ h9 => h9) rfl dX9_append_30 ?_
      refine lv_iload_n hx hb dX9_append_33 rfl (lv_at hl 2 rfl) ?_
      refine lv_iadd hx hb dX9_append_34 ?_
      refine lv_sipush (v := 300) hx hb dX9_append_35 rfl ?_
      refine xc_le (tgt := 43) hx hb dX9_append_38 (by decide) hf (fun hf => ?_) (fun hf => ?_)
      · refine lv_iconst (v := 0) hx hb dX9_append_43 rfl ?_
        refine lv_istore (lv' := [(4, .int (0 : Int32)), (0, .ref a0), (1, .long x1), (3, .int x3)]) hx hb dX9_append_44 hl (Nat.le_of_ble_eq_true rfl) rfl (fun ls hl => ?_)
        exact b46 FU v0 x1 x3 (0 : Int32) hf _ _ _ hP hD hS (lv_sub hl [1, 2, 3, 0] rfl)
      · refine lv_iconst (v := -1) hx hb dX9_append_41 rfl ?_
        have he := Option.some.inj hf
        obtain ⟨e_r, he⟩ := Prod.mk.inj he
        have e_v0 := he
        refine rt_I hx hb hr hlocks hK hP hD hS hQ e_r ?_ dX9_append_42
        simp only [← e_v0]
  have bl2 : ∀ (k2 : V9 → Int64 → Int32 → Option (Int32 × V9)) (q2 : ∀ (v0 : V9) (x1 : Int64) (x3 : Int32), k2 v0 x1 x3 = some (r, v0') → ∀ (H : Heap) (locs : List Loc) (ls : Array Slot), va_P D vwCl [(a0, .inr (9, [.ref a1, .int v0.2.1, .int v0.2.2.1, .int v0.2.2.2])), (a1, .inl (ca 0, 300, .inl v0.1))] H → va_D A [(a0, .inr (9, [.ref a1, .int v0.2.1, .int v0.2.2.1, .int v0.2.2.2])), (a1, .inl (ca 0, 300, .inl v0.1))] → va_S A s.heap H locs → lv_has ls 5 [(0, .ref a0), (1, .long x1), (3, .int x3)] → W p l e ({ frames := 1, cells := 0, slots := 0, locals := 22 } : Room) s m args below meth c H locs 0 0 Q (F0 m 2 ls [])) (v0 : V9) (x1 : Int64) (x3 : Int32), fl_X9_append_2 k2 v0 x1 x3 = some (r, v0') → ∀ (H : Heap) (locs : List Loc) (ls : Array Slot), va_P D vwCl [(a0, .inr (9, [.ref a1, .int v0.2.1, .int v0.2.2.1, .int v0.2.2.2])), (a1, .inl (ca 0, 300, .inl v0.1))] H → va_D A [(a0, .inr (9, [.ref a1, .int v0.2.1, .int v0.2.2.1, .int v0.2.2.2])), (a1, .inl (ca 0, 300, .inl v0.1))] → va_S A s.heap H locs → lv_has ls 5 [(0, .ref a0), (1, .long x1), (3, .int x3)] → W p l e ({ frames := 1, cells := 0, slots := 0, locals := 22 } : Room) s m args below meth c H locs 0 0 Q (F0 m 2 ls []) := by
    intro k2 q2 v0 x1 x3 hf H locs ls hP hD hS hl
    unfold fl_X9_append_2 at hf
    refine lv_iload_n hx hb dX9_append_2 rfl (lv_at hl 2 rfl) ?_
    refine lv_bipush (v := 8) hx hb dX9_append_3 rfl ?_
    refine xc_ge (tgt := 22) hx hb dX9_append_5 (by decide) hf (fun hf => ?_) (fun hf => ?_)
    · exact b22 v0 x1 x3 hf _ _ _ hP hD hS (lv_sub hl [0, 1, 2] rfl)
    · refine lv_lload_n hx hb dX9_append_8 rfl (lv_at hl 1 rfl) ?_
      refine lv_iload_n hx hb dX9_append_9 rfl (lv_at hl 2 rfl) ?_
      obtain ⟨r_5, hc5, hf⟩ := bnd1_el hf
      refine xS_I (As := [.long x1, .int x3]) (wx := [(a0, .inr (9, [.ref a1, .int v0.2.1, .int v0.2.2.1, .int v0.2.2.2])), (a1, .inl (ca 0, 300, .inl v0.1))]) ⟨hx, hb, hml, hown, hts⟩ (c_X9_byteOf l D ca zz  _ x1 x3 r_5 hc5) (va_cwS 2 hts (gS gw_2_220 gw_2_221 gw_1_10 gw_2_222) rfl rfl rfl (by decide +kernel) ⟨(Nat.le_of_ble_eq_true rfl), (Nat.le_of_ble_eq_true rfl)⟩) hK hN hZ hA hP hD hS [] [none, none] (by decide +kernel) rfl rfl rfl rfl hl.1 rfl (Nat.le_of_ble_eq_true rfl) dX9_append_10 ⟨Nat.zero_le _, Nat.zero_le _⟩ rfl (fun H locs hP hD hS => ?_)
      refine xi_eq (tgt := 22) hx hb dX9_append_13 (by decide) hf (fun hf => ?_) (fun hf => ?_)
      · exact b22 v0 x1 x3 hf _ _ _ hP hD hS (lv_sub hl [0, 1, 2] rfl)
      · obtain ⟨x_6, ex_6, hf⟩ := bnd_el hf
        refine lv_iinc (v := x_6) (lv' := [(3, .int x_6), (0, .ref a0), (1, .long x1)]) hx hb dX9_append_16 hl (k := 2) rfl (by rw [ex_6]; rfl) (Nat.le_of_ble_eq_true rfl) rfl (fun ls hl => ?_)
        refine lv_goto (tgt := 2) hx hb dX9_append_19 (by decide) ?_
        exact q2 v0 x1 x_6 hf _ _ _ hP hD hS (lv_sub hl [1, 2, 0] rfl)
  have b2 : ∀ (n : Nat) (v0 : V9) (x1 : Int64) (x3 : Int32), fb_X9_append_2 n v0 x1 x3 = some (r, v0') → ∀ (H : Heap) (locs : List Loc) (ls : Array Slot), va_P D vwCl [(a0, .inr (9, [.ref a1, .int v0.2.1, .int v0.2.2.1, .int v0.2.2.2])), (a1, .inl (ca 0, 300, .inl v0.1))] H → va_D A [(a0, .inr (9, [.ref a1, .int v0.2.1, .int v0.2.2.1, .int v0.2.2.2])), (a1, .inl (ca 0, 300, .inl v0.1))] → va_S A s.heap H locs → lv_has ls 5 [(0, .ref a0), (1, .long x1), (3, .int x3)] → W p l e ({ frames := 1, cells := 0, slots := 0, locals := 22 } : Room) s m args below meth c H locs 0 0 Q (F0 m 2 ls []) := by
    intro n
    induction n with
    | zero => intro v0 x1 x3 hf; exact no_el hf
    | succ n ih => exact bl2 (fb_X9_append_2 n) ih
  unfold f_X9_append at hf
  refine lv_iconst (v := 0) hx hb dX9_append_0 rfl ?_
  refine lv_istore_n (lv' := [(3, .int (0 : Int32)), (0, .ref a0), (1, .long p1)]) hx hb dX9_append_1 rfl hl (Nat.le_of_ble_eq_true rfl) rfl (fun ls hl => ?_)
  exact b2 FU v0 p1 (0 : Int32) hf _ _ _ hP hD hS (lv_sub hl [1, 2, 0] rfl)
abbrev wq_X11_tell : List Cond := Cond.code yX11_tell cX11_tell 3 (some .int) :: GL
set_option maxHeartbeats 4000000 in
set_option maxRecDepth 100000 in
theorem c_X11_tell (l : Launch) (D : va_G) (ca : Nat → ClassId) (zz : Nat → Nat) (a0 a1 a2 a3 a4 a5 a6 a7 a8 a9 a10 a11 a12 a13 a14 a15 a16 a17 a18 a19 a20 a21 a41 a42 a49 a52 a54 a55 : Nat) (sz : Nat) (v0 : V11) (p1 : Int64) (r : Int32) (v0' : V11) (hf : f_X11_tell v0 p1 = some (r, v0')) : Met l yX11_tell wq_X11_tell ({ frames := 2, cells := 0, slots := 0, locals := 46 } : Room) (PR D ca zz [.ref a0, .long p1] sz [(a0, .inr (11, [.ref a1, .ref a21, .ref a41, .ref a42, .ref a49, .ref a52, .ref a54, .ref a55])), (a1, .inr (10, [.ref a2, .ref a7, .ref a9, .ref a10, .ref a11, .ref a14, .ref a16, .ref a19, .int v0.1.2.2.2.2.2.2.2.2.1, .int v0.1.2.2.2.2.2.2.2.2.2.1, .int v0.1.2.2.2.2.2.2.2.2.2.2.1, .int v0.1.2.2.2.2.2.2.2.2.2.2.2.1, .int v0.1.2.2.2.2.2.2.2.2.2.2.2.2.1, .int v0.1.2.2.2.2.2.2.2.2.2.2.2.2.2])), (a2, .inr (7, [.ref a3, .ref a4, .ref a5, .ref a6, .int v0.1.1.2.2.2.2])), (a3, .inl (ca 0, 9, .inl v0.1.1.1)), (a4, .inl (ca 0, 4, .inl v0.1.1.2.1)), (a5, .inl (ca 0, 4, .inl v0.1.1.2.2.1)), (a6, .inl (ca 0, 4, .inl v0.1.1.2.2.2.1)), (a7, .inr (2, [.ref a8, .int v0.1.2.1.2.1, .int v0.1.2.1.2.2.1, .int v0.1.2.1.2.2.2.1, .int v0.1.2.1.2.2.2.2])), (a8, .inl (ca 1, 17, .inr (.inl v0.1.2.1.1))), (a9, .inr (8, [.int v0.1.2.2.1.1, .int v0.1.2.2.1.2.1, .int v0.1.2.2.1.2.2])), (a10, .inr (1, [.int v0.1.2.2.2.1.1, .int v0.1.2.2.2.1.2.1, .int v0.1.2.2.2.1.2.2.1, .int v0.1.2.2.2.1.2.2.2.1, .int v0.1.2.2.2.1.2.2.2.2.1, .int v0.1.2.2.2.1.2.2.2.2.2])), (a11, .inr (3, [.ref a12, .int v0.1.2.2.2.2.1.2.1, .int v0.1.2.2.2.2.1.2.2.1, .int v0.1.2.2.2.2.1.2.2.2.1, .int v0.1.2.2.2.2.1.2.2.2.2.1, .int v0.1.2.2.2.2.1.2.2.2.2.2.1, .int v0.1.2.2.2.2.1.2.2.2.2.2.2])), (a12, .inr (4, [.ref a13, .int v0.1.2.2.2.2.1.1.2.1, .int v0.1.2.2.2.2.1.1.2.2])), (a13, .inl (ca 0, 512, .inl v0.1.2.2.2.2.1.1.1)), (a14, .inr (4, [.ref a15, .int v0.1.2.2.2.2.2.1.2.1, .int v0.1.2.2.2.2.2.1.2.2])), (a15, .inl (ca 0, 512, .inl v0.1.2.2.2.2.2.1.1)), (a16, .inr (6, [.ref a17, .ref a18, .int v0.1.2.2.2.2.2.2.1.2.2])), (a17, .inl (ca 0, 15, .inl v0.1.2.2.2.2.2.2.1.1)), (a18, .inl (ca 0, 15, .inl v0.1.2.2.2.2.2.2.1.2.1)), (a19, .inr (9, [.ref a20, .int v0.1.2.2.2.2.2.2.2.1.2.1, .int v0.1.2.2.2.2.2.2.2.1.2.2.1, .int v0.1.2.2.2.2.2.2.2.1.2.2.2])), (a20, .inl (ca 0, 300, .inl v0.1.2.2.2.2.2.2.2.1.1))]) (QI D ca r [(a0, .inr (11, [.ref a1, .ref a21, .ref a41, .ref a42, .ref a49, .ref a52, .ref a54, .ref a55])), (a1, .inr (10, [.ref a2, .ref a7, .ref a9, .ref a10, .ref a11, .ref a14, .ref a16, .ref a19, .int v0'.1.2.2.2.2.2.2.2.2.1, .int v0'.1.2.2.2.2.2.2.2.2.2.1, .int v0'.1.2.2.2.2.2.2.2.2.2.2.1, .int v0'.1.2.2.2.2.2.2.2.2.2.2.2.1, .int v0'.1.2.2.2.2.2.2.2.2.2.2.2.2.1, .int v0'.1.2.2.2.2.2.2.2.2.2.2.2.2.2])), (a2, .inr (7, [.ref a3, .ref a4, .ref a5, .ref a6, .int v0'.1.1.2.2.2.2])), (a3, .inl (ca 0, 9, .inl v0'.1.1.1)), (a4, .inl (ca 0, 4, .inl v0'.1.1.2.1)), (a5, .inl (ca 0, 4, .inl v0'.1.1.2.2.1)), (a6, .inl (ca 0, 4, .inl v0'.1.1.2.2.2.1)), (a7, .inr (2, [.ref a8, .int v0'.1.2.1.2.1, .int v0'.1.2.1.2.2.1, .int v0'.1.2.1.2.2.2.1, .int v0'.1.2.1.2.2.2.2])), (a8, .inl (ca 1, 17, .inr (.inl v0'.1.2.1.1))), (a9, .inr (8, [.int v0'.1.2.2.1.1, .int v0'.1.2.2.1.2.1, .int v0'.1.2.2.1.2.2])), (a10, .inr (1, [.int v0'.1.2.2.2.1.1, .int v0'.1.2.2.2.1.2.1, .int v0'.1.2.2.2.1.2.2.1, .int v0'.1.2.2.2.1.2.2.2.1, .int v0'.1.2.2.2.1.2.2.2.2.1, .int v0'.1.2.2.2.1.2.2.2.2.2])), (a11, .inr (3, [.ref a12, .int v0'.1.2.2.2.2.1.2.1, .int v0'.1.2.2.2.2.1.2.2.1, .int v0'.1.2.2.2.2.1.2.2.2.1, .int v0'.1.2.2.2.2.1.2.2.2.2.1, .int v0'.1.2.2.2.2.1.2.2.2.2.2.1, .int v0'.1.2.2.2.2.1.2.2.2.2.2.2])), (a12, .inr (4, [.ref a13, .int v0'.1.2.2.2.2.1.1.2.1, .int v0'.1.2.2.2.2.1.1.2.2])), (a13, .inl (ca 0, 512, .inl v0'.1.2.2.2.2.1.1.1)), (a14, .inr (4, [.ref a15, .int v0'.1.2.2.2.2.2.1.2.1, .int v0'.1.2.2.2.2.2.1.2.2])), (a15, .inl (ca 0, 512, .inl v0'.1.2.2.2.2.2.1.1)), (a16, .inr (6, [.ref a17, .ref a18, .int v0'.1.2.2.2.2.2.2.1.2.2])), (a17, .inl (ca 0, 15, .inl v0'.1.2.2.2.2.2.2.1.1)), (a18, .inl (ca 0, 15, .inl v0'.1.2.2.2.2.2.2.1.2.1)), (a19, .inr (9, [.ref a20, .int v0'.1.2.2.2.2.2.2.2.1.2.1, .int v0'.1.2.2.2.2.2.2.2.1.2.2.1, .int v0'.1.2.2.2.2.2.2.2.1.2.2.2])), (a20, .inl (ca 0, 300, .inl v0'.1.2.2.2.2.2.2.2.1.1))] (va_A [(a0, .inr (11, [.ref a1, .ref a21, .ref a41, .ref a42, .ref a49, .ref a52, .ref a54, .ref a55])), (a1, .inr (10, [.ref a2, .ref a7, .ref a9, .ref a10, .ref a11, .ref a14, .ref a16, .ref a19, .int v0.1.2.2.2.2.2.2.2.2.1, .int v0.1.2.2.2.2.2.2.2.2.2.1, .int v0.1.2.2.2.2.2.2.2.2.2.2.1, .int v0.1.2.2.2.2.2.2.2.2.2.2.2.1, .int v0.1.2.2.2.2.2.2.2.2.2.2.2.2.1, .int v0.1.2.2.2.2.2.2.2.2.2.2.2.2.2])), (a2, .inr (7, [.ref a3, .ref a4, .ref a5, .ref a6, .int v0.1.1.2.2.2.2])), (a3, .inl (ca 0, 9, .inl v0.1.1.1)), (a4, .inl (ca 0, 4, .inl v0.1.1.2.1)), (a5, .inl (ca 0, 4, .inl v0.1.1.2.2.1)), (a6, .inl (ca 0, 4, .inl v0.1.1.2.2.2.1)), (a7, .inr (2, [.ref a8, .int v0.1.2.1.2.1, .int v0.1.2.1.2.2.1, .int v0.1.2.1.2.2.2.1, .int v0.1.2.1.2.2.2.2])), (a8, .inl (ca 1, 17, .inr (.inl v0.1.2.1.1))), (a9, .inr (8, [.int v0.1.2.2.1.1, .int v0.1.2.2.1.2.1, .int v0.1.2.2.1.2.2])), (a10, .inr (1, [.int v0.1.2.2.2.1.1, .int v0.1.2.2.2.1.2.1, .int v0.1.2.2.2.1.2.2.1, .int v0.1.2.2.2.1.2.2.2.1, .int v0.1.2.2.2.1.2.2.2.2.1, .int v0.1.2.2.2.1.2.2.2.2.2])), (a11, .inr (3, [.ref a12, .int v0.1.2.2.2.2.1.2.1, .int v0.1.2.2.2.2.1.2.2.1, .int v0.1.2.2.2.2.1.2.2.2.1, .int v0.1.2.2.2.2.1.2.2.2.2.1, .int v0.1.2.2.2.2.1.2.2.2.2.2.1, .int v0.1.2.2.2.2.1.2.2.2.2.2.2])), (a12, .inr (4, [.ref a13, .int v0.1.2.2.2.2.1.1.2.1, .int v0.1.2.2.2.2.1.1.2.2])), (a13, .inl (ca 0, 512, .inl v0.1.2.2.2.2.1.1.1)), (a14, .inr (4, [.ref a15, .int v0.1.2.2.2.2.2.1.2.1, .int v0.1.2.2.2.2.2.1.2.2])), (a15, .inl (ca 0, 512, .inl v0.1.2.2.2.2.2.1.1)), (a16, .inr (6, [.ref a17, .ref a18, .int v0.1.2.2.2.2.2.2.1.2.2])), (a17, .inl (ca 0, 15, .inl v0.1.2.2.2.2.2.2.1.1)), (a18, .inl (ca 0, 15, .inl v0.1.2.2.2.2.2.2.1.2.1)), (a19, .inr (9, [.ref a20, .int v0.1.2.2.2.2.2.2.2.1.2.1, .int v0.1.2.2.2.2.2.2.2.1.2.2.1, .int v0.1.2.2.2.2.2.2.2.1.2.2.2])), (a20, .inl (ca 0, 300, .inl v0.1.2.2.2.2.2.2.2.1.1))] sz)) 0 0 (va_A [(a0, .inr (11, [.ref a1, .ref a21, .ref a41, .ref a42, .ref a49, .ref a52, .ref a54, .ref a55])), (a1, .inr (10, [.ref a2, .ref a7, .ref a9, .ref a10, .ref a11, .ref a14, .ref a16, .ref a19, .int v0.1.2.2.2.2.2.2.2.2.1, .int v0.1.2.2.2.2.2.2.2.2.2.1, .int v0.1.2.2.2.2.2.2.2.2.2.2.1, .int v0.1.2.2.2.2.2.2.2.2.2.2.2.1, .int v0.1.2.2.2.2.2.2.2.2.2.2.2.2.1, .int v0.1.2.2.2.2.2.2.2.2.2.2.2.2.2])), (a2, .inr (7, [.ref a3, .ref a4, .ref a5, .ref a6, .int v0.1.1.2.2.2.2])), (a3, .inl (ca 0, 9, .inl v0.1.1.1)), (a4, .inl (ca 0, 4, .inl v0.1.1.2.1)), (a5, .inl (ca 0, 4, .inl v0.1.1.2.2.1)), (a6, .inl (ca 0, 4, .inl v0.1.1.2.2.2.1)), (a7, .inr (2, [.ref a8, .int v0.1.2.1.2.1, .int v0.1.2.1.2.2.1, .int v0.1.2.1.2.2.2.1, .int v0.1.2.1.2.2.2.2])), (a8, .inl (ca 1, 17, .inr (.inl v0.1.2.1.1))), (a9, .inr (8, [.int v0.1.2.2.1.1, .int v0.1.2.2.1.2.1, .int v0.1.2.2.1.2.2])), (a10, .inr (1, [.int v0.1.2.2.2.1.1, .int v0.1.2.2.2.1.2.1, .int v0.1.2.2.2.1.2.2.1, .int v0.1.2.2.2.1.2.2.2.1, .int v0.1.2.2.2.1.2.2.2.2.1, .int v0.1.2.2.2.1.2.2.2.2.2])), (a11, .inr (3, [.ref a12, .int v0.1.2.2.2.2.1.2.1, .int v0.1.2.2.2.2.1.2.2.1, .int v0.1.2.2.2.2.1.2.2.2.1, .int v0.1.2.2.2.2.1.2.2.2.2.1, .int v0.1.2.2.2.2.1.2.2.2.2.2.1, .int v0.1.2.2.2.2.1.2.2.2.2.2.2])), (a12, .inr (4, [.ref a13, .int v0.1.2.2.2.2.1.1.2.1, .int v0.1.2.2.2.2.1.1.2.2])), (a13, .inl (ca 0, 512, .inl v0.1.2.2.2.2.1.1.1)), (a14, .inr (4, [.ref a15, .int v0.1.2.2.2.2.2.1.2.1, .int v0.1.2.2.2.2.2.1.2.2])), (a15, .inl (ca 0, 512, .inl v0.1.2.2.2.2.2.1.1)), (a16, .inr (6, [.ref a17, .ref a18, .int v0.1.2.2.2.2.2.2.1.2.2])), (a17, .inl (ca 0, 15, .inl v0.1.2.2.2.2.2.2.1.1)), (a18, .inl (ca 0, 15, .inl v0.1.2.2.2.2.2.2.1.2.1)), (a19, .inr (9, [.ref a20, .int v0.1.2.2.2.2.2.2.2.1.2.1, .int v0.1.2.2.2.2.2.2.2.1.2.2.1, .int v0.1.2.2.2.2.2.2.2.1.2.2.2])), (a20, .inl (ca 0, 300, .inl v0.1.2.2.2.2.2.2.2.1.1))] sz) := by
  refine en (y := yX11_tell) (wsm := wq_X11_tell) (av := [.ref a0, .long p1]) (cc := cX11_tell) (maxL := 3) (ret := (some .int)) (Qf := fun A => (QI D ca r [(a0, .inr (11, [.ref a1, .ref a21, .ref a41, .ref a42, .ref a49, .ref a52, .ref a54, .ref a55])), (a1, .inr (10, [.ref a2, .ref a7, .ref a9, .ref a10, .ref a11, .ref a14, .ref a16, .ref a19, .int v0'.1.2.2.2.2.2.2.2.2.1, .int v0'.1.2.2.2.2.2.2.2.2.2.1, .int v0'.1.2.2.2.2.2.2.2.2.2.2.1, .int v0'.1.2.2.2.2.2.2.2.2.2.2.2.1, .int v0'.1.2.2.2.2.2.2.2.2.2.2.2.2.1, .int v0'.1.2.2.2.2.2.2.2.2.2.2.2.2.2])), (a2, .inr (7, [.ref a3, .ref a4, .ref a5, .ref a6, .int v0'.1.1.2.2.2.2])), (a3, .inl (ca 0, 9, .inl v0'.1.1.1)), (a4, .inl (ca 0, 4, .inl v0'.1.1.2.1)), (a5, .inl (ca 0, 4, .inl v0'.1.1.2.2.1)), (a6, .inl (ca 0, 4, .inl v0'.1.1.2.2.2.1)), (a7, .inr (2, [.ref a8, .int v0'.1.2.1.2.1, .int v0'.1.2.1.2.2.1, .int v0'.1.2.1.2.2.2.1, .int v0'.1.2.1.2.2.2.2])), (a8, .inl (ca 1, 17, .inr (.inl v0'.1.2.1.1))), (a9, .inr (8, [.int v0'.1.2.2.1.1, .int v0'.1.2.2.1.2.1, .int v0'.1.2.2.1.2.2])), (a10, .inr (1, [.int v0'.1.2.2.2.1.1, .int v0'.1.2.2.2.1.2.1, .int v0'.1.2.2.2.1.2.2.1, .int v0'.1.2.2.2.1.2.2.2.1, .int v0'.1.2.2.2.1.2.2.2.2.1, .int v0'.1.2.2.2.1.2.2.2.2.2])), (a11, .inr (3, [.ref a12, .int v0'.1.2.2.2.2.1.2.1, .int v0'.1.2.2.2.2.1.2.2.1, .int v0'.1.2.2.2.2.1.2.2.2.1, .int v0'.1.2.2.2.2.1.2.2.2.2.1, .int v0'.1.2.2.2.2.1.2.2.2.2.2.1, .int v0'.1.2.2.2.2.1.2.2.2.2.2.2])), (a12, .inr (4, [.ref a13, .int v0'.1.2.2.2.2.1.1.2.1, .int v0'.1.2.2.2.2.1.1.2.2])), (a13, .inl (ca 0, 512, .inl v0'.1.2.2.2.2.1.1.1)), (a14, .inr (4, [.ref a15, .int v0'.1.2.2.2.2.2.1.2.1, .int v0'.1.2.2.2.2.2.1.2.2])), (a15, .inl (ca 0, 512, .inl v0'.1.2.2.2.2.2.1.1)), (a16, .inr (6, [.ref a17, .ref a18, .int v0'.1.2.2.2.2.2.2.1.2.2])), (a17, .inl (ca 0, 15, .inl v0'.1.2.2.2.2.2.2.1.1)), (a18, .inl (ca 0, 15, .inl v0'.1.2.2.2.2.2.2.1.2.1)), (a19, .inr (9, [.ref a20, .int v0'.1.2.2.2.2.2.2.2.1.2.1, .int v0'.1.2.2.2.2.2.2.2.1.2.2.1, .int v0'.1.2.2.2.2.2.2.2.1.2.2.2])), (a20, .inl (ca 0, 300, .inl v0'.1.2.2.2.2.2.2.2.1.1))] A)) (by decide) rfl (Nat.le_of_ble_eq_true rfl) ?_
  intro p e s m args below meth c A Q ls hx hb hr hml hown hts hlocks hnm hA hN hZ hK hQ hP hD hS hl
  have w0 := hts _ (List.mem_cons_of_mem _ gw_2_187)
  have nw39 := NW.use (args := args) (w := .fieldLinkNest RX11 54 "NoiseWatch$Watch" "text" "LNoiseWatch$Text;" "NoiseWatch") hN 39 rfl
  have i10 : ∀ w ∈ u_ws RX10 TX10 14, w ∈ wq_X11_tell := fun w h => List.mem_cons_of_mem _ (inX10 w h)
  have i11 : ∀ w ∈ u_ws RX11 TX11 8, w ∈ wq_X11_tell := fun w h => List.mem_cons_of_mem _ (inX11 w h)
  unfold f_X11_tell at hf
  refine lv_aload_n hx hb dX11_tell_0 rfl (lv_at hl 0 rfl) ?_
  refine va_get (C := RX11) (T := TX11) (N := 8) hx hb hts i11 hown hK hP 0 rfl rfl 0 (Nat.le_of_ble_eq_true rfl) w0 (fun _ h9 => h9) rfl dX11_tell_1 ?_
  refine va_getN (C := RX10) (T := TX10) (N := 14) hx hb hts i10 hown hK hP 1 rfl rfl 7 (Nat.le_of_ble_eq_true rfl) nw39 (fun _ h9 => h9) rfl dX11_tell_4 ?_
  refine lv_lload_n hx hb dX11_tell_7 rfl (lv_at hl 1 rfl) ?_
  obtain ⟨r_1, u_2, hc2, hf⟩ := bnd2_el hf
  refine xV_I (As := [.long p1]) (wx := [(a0, .inr (11, [.ref a1, .ref a21, .ref a41, .ref a42, .ref a49, .ref a52, .ref a54, .ref a55])), (a1, .inr (10, [.ref a2, .ref a7, .ref a9, .ref a10, .ref a11, .ref a14, .ref a16, .ref a19, .int v0.1.2.2.2.2.2.2.2.2.1, .int v0.1.2.2.2.2.2.2.2.2.2.1, .int v0.1.2.2.2.2.2.2.2.2.2.2.1, .int v0.1.2.2.2.2.2.2.2.2.2.2.2.1, .int v0.1.2.2.2.2.2.2.2.2.2.2.2.2.1, .int v0.1.2.2.2.2.2.2.2.2.2.2.2.2.2])), (a2, .inr (7, [.ref a3, .ref a4, .ref a5, .ref a6, .int v0.1.1.2.2.2.2])), (a3, .inl (ca 0, 9, .inl v0.1.1.1)), (a4, .inl (ca 0, 4, .inl v0.1.1.2.1)), (a5, .inl (ca 0, 4, .inl v0.1.1.2.2.1)), (a6, .inl (ca 0, 4, .inl v0.1.1.2.2.2.1)), (a7, .inr (2, [.ref a8, .int v0.1.2.1.2.1, .int v0.1.2.1.2.2.1, .int v0.1.2.1.2.2.2.1, .int v0.1.2.1.2.2.2.2])), (a8, .inl (ca 1, 17, .inr (.inl v0.1.2.1.1))), (a9, .inr (8, [.int v0.1.2.2.1.1, .int v0.1.2.2.1.2.1, .int v0.1.2.2.1.2.2])), (a10, .inr (1, [.int v0.1.2.2.2.1.1, .int v0.1.2.2.2.1.2.1, .int v0.1.2.2.2.1.2.2.1, .int v0.1.2.2.2.1.2.2.2.1, .int v0.1.2.2.2.1.2.2.2.2.1, .int v0.1.2.2.2.1.2.2.2.2.2])), (a11, .inr (3, [.ref a12, .int v0.1.2.2.2.2.1.2.1, .int v0.1.2.2.2.2.1.2.2.1, .int v0.1.2.2.2.2.1.2.2.2.1, .int v0.1.2.2.2.2.1.2.2.2.2.1, .int v0.1.2.2.2.2.1.2.2.2.2.2.1, .int v0.1.2.2.2.2.1.2.2.2.2.2.2])), (a12, .inr (4, [.ref a13, .int v0.1.2.2.2.2.1.1.2.1, .int v0.1.2.2.2.2.1.1.2.2])), (a13, .inl (ca 0, 512, .inl v0.1.2.2.2.2.1.1.1)), (a14, .inr (4, [.ref a15, .int v0.1.2.2.2.2.2.1.2.1, .int v0.1.2.2.2.2.2.1.2.2])), (a15, .inl (ca 0, 512, .inl v0.1.2.2.2.2.2.1.1)), (a16, .inr (6, [.ref a17, .ref a18, .int v0.1.2.2.2.2.2.2.1.2.2])), (a17, .inl (ca 0, 15, .inl v0.1.2.2.2.2.2.2.1.1)), (a18, .inl (ca 0, 15, .inl v0.1.2.2.2.2.2.2.1.2.1)), (a19, .inr (9, [.ref a20, .int u_2.2.1, .int u_2.2.2.1, .int u_2.2.2.2])), (a20, .inl (ca 0, 300, .inl u_2.1))]) ⟨hx, hb, hml, hown, hts⟩ (c_X9_append l D ca zz a19 a20 _ v0.1.2.2.2.2.2.2.2.1 p1 r_1 u_2 hc2) (cwV 1 hts (gV gw_2_216 gw_2_217 gw_2_218 gw_1_10 gw_2_219) rfl rfl rfl (by decide +kernel) ⟨(Nat.le_of_ble_eq_true rfl), (Nat.le_of_ble_eq_true rfl)⟩) hK hN hZ hA hP hD hS [19, 20] [none, none, none, none, none, none, none, none, none, none, none, none, none, none, none, none, none, none, none, some 0, some 1] (by decide +kernel) rfl rfl rfl rfl 19 rfl rfl hl.1 rfl (Nat.le_of_ble_eq_true rfl) dX11_tell_8 ⟨Nat.zero_le _, Nat.zero_le _⟩ rfl (fun H locs hP hD hS => ?_)
  have he := Option.some.inj hf
  obtain ⟨e_r, he⟩ := Prod.mk.inj he
  have e_v0 := he
  refine rt_I hx hb hr hlocks hK hP hD hS hQ e_r ?_ dX11_tell_11
  simp only [← e_v0]
abbrev wq_X7_setFirst : List Cond := Cond.code yX7_setFirst cX7_setFirst 1 none :: GL
set_option maxHeartbeats 4000000 in
set_option maxRecDepth 100000 in
theorem c_X7_setFirst (l : Launch) (D : va_G) (ca : Nat → ClassId) (zz : Nat → Nat) (a0 a1 a2 a3 a4 : Nat) (sz : Nat) (v0 : V7) (v0' : V7) (hf : f_X7_setFirst v0 = some v0') : Met l yX7_setFirst wq_X7_setFirst ({ frames := 1, cells := 0, slots := 0, locals := 60 } : Room) (PR D ca zz [.ref a0] sz [(a0, .inr (7, [.ref a1, .ref a2, .ref a3, .ref a4, .int v0.2.2.2.2])), (a1, .inl (ca 0, 9, .inl v0.1)), (a2, .inl (ca 0, 4, .inl v0.2.1)), (a3, .inl (ca 0, 4, .inl v0.2.2.1)), (a4, .inl (ca 0, 4, .inl v0.2.2.2.1))]) (QV D ca [(a0, .inr (7, [.ref a1, .ref a2, .ref a3, .ref a4, .int v0'.2.2.2.2])), (a1, .inl (ca 0, 9, .inl v0'.1)), (a2, .inl (ca 0, 4, .inl v0'.2.1)), (a3, .inl (ca 0, 4, .inl v0'.2.2.1)), (a4, .inl (ca 0, 4, .inl v0'.2.2.2.1))] (va_A [(a0, .inr (7, [.ref a1, .ref a2, .ref a3, .ref a4, .int v0.2.2.2.2])), (a1, .inl (ca 0, 9, .inl v0.1)), (a2, .inl (ca 0, 4, .inl v0.2.1)), (a3, .inl (ca 0, 4, .inl v0.2.2.1)), (a4, .inl (ca 0, 4, .inl v0.2.2.2.1))] sz)) 0 0 (va_A [(a0, .inr (7, [.ref a1, .ref a2, .ref a3, .ref a4, .int v0.2.2.2.2])), (a1, .inl (ca 0, 9, .inl v0.1)), (a2, .inl (ca 0, 4, .inl v0.2.1)), (a3, .inl (ca 0, 4, .inl v0.2.2.1)), (a4, .inl (ca 0, 4, .inl v0.2.2.2.1))] sz) := by
  refine en (y := yX7_setFirst) (wsm := wq_X7_setFirst) (av := [.ref a0]) (cc := cX7_setFirst) (maxL := 1) (ret := none) (Qf := fun A => (QV D ca [(a0, .inr (7, [.ref a1, .ref a2, .ref a3, .ref a4, .int v0'.2.2.2.2])), (a1, .inl (ca 0, 9, .inl v0'.1)), (a2, .inl (ca 0, 4, .inl v0'.2.1)), (a3, .inl (ca 0, 4, .inl v0'.2.2.1)), (a4, .inl (ca 0, 4, .inl v0'.2.2.2.1))] A)) (by decide) rfl (Nat.le_of_ble_eq_true rfl) ?_
  intro p e s m args below meth c A Q ls hx hb hr hml hown hts hlocks hnm hA hN hZ hK hQ hP hD hS hl
  have w0 := hts _ (List.mem_cons_of_mem _ gw_1_55)
  have w1 := hts _ (List.mem_cons_of_mem _ gw_2_235)
  have w2 := hts _ (List.mem_cons_of_mem _ gw_2_30)
  have w3 := hts _ (List.mem_cons_of_mem _ gw_1_11)
  have w4 := hts _ (List.mem_cons_of_mem _ gw_2_31)
  have w5 := hts _ (List.mem_cons_of_mem _ gw_2_236)
  have w6 := hts _ (List.mem_cons_of_mem _ gw_2_238)
  have w7 := hts _ (List.mem_cons_of_mem _ gw_2_237)
  have w8 := hts _ (List.mem_cons_of_mem _ gw_1_16)
  have w9 := hts _ (List.mem_cons_of_mem _ gw_1_59)
  have nw0 := NW.use (args := args) (w := .fieldLinkNest RX7 9 "NoiseWatch" "FIRST" "[I" "NoiseWatch") hN 0 rfl
  have i7 : ∀ w ∈ u_ws RX7 TX7 5, w ∈ wq_X7_setFirst := fun w h => List.mem_cons_of_mem _ (inX7 w h)
  unfold f_X7_setFirst at hf
  refine va_getsN hx hb hZ.1.1 hS hown nw0 (fun _ h9 => h9) dX7_setFirst_0 ?_
  refine lv_iconst (v := 0) hx hb dX7_setFirst_3 rfl ?_
  refine lv_aload_n hx hb dX7_setFirst_4 rfl (lv_at hl 0 rfl) ?_
  refine va_get (C := RX7) (T := TX7) (N := 5) hx hb hts i7 hown hK hP 0 rfl rfl 0 (Nat.le_of_ble_eq_true rfl) w0 (fun _ h9 => h9) rfl dX7_setFirst_5 ?_
  refine lv_iconst (v := 0) hx hb dX7_setFirst_8 rfl ?_
  refine va_getsN hx hb hZ.1.1 hS hown nw0 (fun _ h9 => h9) dX7_setFirst_9 ?_
  refine va_tlen (v := 9) hx hb hZ.1.2.1 hS rfl dX7_setFirst_12 ?_
  refine lv_aload_n hx hb dX7_setFirst_13 rfl (lv_at hl 0 rfl) ?_
  refine va_get (C := RX7) (T := TX7) (N := 5) hx hb hts i7 hown hK hP 0 rfl rfl 0 (Nat.le_of_ble_eq_true rfl) w0 (fun _ h9 => h9) rfl dX7_setFirst_14 ?_
  refine va_alen hx hb hK hP 1 0 rfl rfl (v := (9 : Int32)) rfl dX7_setFirst_17 ?_
  refine va_mmin hx hb (hml.trans hl.1.symm) hown w1 w2 w3 w4 (Nat.le_of_ble_eq_true rfl) (Nat.le_of_ble_eq_true rfl) (Nat.zero_le _) (Nat.zero_le _) dX7_setFirst_18 ?_
  refine xnm hf (fun x_1 hf => ?_)
  refine xcopyt (wx := [(a0, .inr (7, [.ref a1, .ref a2, .ref a3, .ref a4, .int v0.2.2.2.2])), (a1, .inl (ca 0, 9, .inl ((va_cpy stF v0.1 ((0 : Int32)).toNatClampNeg ((0 : Int32)).toNatClampNeg (x_1).toNatClampNeg)))), (a2, .inl (ca 0, 4, .inl v0.2.1)), (a3, .inl (ca 0, 4, .inl v0.2.2.1)), (a4, .inl (ca 0, 4, .inl v0.2.2.2.1))]) hx hb (hml.trans hl.1.symm) hown w5 w6 w7 w8 hK hP hD hS hZ.1.2.1 1 rfl hf (Nat.le_of_ble_eq_true rfl) (Nat.le_of_ble_eq_true rfl) dX7_setFirst_21 rfl (fun H locs hf hP hD hS => ?_)
  obtain ⟨y_2, ey_2, hf⟩ := bnd_el hf
  rw [← ey_2] at hP hD
  refine lv_aload_n hx hb dX7_setFirst_24 rfl (lv_at hl 0 rfl) ?_
  refine lv_iconst (v := 0) hx hb dX7_setFirst_25 rfl ?_
  refine xput (C := RX7) (T := TX7) (N := 5) (wx := [(a0, .inr (7, [.ref a1, .ref a2, .ref a3, .ref a4, .int (0 : Int32)])), (a1, .inl (ca 0, 9, .inl y_2)), (a2, .inl (ca 0, 4, .inl v0.2.1)), (a3, .inl (ca 0, 4, .inl v0.2.2.1)), (a4, .inl (ca 0, 4, .inl v0.2.2.2.1))]) hx hb hts i7 tyX7 tyX7_ok nmX7 hown hK hP hD hS 0 rfl rfl 4 (Nat.le_of_ble_eq_true rfl) w9 (fun _ h9 => h9) rfl rfl rfl rfl (Nat.le_of_ble_eq_true rfl) dX7_setFirst_26 rfl (fun H locs hP hD hS => ?_)
  have he := Option.some.inj hf
  have e_v0 := he
  refine rt_V hx hb hr hlocks hK hP hD hS hQ ?_ dX7_setFirst_29
  simp only [← e_v0]
abbrev wq_X9_byteAt : List Cond := Cond.code yX9_byteAt cX9_byteAt 2 (some .int) :: GL
set_option maxHeartbeats 4000000 in
set_option maxRecDepth 100000 in
theorem c_X9_byteAt (l : Launch) (D : va_G) (ca : Nat → ClassId) (zz : Nat → Nat) (a0 a1 : Nat) (sz : Nat) (v0 : V9) (p1 : Int32) (r : Int32) (hf : f_X9_byteAt v0 p1 = some r) : Met l yX9_byteAt wq_X9_byteAt ({ frames := 0, cells := 0, slots := 0, locals := 0 } : Room) (PR D ca zz [.ref a0, .int p1] sz [(a0, .inr (9, [.ref a1, .int v0.2.1, .int v0.2.2.1, .int v0.2.2.2])), (a1, .inl (ca 0, 300, .inl v0.1))]) (QI D ca r [(a0, .inr (9, [.ref a1, .int v0.2.1, .int v0.2.2.1, .int v0.2.2.2])), (a1, .inl (ca 0, 300, .inl v0.1))] (va_A [(a0, .inr (9, [.ref a1, .int v0.2.1, .int v0.2.2.1, .int v0.2.2.2])), (a1, .inl (ca 0, 300, .inl v0.1))] sz)) 0 0 (va_A [(a0, .inr (9, [.ref a1, .int v0.2.1, .int v0.2.2.1, .int v0.2.2.2])), (a1, .inl (ca 0, 300, .inl v0.1))] sz) := by
  refine en (y := yX9_byteAt) (wsm := wq_X9_byteAt) (av := [.ref a0, .int p1]) (cc := cX9_byteAt) (maxL := 2) (ret := (some .int)) (Qf := fun A => (QI D ca r [(a0, .inr (9, [.ref a1, .int v0.2.1, .int v0.2.2.1, .int v0.2.2.2])), (a1, .inl (ca 0, 300, .inl v0.1))] A)) (by decide) rfl (Nat.le_of_ble_eq_true rfl) ?_
  intro p e s m args below meth c A Q ls hx hb hr hml hown hts hlocks hnm hA hN hZ hK hQ hP hD hS hl
  have w0 := hts _ (List.mem_cons_of_mem _ gw_1_234)
  have w1 := hts _ (List.mem_cons_of_mem _ gw_1_233)
  have i9 : ∀ w ∈ u_ws RX9 TX9 4, w ∈ wq_X9_byteAt := fun w h => List.mem_cons_of_mem _ (inX9 w h)
  unfold f_X9_byteAt at hf
  refine lv_iload_n hx hb dX9_byteAt_0 rfl (lv_at hl 1 rfl) ?_
  refine xi_lt (tgt := 19) hx hb dX9_byteAt_1 (by decide) hf (fun hf => ?_) (fun hf => ?_)
  · refine lv_iconst (v := -1) hx hb dX9_byteAt_19 rfl ?_
    refine lv_goto (tgt := 29) hx hb dX9_byteAt_20 (by decide) ?_
    have he := Option.some.inj hf
    have e_r := he
    refine rt_I hx hb hr hlocks hK hP hD hS hQ e_r ?_ dX9_byteAt_29
    rfl
  · refine lv_iload_n hx hb dX9_byteAt_4 rfl (lv_at hl 1 rfl) ?_
    refine lv_aload_n hx hb dX9_byteAt_5 rfl (lv_at hl 0 rfl) ?_
    refine va_get (C := RX9) (T := TX9) (N := 4) hx hb hts i9 hown hK hP 0 rfl rfl 1 (Nat.le_of_ble_eq_true rfl) w0 (fun _ h9 => h9) rfl dX9_byteAt_6 ?_
    refine xc_ge (tgt := 19) hx hb dX9_byteAt_9 (by decide) hf (fun hf => ?_) (fun hf => ?_)
    · refine lv_iconst (v := -1) hx hb dX9_byteAt_19 rfl ?_
      refine lv_goto (tgt := 29) hx hb dX9_byteAt_20 (by decide) ?_
      have he := Option.some.inj hf
      have e_r := he
      refine rt_I hx hb hr hlocks hK hP hD hS hQ e_r ?_ dX9_byteAt_29
      rfl
    · refine lv_iload_n hx hb dX9_byteAt_12 rfl (lv_at hl 1 rfl) ?_
      refine lv_sipush (v := 300) hx hb dX9_byteAt_13 rfl ?_
      refine xc_lt (tgt := 23) hx hb dX9_byteAt_16 (by decide) hf (fun hf => ?_) (fun hf => ?_)
      · refine lv_aload_n hx hb dX9_byteAt_23 rfl (lv_at hl 0 rfl) ?_
        refine va_get (C := RX9) (T := TX9) (N := 4) hx hb hts i9 hown hK hP 0 rfl rfl 0 (Nat.le_of_ble_eq_true rfl) w1 (fun _ h9 => h9) rfl dX9_byteAt_24 ?_
        refine lv_iload_n hx hb dX9_byteAt_27 rfl (lv_at hl 1 rfl) ?_
        refine xiald hx hb hK hP 1 rfl hf dX9_byteAt_28 (fun hf => ?_)
        have he := Option.some.inj hf
        have e_r := he
        refine rt_I hx hb hr hlocks hK hP hD hS hQ e_r ?_ dX9_byteAt_29
        rfl
      · refine lv_iconst (v := -1) hx hb dX9_byteAt_19 rfl ?_
        refine lv_goto (tgt := 29) hx hb dX9_byteAt_20 (by decide) ?_
        have he := Option.some.inj hf
        have e_r := he
        refine rt_I hx hb hr hlocks hK hP hD hS hQ e_r ?_ dX9_byteAt_29
        rfl
abbrev wq_X5_isBlank : List Cond := Cond.code yX5_isBlank cX5_isBlank 1 (some .boolean) :: GL
set_option maxHeartbeats 4000000 in
set_option maxRecDepth 100000 in
theorem c_X5_isBlank (l : Launch) (D : va_G) (ca : Nat → ClassId) (zz : Nat → Nat) (sz : Nat) (p0 : Int32) (r : Int32) (hf : f_X5_isBlank p0 = some r) : Met l yX5_isBlank wq_X5_isBlank ({ frames := 0, cells := 0, slots := 0, locals := 0 } : Room) (PR D ca zz [.int p0] sz []) (QI D ca r [] (va_A [] sz)) 0 0 (va_A [] sz) := by
  refine en (y := yX5_isBlank) (wsm := wq_X5_isBlank) (av := [.int p0]) (cc := cX5_isBlank) (maxL := 1) (ret := (some .boolean)) (Qf := fun A => (QI D ca r [] A)) (by decide) rfl (Nat.le_of_ble_eq_true rfl) ?_
  intro p e s m args below meth c A Q ls hx hb hr hml hown hts hlocks hnm hA hN hZ hK hQ hP hD hS hl
  unfold f_X5_isBlank at hf
  refine lv_iload_n hx hb dX5_isBlank_0 rfl (lv_at hl 0 rfl) ?_
  refine lv_bipush (v := 32) hx hb dX5_isBlank_1 rfl ?_
  refine xc_eq (tgt := 12) hx hb dX5_isBlank_3 (by decide) hf (fun hf => ?_) (fun hf => ?_)
  · refine lv_iconst (v := 1) hx hb dX5_isBlank_12 rfl ?_
    refine lv_goto (tgt := 17) hx hb dX5_isBlank_13 (by decide) ?_
    have he := Option.some.inj hf
    have e_r := he
    refine rt_Z hx hb hr hlocks hK hP hD hS hQ (Or.inr rfl) e_r ?_ dX5_isBlank_17
    rfl
  · refine lv_iload_n hx hb dX5_isBlank_6 rfl (lv_at hl 0 rfl) ?_
    refine lv_bipush (v := 10) hx hb dX5_isBlank_7 rfl ?_
    refine xc_ne (tgt := 16) hx hb dX5_isBlank_9 (by decide) hf (fun hf => ?_) (fun hf => ?_)
    · refine lv_iconst (v := 0) hx hb dX5_isBlank_16 rfl ?_
      have he := Option.some.inj hf
      have e_r := he
      refine rt_Z hx hb hr hlocks hK hP hD hS hQ (Or.inl rfl) e_r ?_ dX5_isBlank_17
      rfl
    · refine lv_iconst (v := 1) hx hb dX5_isBlank_12 rfl ?_
      refine lv_goto (tgt := 17) hx hb dX5_isBlank_13 (by decide) ?_
      have he := Option.some.inj hf
      have e_r := he
      refine rt_Z hx hb hr hlocks hK hP hD hS hQ (Or.inr rfl) e_r ?_ dX5_isBlank_17
      rfl
abbrev wq_X5_isLetter : List Cond := Cond.code yX5_isLetter cX5_isLetter 1 (some .boolean) :: GL
set_option maxHeartbeats 4000000 in
set_option maxRecDepth 100000 in
theorem c_X5_isLetter (l : Launch) (D : va_G) (ca : Nat → ClassId) (zz : Nat → Nat) (sz : Nat) (p0 : Int32) (r : Int32) (hf : f_X5_isLetter p0 = some r) : Met l yX5_isLetter wq_X5_isLetter ({ frames := 0, cells := 0, slots := 0, locals := 0 } : Room) (PR D ca zz [.int p0] sz []) (QI D ca r [] (va_A [] sz)) 0 0 (va_A [] sz) := by
  refine en (y := yX5_isLetter) (wsm := wq_X5_isLetter) (av := [.int p0]) (cc := cX5_isLetter) (maxL := 1) (ret := (some .boolean)) (Qf := fun A => (QI D ca r [] A)) (by decide) rfl (Nat.le_of_ble_eq_true rfl) ?_
  intro p e s m args below meth c A Q ls hx hb hr hml hown hts hlocks hnm hA hN hZ hK hQ hP hD hS hl
  unfold f_X5_isLetter at hf
  refine lv_iload_n hx hb dX5_isLetter_0 rfl (lv_at hl 0 rfl) ?_
  refine lv_bipush (v := 97) hx hb dX5_isLetter_1 rfl ?_
  refine xc_lt (tgt := 16) hx hb dX5_isLetter_3 (by decide) hf (fun hf => ?_) (fun hf => ?_)
  · refine lv_iconst (v := 0) hx hb dX5_isLetter_16 rfl ?_
    have he := Option.some.inj hf
    have e_r := he
    refine rt_Z hx hb hr hlocks hK hP hD hS hQ (Or.inl rfl) e_r ?_ dX5_isLetter_17
    rfl
  · refine lv_iload_n hx hb dX5_isLetter_6 rfl (lv_at hl 0 rfl) ?_
    refine lv_bipush (v := 122) hx hb dX5_isLetter_7 rfl ?_
    refine xc_gt (tgt := 16) hx hb dX5_isLetter_9 (by decide) hf (fun hf => ?_) (fun hf => ?_)
    · refine lv_iconst (v := 0) hx hb dX5_isLetter_16 rfl ?_
      have he := Option.some.inj hf
      have e_r := he
      refine rt_Z hx hb hr hlocks hK hP hD hS hQ (Or.inl rfl) e_r ?_ dX5_isLetter_17
      rfl
    · refine lv_iconst (v := 1) hx hb dX5_isLetter_12 rfl ?_
      refine lv_goto (tgt := 17) hx hb dX5_isLetter_13 (by decide) ?_
      have he := Option.some.inj hf
      have e_r := he
      refine rt_Z hx hb hr hlocks hK hP hD hS hQ (Or.inr rfl) e_r ?_ dX5_isLetter_17
      rfl
abbrev wq_X5_passWord : List Cond := Cond.code yX5_passWord cX5_passWord 2 none :: GL
set_option maxHeartbeats 4000000 in
set_option maxRecDepth 100000 in
theorem c_X5_passWord (l : Launch) (D : va_G) (ca : Nat → ClassId) (zz : Nat → Nat) (a0 a1 a2 a3 a4 a5 a6 b0 b1 : Nat) (sz : Nat) (v0 : V5) (v1 : V9) (v0' : V5) (hf : f_X5_passWord v0 v1 = some v0') : Met l yX5_passWord wq_X5_passWord ({ frames := 1, cells := 0, slots := 0, locals := 21 } : Room) (PR D ca zz [.ref a0, .ref b0] sz [(a0, .inr (5, [.ref a1, .ref a6, .int v0.2.2.1, .int v0.2.2.2.1, .int v0.2.2.2.2.1, .int v0.2.2.2.2.2.1, .int v0.2.2.2.2.2.2.1, .int v0.2.2.2.2.2.2.2])), (a1, .inr (7, [.ref a2, .ref a3, .ref a4, .ref a5, .int v0.1.2.2.2.2])), (a2, .inl (ca 0, 9, .inl v0.1.1)), (a3, .inl (ca 0, 4, .inl v0.1.2.1)), (a4, .inl (ca 0, 4, .inl v0.1.2.2.1)), (a5, .inl (ca 0, 4, .inl v0.1.2.2.2.1)), (a6, .inl (ca 0, 3, .inl v0.2.1)), (b0, .inr (9, [.ref b1, .int v1.2.1, .int v1.2.2.1, .int v1.2.2.2])), (b1, .inl (ca 0, 300, .inl v1.1))]) (QV D ca [(a0, .inr (5, [.ref a1, .ref a6, .int v0'.2.2.1, .int v0'.2.2.2.1, .int v0'.2.2.2.2.1, .int v0'.2.2.2.2.2.1, .int v0'.2.2.2.2.2.2.1, .int v0'.2.2.2.2.2.2.2])), (a1, .inr (7, [.ref a2, .ref a3, .ref a4, .ref a5, .int v0'.1.2.2.2.2])), (a2, .inl (ca 0, 9, .inl v0'.1.1)), (a3, .inl (ca 0, 4, .inl v0'.1.2.1)), (a4, .inl (ca 0, 4, .inl v0'.1.2.2.1)), (a5, .inl (ca 0, 4, .inl v0'.1.2.2.2.1)), (a6, .inl (ca 0, 3, .inl v0'.2.1)), (b0, .inr (9, [.ref b1, .int v1.2.1, .int v1.2.2.1, .int v1.2.2.2])), (b1, .inl (ca 0, 300, .inl v1.1))] (va_A [(a0, .inr (5, [.ref a1, .ref a6, .int v0.2.2.1, .int v0.2.2.2.1, .int v0.2.2.2.2.1, .int v0.2.2.2.2.2.1, .int v0.2.2.2.2.2.2.1, .int v0.2.2.2.2.2.2.2])), (a1, .inr (7, [.ref a2, .ref a3, .ref a4, .ref a5, .int v0.1.2.2.2.2])), (a2, .inl (ca 0, 9, .inl v0.1.1)), (a3, .inl (ca 0, 4, .inl v0.1.2.1)), (a4, .inl (ca 0, 4, .inl v0.1.2.2.1)), (a5, .inl (ca 0, 4, .inl v0.1.2.2.2.1)), (a6, .inl (ca 0, 3, .inl v0.2.1)), (b0, .inr (9, [.ref b1, .int v1.2.1, .int v1.2.2.1, .int v1.2.2.2])), (b1, .inl (ca 0, 300, .inl v1.1))] sz)) 0 0 (va_A [(a0, .inr (5, [.ref a1, .ref a6, .int v0.2.2.1, .int v0.2.2.2.1, .int v0.2.2.2.2.1, .int v0.2.2.2.2.2.1, .int v0.2.2.2.2.2.2.1, .int v0.2.2.2.2.2.2.2])), (a1, .inr (7, [.ref a2, .ref a3, .ref a4, .ref a5, .int v0.1.2.2.2.2])), (a2, .inl (ca 0, 9, .inl v0.1.1)), (a3, .inl (ca 0, 4, .inl v0.1.2.1)), (a4, .inl (ca 0, 4, .inl v0.1.2.2.1)), (a5, .inl (ca 0, 4, .inl v0.1.2.2.2.1)), (a6, .inl (ca 0, 3, .inl v0.2.1)), (b0, .inr (9, [.ref b1, .int v1.2.1, .int v1.2.2.1, .int v1.2.2.2])), (b1, .inl (ca 0, 300, .inl v1.1))] sz) := by
  refine en (y := yX5_passWord) (wsm := wq_X5_passWord) (av := [.ref a0, .ref b0]) (cc := cX5_passWord) (maxL := 2) (ret := none) (Qf := fun A => (QV D ca [(a0, .inr (5, [.ref a1, .ref a6, .int v0'.2.2.1, .int v0'.2.2.2.1, .int v0'.2.2.2.2.1, .int v0'.2.2.2.2.2.1, .int v0'.2.2.2.2.2.2.1, .int v0'.2.2.2.2.2.2.2])), (a1, .inr (7, [.ref a2, .ref a3, .ref a4, .ref a5, .int v0'.1.2.2.2.2])), (a2, .inl (ca 0, 9, .inl v0'.1.1)), (a3, .inl (ca 0, 4, .inl v0'.1.2.1)), (a4, .inl (ca 0, 4, .inl v0'.1.2.2.1)), (a5, .inl (ca 0, 4, .inl v0'.1.2.2.2.1)), (a6, .inl (ca 0, 3, .inl v0'.2.1)), (b0, .inr (9, [.ref b1, .int v1.2.1, .int v1.2.2.1, .int v1.2.2.2])), (b1, .inl (ca 0, 300, .inl v1.1))] A)) (by decide) rfl (Nat.le_of_ble_eq_true rfl) ?_
  intro p e s m args below meth c A Q ls hx hb hr hml hown hts hlocks hnm hA hN hZ hK hQ hP hD hS hl
  have w0 := hts _ (List.mem_cons_of_mem _ gw_2_134)
  have w1 := hts _ (List.mem_cons_of_mem _ gw_2_135)
  have nw30 := NW.use (args := args) (w := .fieldLinkNest RX5 84 "NoiseWatch$Text" "size" "I" "NoiseWatch") hN 30 rfl
  have i5 : ∀ w ∈ u_ws RX5 TX5 8, w ∈ wq_X5_passWord := fun w h => List.mem_cons_of_mem _ (inX5 w h)
  have i9 : ∀ w ∈ u_ws RX9 TX9 4, w ∈ wq_X5_passWord := fun w h => List.mem_cons_of_mem _ (inX9 w h)
  have bl0 : ∀ (k0 : V5 → Option (V5)) (q0 : ∀ (v0 : V5), k0 v0 = some v0' → ∀ (H : Heap) (locs : List Loc) (ls : Array Slot), va_P D vwCl [(a0, .inr (5, [.ref a1, .ref a6, .int v0.2.2.1, .int v0.2.2.2.1, .int v0.2.2.2.2.1, .int v0.2.2.2.2.2.1, .int v0.2.2.2.2.2.2.1, .int v0.2.2.2.2.2.2.2])), (a1, .inr (7, [.ref a2, .ref a3, .ref a4, .ref a5, .int v0.1.2.2.2.2])), (a2, .inl (ca 0, 9, .inl v0.1.1)), (a3, .inl (ca 0, 4, .inl v0.1.2.1)), (a4, .inl (ca 0, 4, .inl v0.1.2.2.1)), (a5, .inl (ca 0, 4, .inl v0.1.2.2.2.1)), (a6, .inl (ca 0, 3, .inl v0.2.1)), (b0, .inr (9, [.ref b1, .int v1.2.1, .int v1.2.2.1, .int v1.2.2.2])), (b1, .inl (ca 0, 300, .inl v1.1))] H → va_D A [(a0, .inr (5, [.ref a1, .ref a6, .int v0.2.2.1, .int v0.2.2.2.1, .int v0.2.2.2.2.1, .int v0.2.2.2.2.2.1, .int v0.2.2.2.2.2.2.1, .int v0.2.2.2.2.2.2.2])), (a1, .inr (7, [.ref a2, .ref a3, .ref a4, .ref a5, .int v0.1.2.2.2.2])), (a2, .inl (ca 0, 9, .inl v0.1.1)), (a3, .inl (ca 0, 4, .inl v0.1.2.1)), (a4, .inl (ca 0, 4, .inl v0.1.2.2.1)), (a5, .inl (ca 0, 4, .inl v0.1.2.2.2.1)), (a6, .inl (ca 0, 3, .inl v0.2.1)), (b0, .inr (9, [.ref b1, .int v1.2.1, .int v1.2.2.1, .int v1.2.2.2])), (b1, .inl (ca 0, 300, .inl v1.1))] → va_S A s.heap H locs → lv_has ls 2 [(0, .ref a0), (1, .ref b0)] → W p l e ({ frames := 1, cells := 0, slots := 0, locals := 21 } : Room) s m args below meth c H locs 0 0 Q (F0 m 0 ls [])) (v0 : V5), fl_X5_passWord_0 v1 k0 v0 = some v0' → ∀ (H : Heap) (locs : List Loc) (ls : Array Slot), va_P D vwCl [(a0, .inr (5, [.ref a1, .ref a6, .int v0.2.2.1, .int v0.2.2.2.1, .int v0.2.2.2.2.1, .int v0.2.2.2.2.2.1, .int v0.2.2.2.2.2.2.1, .int v0.2.2.2.2.2.2.2])), (a1, .inr (7, [.ref a2, .ref a3, .ref a4, .ref a5, .int v0.1.2.2.2.2])), (a2, .inl (ca 0, 9, .inl v0.1.1)), (a3, .inl (ca 0, 4, .inl v0.1.2.1)), (a4, .inl (ca 0, 4, .inl v0.1.2.2.1)), (a5, .inl (ca 0, 4, .inl v0.1.2.2.2.1)), (a6, .inl (ca 0, 3, .inl v0.2.1)), (b0, .inr (9, [.ref b1, .int v1.2.1, .int v1.2.2.1, .int v1.2.2.2])), (b1, .inl (ca 0, 300, .inl v1.1))] H → va_D A [(a0, .inr (5, [.ref a1, .ref a6, .int v0.2.2.1, .int v0.2.2.2.1, .int v0.2.2.2.2.1, .int v0.2.2.2.2.2.1, .int v0.2.2.2.2.2.2.1, .int v0.2.2.2.2.2.2.2])), (a1, .inr (7, [.ref a2, .ref a3, .ref a4, .ref a5, .int v0.1.2.2.2.2])), (a2, .inl (ca 0, 9, .inl v0.1.1)), (a3, .inl (ca 0, 4, .inl v0.1.2.1)), (a4, .inl (ca 0, 4, .inl v0.1.2.2.1)), (a5, .inl (ca 0, 4, .inl v0.1.2.2.2.1)), (a6, .inl (ca 0, 3, .inl v0.2.1)), (b0, .inr (9, [.ref b1, .int v1.2.1, .int v1.2.2.1, .int v1.2.2.2])), (b1, .inl (ca 0, 300, .inl v1.1))] → va_S A s.heap H locs → lv_has ls 2 [(0, .ref a0), (1, .ref b0)] → W p l e ({ frames := 1, cells := 0, slots := 0, locals := 21 } : Room) s m args below meth c H locs 0 0 Q (F0 m 0 ls []) := by
    intro k0 q0 v0 hf H locs ls hP hD hS hl
    unfold fl_X5_passWord_0 at hf
    refine lv_aload_n hx hb dX5_passWord_0 rfl (lv_at hl 0 rfl) ?_
    refine va_get (C := RX5) (T := TX5) (N := 8) hx hb hts i5 hown hK hP 0 rfl rfl 2 (Nat.le_of_ble_eq_true rfl) w0 (fun _ h9 => h9) rfl dX5_passWord_1 ?_
    refine lv_aload_n hx hb dX5_passWord_4 rfl (lv_at hl 1 rfl) ?_
    refine va_getN (C := RX9) (T := TX9) (N := 4) hx hb hts i9 hown hK hP 7 rfl rfl 1 (Nat.le_of_ble_eq_true rfl) nw30 (fun _ h9 => h9) rfl dX5_passWord_5 ?_
    refine xc_ge (tgt := 38) hx hb dX5_passWord_8 (by decide) hf (fun hf => ?_) (fun hf => ?_)
    · refine lv_aload_n hx hb dX5_passWord_38 rfl (lv_at hl 0 rfl) ?_
      refine lv_iconst (v := 1) hx hb dX5_passWord_39 rfl ?_
      refine xput (C := RX5) (T := TX5) (N := 8) (wx := [(a0, .inr (5, [.ref a1, .ref a6, .int v0.2.2.1, .int (1 : Int32), .int v0.2.2.2.2.1, .int v0.2.2.2.2.2.1, .int v0.2.2.2.2.2.2.1, .int v0.2.2.2.2.2.2.2])), (a1, .inr (7, [.ref a2, .ref a3, .ref a4, .ref a5, .int v0.1.2.2.2.2])), (a2, .inl (ca 0, 9, .inl v0.1.1)), (a3, .inl (ca 0, 4, .inl v0.1.2.1)), (a4, .inl (ca 0, 4, .inl v0.1.2.2.1)), (a5, .inl (ca 0, 4, .inl v0.1.2.2.2.1)), (a6, .inl (ca 0, 3, .inl v0.2.1)), (b0, .inr (9, [.ref b1, .int v1.2.1, .int v1.2.2.1, .int v1.2.2.2])), (b1, .inl (ca 0, 300, .inl v1.1))]) hx hb hts i5 tyX5 tyX5_ok nmX5 hown hK hP hD hS 0 rfl rfl 3 (Nat.le_of_ble_eq_true rfl) w1 (fun _ h9 => h9) rfl rfl rfl rfl (Nat.le_of_ble_eq_true rfl) dX5_passWord_40 rfl (fun H locs hP hD hS => ?_)
      have he := Option.some.inj hf
      have e_v0 := he
      refine rt_V hx hb hr hlocks hK hP hD hS hQ ?_ dX5_passWord_43
      simp only [← e_v0]
    · refine lv_aload_n hx hb dX5_passWord_11 rfl (lv_at hl 1 rfl) ?_
      refine lv_aload_n hx hb dX5_passWord_12 rfl (lv_at hl 0 rfl) ?_
      refine va_get (C := RX5) (T := TX5) (N := 8) hx hb hts i5 hown hK hP 0 rfl rfl 2 (Nat.le_of_ble_eq_true rfl) w0 (fun _ h9 => h9) rfl dX5_passWord_13 ?_
      obtain ⟨r_1, hc1, hf⟩ := bnd1_el hf
      refine xV_I (As := [.int v0.2.2.1]) (wx := [(a0, .inr (5, [.ref a1, .ref a6, .int v0.2.2.1, .int v0.2.2.2.1, .int v0.2.2.2.2.1, .int v0.2.2.2.2.2.1, .int v0.2.2.2.2.2.2.1, .int v0.2.2.2.2.2.2.2])), (a1, .inr (7, [.ref a2, .ref a3, .ref a4, .ref a5, .int v0.1.2.2.2.2])), (a2, .inl (ca 0, 9, .inl v0.1.1)), (a3, .inl (ca 0, 4, .inl v0.1.2.1)), (a4, .inl (ca 0, 4, .inl v0.1.2.2.1)), (a5, .inl (ca 0, 4, .inl v0.1.2.2.2.1)), (a6, .inl (ca 0, 3, .inl v0.2.1)), (b0, .inr (9, [.ref b1, .int v1.2.1, .int v1.2.2.1, .int v1.2.2.2])), (b1, .inl (ca 0, 300, .inl v1.1))]) ⟨hx, hb, hml, hown, hts⟩ (c_X9_byteAt l D ca zz b0 b1 _ v1 v0.2.2.1 r_1 hc1) (cwV 1 hts (gV gw_3_3 gw_3_4 gw_3_5 gw_1_10 gw_3_6) rfl rfl rfl (by decide +kernel) ⟨(Nat.le_of_ble_eq_true rfl), (Nat.le_of_ble_eq_true rfl)⟩) hK hN hZ hA hP hD hS [7, 8] [none, none, none, none, none, none, none, some 0, some 1] (by decide +kernel) rfl rfl rfl rfl 7 rfl rfl hl.1 rfl (Nat.le_of_ble_eq_true rfl) dX5_passWord_16 ⟨Nat.zero_le _, Nat.zero_le _⟩ rfl (fun H locs hP hD hS => ?_)
      obtain ⟨r_2, hc2, hf⟩ := bnd1_el hf
      refine xS_I (As := [.int r_1]) (wx := [(a0, .inr (5, [.ref a1, .ref a6, .int v0.2.2.1, .int v0.2.2.2.1, .int v0.2.2.2.2.1, .int v0.2.2.2.2.2.1, .int v0.2.2.2.2.2.2.1, .int v0.2.2.2.2.2.2.2])), (a1, .inr (7, [.ref a2, .ref a3, .ref a4, .ref a5, .int v0.1.2.2.2.2])), (a2, .inl (ca 0, 9, .inl v0.1.1)), (a3, .inl (ca 0, 4, .inl v0.1.2.1)), (a4, .inl (ca 0, 4, .inl v0.1.2.2.1)), (a5, .inl (ca 0, 4, .inl v0.1.2.2.2.1)), (a6, .inl (ca 0, 3, .inl v0.2.1)), (b0, .inr (9, [.ref b1, .int v1.2.1, .int v1.2.2.1, .int v1.2.2.2])), (b1, .inl (ca 0, 300, .inl v1.1))]) ⟨hx, hb, hml, hown, hts⟩ (c_X5_isLetter l D ca zz  _ r_1 r_2 hc2) (va_cwS 1 hts (gS gw_3_10 gw_3_11 gw_1_13 gw_3_12) rfl rfl rfl (by decide +kernel) ⟨(Nat.le_of_ble_eq_true rfl), (Nat.le_of_ble_eq_true rfl)⟩) hK hN hZ hA hP hD hS [] [none, none, none, none, none, none, none, none, none] (by decide +kernel) rfl rfl rfl rfl hl.1 rfl (Nat.le_of_ble_eq_true rfl) dX5_passWord_19 ⟨Nat.zero_le _, Nat.zero_le _⟩ rfl (fun H locs hP hD hS => ?_)
      refine xi_eq (tgt := 38) hx hb dX5_passWord_22 (by decide) hf (fun hf => ?_) (fun hf => ?_)
      · refine lv_aload_n hx hb dX5_passWord_38 rfl (lv_at hl 0 rfl) ?_
        refine lv_iconst (v := 1) hx hb dX5_passWord_39 rfl ?_
        refine xput (C := RX5) (T := TX5) (N := 8) (wx := [(a0, .inr (5, [.ref a1, .ref a6, .int v0.2.2.1, .int (1 : Int32), .int v0.2.2.2.2.1, .int v0.2.2.2.2.2.1, .int v0.2.2.2.2.2.2.1, .int v0.2.2.2.2.2.2.2])), (a1, .inr (7, [.ref a2, .ref a3, .ref a4, .ref a5, .int v0.1.2.2.2.2])), (a2, .inl (ca 0, 9, .inl v0.1.1)), (a3, .inl (ca 0, 4, .inl v0.1.2.1)), (a4, .inl (ca 0, 4, .inl v0.1.2.2.1)), (a5, .inl (ca 0, 4, .inl v0.1.2.2.2.1)), (a6, .inl (ca 0, 3, .inl v0.2.1)), (b0, .inr (9, [.ref b1, .int v1.2.1, .int v1.2.2.1, .int v1.2.2.2])), (b1, .inl (ca 0, 300, .inl v1.1))]) hx hb hts i5 tyX5 tyX5_ok nmX5 hown hK hP hD hS 0 rfl rfl 3 (Nat.le_of_ble_eq_true rfl) w1 (fun _ h9 => h9) rfl rfl rfl rfl (Nat.le_of_ble_eq_true rfl) dX5_passWord_40 rfl (fun H locs hP hD hS => ?_)
        have he := Option.some.inj hf
        have e_v0 := he
        refine rt_V hx hb hr hlocks hK hP hD hS hQ ?_ dX5_passWord_43
        simp only [← e_v0]
      · refine lv_aload_n hx hb dX5_passWord_25 rfl (lv_at hl 0 rfl) ?_
        refine lv_dup hx hb dX5_passWord_26 rfl ?_
        refine va_get (C := RX5) (T := TX5) (N := 8) hx hb hts i5 hown hK hP 0 rfl rfl 2 (Nat.le_of_ble_eq_true rfl) w0 (fun _ h9 => h9) rfl dX5_passWord_27 ?_
        refine lv_iconst (v := 1) hx hb dX5_passWord_30 rfl ?_
        refine lv_iadd hx hb dX5_passWord_31 ?_
        refine xnm hf (fun x_3 hf => ?_)
        refine xput (C := RX5) (T := TX5) (N := 8) (wx := [(a0, .inr (5, [.ref a1, .ref a6, .int x_3, .int v0.2.2.2.1, .int v0.2.2.2.2.1, .int v0.2.2.2.2.2.1, .int v0.2.2.2.2.2.2.1, .int v0.2.2.2.2.2.2.2])), (a1, .inr (7, [.ref a2, .ref a3, .ref a4, .ref a5, .int v0.1.2.2.2.2])), (a2, .inl (ca 0, 9, .inl v0.1.1)), (a3, .inl (ca 0, 4, .inl v0.1.2.1)), (a4, .inl (ca 0, 4, .inl v0.1.2.2.1)), (a5, .inl (ca 0, 4, .inl v0.1.2.2.2.1)), (a6, .inl (ca 0, 3, .inl v0.2.1)), (b0, .inr (9, [.ref b1, .int v1.2.1, .int v1.2.2.1, .int v1.2.2.2])), (b1, .inl (ca 0, 300, .inl v1.1))]) hx hb hts i5 tyX5 tyX5_ok nmX5 hown hK hP hD hS 0 rfl rfl 2 (Nat.le_of_ble_eq_true rfl) w0 (fun _ h9 => h9) rfl rfl rfl rfl (Nat.le_of_ble_eq_true rfl) dX5_passWord_32 rfl (fun H locs hP hD hS => ?_)
        refine lv_goto (tgt := 0) hx hb dX5_passWord_35 (by decide) ?_
        have jb := q0 ((v0.1, v0.2.1, x_3, v0.2.2.2))
        dsimp only at jb
        exact jb hf _ _ _ hP hD hS (lv_sub hl [0, 1] rfl)
  have b0 : ∀ (n : Nat) (v0 : V5), fb_X5_passWord_0 v1 n v0 = some v0' → ∀ (H : Heap) (locs : List Loc) (ls : Array Slot), va_P D vwCl [(a0, .inr (5, [.ref a1, .ref a6, .int v0.2.2.1, .int v0.2.2.2.1, .int v0.2.2.2.2.1, .int v0.2.2.2.2.2.1, .int v0.2.2.2.2.2.2.1, .int v0.2.2.2.2.2.2.2])), (a1, .inr (7, [.ref a2, .ref a3, .ref a4, .ref a5, .int v0.1.2.2.2.2])), (a2, .inl (ca 0, 9, .inl v0.1.1)), (a3, .inl (ca 0, 4, .inl v0.1.2.1)), (a4, .inl (ca 0, 4, .inl v0.1.2.2.1)), (a5, .inl (ca 0, 4, .inl v0.1.2.2.2.1)), (a6, .inl (ca 0, 3, .inl v0.2.1)), (b0, .inr (9, [.ref b1, .int v1.2.1, .int v1.2.2.1, .int v1.2.2.2])), (b1, .inl (ca 0, 300, .inl v1.1))] H → va_D A [(a0, .inr (5, [.ref a1, .ref a6, .int v0.2.2.1, .int v0.2.2.2.1, .int v0.2.2.2.2.1, .int v0.2.2.2.2.2.1, .int v0.2.2.2.2.2.2.1, .int v0.2.2.2.2.2.2.2])), (a1, .inr (7, [.ref a2, .ref a3, .ref a4, .ref a5, .int v0.1.2.2.2.2])), (a2, .inl (ca 0, 9, .inl v0.1.1)), (a3, .inl (ca 0, 4, .inl v0.1.2.1)), (a4, .inl (ca 0, 4, .inl v0.1.2.2.1)), (a5, .inl (ca 0, 4, .inl v0.1.2.2.2.1)), (a6, .inl (ca 0, 3, .inl v0.2.1)), (b0, .inr (9, [.ref b1, .int v1.2.1, .int v1.2.2.1, .int v1.2.2.2])), (b1, .inl (ca 0, 300, .inl v1.1))] → va_S A s.heap H locs → lv_has ls 2 [(0, .ref a0), (1, .ref b0)] → W p l e ({ frames := 1, cells := 0, slots := 0, locals := 21 } : Room) s m args below meth c H locs 0 0 Q (F0 m 0 ls []) := by
    intro n
    induction n with
    | zero => intro v0 hf; exact no_el hf
    | succ n ih => exact bl0 (fb_X5_passWord_0 v1 n) ih
  unfold f_X5_passWord at hf
  exact b0 FU v0 hf _ _ _ hP hD hS (lv_sub hl [0, 1] rfl)
abbrev wq_X5_isDigit : List Cond := Cond.code yX5_isDigit cX5_isDigit 1 (some .boolean) :: GL
set_option maxHeartbeats 4000000 in
set_option maxRecDepth 100000 in
theorem c_X5_isDigit (l : Launch) (D : va_G) (ca : Nat → ClassId) (zz : Nat → Nat) (sz : Nat) (p0 : Int32) (r : Int32) (hf : f_X5_isDigit p0 = some r) : Met l yX5_isDigit wq_X5_isDigit ({ frames := 0, cells := 0, slots := 0, locals := 0 } : Room) (PR D ca zz [.int p0] sz []) (QI D ca r [] (va_A [] sz)) 0 0 (va_A [] sz) := by
  refine en (y := yX5_isDigit) (wsm := wq_X5_isDigit) (av := [.int p0]) (cc := cX5_isDigit) (maxL := 1) (ret := (some .boolean)) (Qf := fun A => (QI D ca r [] A)) (by decide) rfl (Nat.le_of_ble_eq_true rfl) ?_
  intro p e s m args below meth c A Q ls hx hb hr hml hown hts hlocks hnm hA hN hZ hK hQ hP hD hS hl
  unfold f_X5_isDigit at hf
  refine lv_iload_n hx hb dX5_isDigit_0 rfl (lv_at hl 0 rfl) ?_
  refine lv_bipush (v := 48) hx hb dX5_isDigit_1 rfl ?_
  refine xc_lt (tgt := 16) hx hb dX5_isDigit_3 (by decide) hf (fun hf => ?_) (fun hf => ?_)
  · refine lv_iconst (v := 0) hx hb dX5_isDigit_16 rfl ?_
    have he := Option.some.inj hf
    have e_r := he
    refine rt_Z hx hb hr hlocks hK hP hD hS hQ (Or.inl rfl) e_r ?_ dX5_isDigit_17
    rfl
  · refine lv_iload_n hx hb dX5_isDigit_6 rfl (lv_at hl 0 rfl) ?_
    refine lv_bipush (v := 57) hx hb dX5_isDigit_7 rfl ?_
    refine xc_gt (tgt := 16) hx hb dX5_isDigit_9 (by decide) hf (fun hf => ?_) (fun hf => ?_)
    · refine lv_iconst (v := 0) hx hb dX5_isDigit_16 rfl ?_
      have he := Option.some.inj hf
      have e_r := he
      refine rt_Z hx hb hr hlocks hK hP hD hS hQ (Or.inl rfl) e_r ?_ dX5_isDigit_17
      rfl
    · refine lv_iconst (v := 1) hx hb dX5_isDigit_12 rfl ?_
      refine lv_goto (tgt := 17) hx hb dX5_isDigit_13 (by decide) ?_
      have he := Option.some.inj hf
      have e_r := he
      refine rt_Z hx hb hr hlocks hK hP hD hS hQ (Or.inr rfl) e_r ?_ dX5_isDigit_17
      rfl
abbrev wq_X5_passNumber : List Cond := Cond.code yX5_passNumber cX5_passNumber 2 none :: GL
set_option maxHeartbeats 4000000 in
set_option maxRecDepth 100000 in
theorem c_X5_passNumber (l : Launch) (D : va_G) (ca : Nat → ClassId) (zz : Nat → Nat) (a0 a1 a2 a3 a4 a5 a6 b0 b1 : Nat) (sz : Nat) (v0 : V5) (v1 : V9) (v0' : V5) (hf : f_X5_passNumber v0 v1 = some v0') : Met l yX5_passNumber wq_X5_passNumber ({ frames := 1, cells := 0, slots := 0, locals := 21 } : Room) (PR D ca zz [.ref a0, .ref b0] sz [(a0, .inr (5, [.ref a1, .ref a6, .int v0.2.2.1, .int v0.2.2.2.1, .int v0.2.2.2.2.1, .int v0.2.2.2.2.2.1, .int v0.2.2.2.2.2.2.1, .int v0.2.2.2.2.2.2.2])), (a1, .inr (7, [.ref a2, .ref a3, .ref a4, .ref a5, .int v0.1.2.2.2.2])), (a2, .inl (ca 0, 9, .inl v0.1.1)), (a3, .inl (ca 0, 4, .inl v0.1.2.1)), (a4, .inl (ca 0, 4, .inl v0.1.2.2.1)), (a5, .inl (ca 0, 4, .inl v0.1.2.2.2.1)), (a6, .inl (ca 0, 3, .inl v0.2.1)), (b0, .inr (9, [.ref b1, .int v1.2.1, .int v1.2.2.1, .int v1.2.2.2])), (b1, .inl (ca 0, 300, .inl v1.1))]) (QV D ca [(a0, .inr (5, [.ref a1, .ref a6, .int v0'.2.2.1, .int v0'.2.2.2.1, .int v0'.2.2.2.2.1, .int v0'.2.2.2.2.2.1, .int v0'.2.2.2.2.2.2.1, .int v0'.2.2.2.2.2.2.2])), (a1, .inr (7, [.ref a2, .ref a3, .ref a4, .ref a5, .int v0'.1.2.2.2.2])), (a2, .inl (ca 0, 9, .inl v0'.1.1)), (a3, .inl (ca 0, 4, .inl v0'.1.2.1)), (a4, .inl (ca 0, 4, .inl v0'.1.2.2.1)), (a5, .inl (ca 0, 4, .inl v0'.1.2.2.2.1)), (a6, .inl (ca 0, 3, .inl v0'.2.1)), (b0, .inr (9, [.ref b1, .int v1.2.1, .int v1.2.2.1, .int v1.2.2.2])), (b1, .inl (ca 0, 300, .inl v1.1))] (va_A [(a0, .inr (5, [.ref a1, .ref a6, .int v0.2.2.1, .int v0.2.2.2.1, .int v0.2.2.2.2.1, .int v0.2.2.2.2.2.1, .int v0.2.2.2.2.2.2.1, .int v0.2.2.2.2.2.2.2])), (a1, .inr (7, [.ref a2, .ref a3, .ref a4, .ref a5, .int v0.1.2.2.2.2])), (a2, .inl (ca 0, 9, .inl v0.1.1)), (a3, .inl (ca 0, 4, .inl v0.1.2.1)), (a4, .inl (ca 0, 4, .inl v0.1.2.2.1)), (a5, .inl (ca 0, 4, .inl v0.1.2.2.2.1)), (a6, .inl (ca 0, 3, .inl v0.2.1)), (b0, .inr (9, [.ref b1, .int v1.2.1, .int v1.2.2.1, .int v1.2.2.2])), (b1, .inl (ca 0, 300, .inl v1.1))] sz)) 0 0 (va_A [(a0, .inr (5, [.ref a1, .ref a6, .int v0.2.2.1, .int v0.2.2.2.1, .int v0.2.2.2.2.1, .int v0.2.2.2.2.2.1, .int v0.2.2.2.2.2.2.1, .int v0.2.2.2.2.2.2.2])), (a1, .inr (7, [.ref a2, .ref a3, .ref a4, .ref a5, .int v0.1.2.2.2.2])), (a2, .inl (ca 0, 9, .inl v0.1.1)), (a3, .inl (ca 0, 4, .inl v0.1.2.1)), (a4, .inl (ca 0, 4, .inl v0.1.2.2.1)), (a5, .inl (ca 0, 4, .inl v0.1.2.2.2.1)), (a6, .inl (ca 0, 3, .inl v0.2.1)), (b0, .inr (9, [.ref b1, .int v1.2.1, .int v1.2.2.1, .int v1.2.2.2])), (b1, .inl (ca 0, 300, .inl v1.1))] sz) := by
  refine en (y := yX5_passNumber) (wsm := wq_X5_passNumber) (av := [.ref a0, .ref b0]) (cc := cX5_passNumber) (maxL := 2) (ret := none) (Qf := fun A => (QV D ca [(a0, .inr (5, [.ref a1, .ref a6, .int v0'.2.2.1, .int v0'.2.2.2.1, .int v0'.2.2.2.2.1, .int v0'.2.2.2.2.2.1, .int v0'.2.2.2.2.2.2.1, .int v0'.2.2.2.2.2.2.2])), (a1, .inr (7, [.ref a2, .ref a3, .ref a4, .ref a5, .int v0'.1.2.2.2.2])), (a2, .inl (ca 0, 9, .inl v0'.1.1)), (a3, .inl (ca 0, 4, .inl v0'.1.2.1)), (a4, .inl (ca 0, 4, .inl v0'.1.2.2.1)), (a5, .inl (ca 0, 4, .inl v0'.1.2.2.2.1)), (a6, .inl (ca 0, 3, .inl v0'.2.1)), (b0, .inr (9, [.ref b1, .int v1.2.1, .int v1.2.2.1, .int v1.2.2.2])), (b1, .inl (ca 0, 300, .inl v1.1))] A)) (by decide) rfl (Nat.le_of_ble_eq_true rfl) ?_
  intro p e s m args below meth c A Q ls hx hb hr hml hown hts hlocks hnm hA hN hZ hK hQ hP hD hS hl
  have w0 := hts _ (List.mem_cons_of_mem _ gw_2_137)
  have w1 := hts _ (List.mem_cons_of_mem _ gw_2_134)
  have w2 := hts _ (List.mem_cons_of_mem _ gw_2_136)
  have w3 := hts _ (List.mem_cons_of_mem _ gw_2_135)
  have nw30 := NW.use (args := args) (w := .fieldLinkNest RX5 84 "NoiseWatch$Text" "size" "I" "NoiseWatch") hN 30 rfl
  have i5 : ∀ w ∈ u_ws RX5 TX5 8, w ∈ wq_X5_passNumber := fun w h => List.mem_cons_of_mem _ (inX5 w h)
  have i9 : ∀ w ∈ u_ws RX9 TX9 4, w ∈ wq_X5_passNumber := fun w h => List.mem_cons_of_mem _ (inX9 w h)
  have b79 : ∀ (v0 : V5), fc_X5_passNumber_79 v1 v0 = some v0' → ∀ (H : Heap) (locs : List Loc) (ls : Array Slot), va_P D vwCl [(a0, .inr (5, [.ref a1, .ref a6, .int v0.2.2.1, .int v0.2.2.2.1, .int v0.2.2.2.2.1, .int v0.2.2.2.2.2.1, .int v0.2.2.2.2.2.2.1, .int v0.2.2.2.2.2.2.2])), (a1, .inr (7, [.ref a2, .ref a3, .ref a4, .ref a5, .int v0.1.2.2.2.2])), (a2, .inl (ca 0, 9, .inl v0.1.1)), (a3, .inl (ca 0, 4, .inl v0.1.2.1)), (a4, .inl (ca 0, 4, .inl v0.1.2.2.1)), (a5, .inl (ca 0, 4, .inl v0.1.2.2.2.1)), (a6, .inl (ca 0, 3, .inl v0.2.1)), (b0, .inr (9, [.ref b1, .int v1.2.1, .int v1.2.2.1, .int v1.2.2.2])), (b1, .inl (ca 0, 300, .inl v1.1))] H → va_D A [(a0, .inr (5, [.ref a1, .ref a6, .int v0.2.2.1, .int v0.2.2.2.1, .int v0.2.2.2.2.1, .int v0.2.2.2.2.2.1, .int v0.2.2.2.2.2.2.1, .int v0.2.2.2.2.2.2.2])), (a1, .inr (7, [.ref a2, .ref a3, .ref a4, .ref a5, .int v0.1.2.2.2.2])), (a2, .inl (ca 0, 9, .inl v0.1.1)), (a3, .inl (ca 0, 4, .inl v0.1.2.1)), (a4, .inl (ca 0, 4, .inl v0.1.2.2.1)), (a5, .inl (ca 0, 4, .inl v0.1.2.2.2.1)), (a6, .inl (ca 0, 3, .inl v0.2.1)), (b0, .inr (9, [.ref b1, .int v1.2.1, .int v1.2.2.1, .int v1.2.2.2])), (b1, .inl (ca 0, 300, .inl v1.1))] → va_S A s.heap H locs → lv_has ls 2 [(0, .ref a0)] → W p l e ({ frames := 1, cells := 0, slots := 0, locals := 21 } : Room) s m args below meth c H locs 0 0 Q (F0 m 79 ls []) := by
    intro v0 hf H locs ls hP hD hS hl
    unfold fc_X5_passNumber_79 at hf
    refine lv_aload_n hx hb dX5_passNumber_79 rfl (lv_at hl 0 rfl) ?_
    refine lv_aload_n hx hb dX5_passNumber_80 rfl (lv_at hl 0 rfl) ?_
    refine va_get (C := RX5) (T := TX5) (N := 8) hx hb hts i5 hown hK hP 0 rfl rfl 2 (Nat.le_of_ble_eq_true rfl) w1 (fun _ h9 => h9) rfl dX5_passNumber_81 ?_
    refine lv_aload_n hx hb dX5_passNumber_84 rfl (lv_at hl 0 rfl) ?_
    refine va_get (C := RX5) (T := TX5) (N := 8) hx hb hts i5 hown hK hP 0 rfl rfl 4 (Nat.le_of_ble_eq_true rfl) w2 (fun _ h9 => h9) rfl dX5_passNumber_85 ?_
    refine lv_isub hx hb dX5_passNumber_88 ?_
    refine lv_iconst (v := 4) hx hb dX5_passNumber_89 rfl ?_
    refine xc_gt (tgt := 97) hx hb dX5_passNumber_90 (by decide) hf (fun hf => ?_) (fun hf => ?_)
    · refine lv_iconst (v := 4) hx hb dX5_passNumber_97 rfl ?_
      refine xput (C := RX5) (T := TX5) (N := 8) (wx := [(a0, .inr (5, [.ref a1, .ref a6, .int v0.2.2.1, .int (4 : Int32), .int v0.2.2.2.2.1, .int v0.2.2.2.2.2.1, .int v0.2.2.2.2.2.2.1, .int v0.2.2.2.2.2.2.2])), (a1, .inr (7, [.ref a2, .ref a3, .ref a4, .ref a5, .int v0.1.2.2.2.2])), (a2, .inl (ca 0, 9, .inl v0.1.1)), (a3, .inl (ca 0, 4, .inl v0.1.2.1)), (a4, .inl (ca 0, 4, .inl v0.1.2.2.1)), (a5, .inl (ca 0, 4, .inl v0.1.2.2.2.1)), (a6, .inl (ca 0, 3, .inl v0.2.1)), (b0, .inr (9, [.ref b1, .int v1.2.1, .int v1.2.2.1, .int v1.2.2.2])), (b1, .inl (ca 0, 300, .inl v1.1))]) hx hb hts i5 tyX5 tyX5_ok nmX5 hown hK hP hD hS 0 rfl rfl 3 (Nat.le_of_ble_eq_true rfl) w3 (fun _ h9 => h9) rfl rfl rfl rfl (Nat.le_of_ble_eq_true rfl) dX5_passNumber_98 rfl (fun H locs hP hD hS => ?_)
      have he := Option.some.inj hf
      have e_v0 := he
      refine rt_V hx hb hr hlocks hK hP hD hS hQ ?_ dX5_passNumber_101
      simp only [← e_v0]
    · refine lv_iconst (v := 2) hx hb dX5_passNumber_93 rfl ?_
      refine lv_goto (tgt := 98) hx hb dX5_passNumber_94 (by decide) ?_
      refine xput (C := RX5) (T := TX5) (N := 8) (wx := [(a0, .inr (5, [.ref a1, .ref a6, .int v0.2.2.1, .int (2 : Int32), .int v0.2.2.2.2.1, .int v0.2.2.2.2.2.1, .int v0.2.2.2.2.2.2.1, .int v0.2.2.2.2.2.2.2])), (a1, .inr (7, [.ref a2, .ref a3, .ref a4, .ref a5, .int v0.1.2.2.2.2])), (a2, .inl (ca 0, 9, .inl v0.1.1)), (a3, .inl (ca 0, 4, .inl v0.1.2.1)), (a4, .inl (ca 0, 4, .inl v0.1.2.2.1)), (a5, .inl (ca 0, 4, .inl v0.1.2.2.2.1)), (a6, .inl (ca 0, 3, .inl v0.2.1)), (b0, .inr (9, [.ref b1, .int v1.2.1, .int v1.2.2.1, .int v1.2.2.2])), (b1, .inl (ca 0, 300, .inl v1.1))]) hx hb hts i5 tyX5 tyX5_ok nmX5 hown hK hP hD hS 0 rfl rfl 3 (Nat.le_of_ble_eq_true rfl) w3 (fun _ h9 => h9) rfl rfl rfl rfl (Nat.le_of_ble_eq_true rfl) dX5_passNumber_98 rfl (fun H locs hP hD hS => ?_)
      have he := Option.some.inj hf
      have e_v0 := he
      refine rt_V hx hb hr hlocks hK hP hD hS hQ ?_ dX5_passNumber_101
      simp only [← e_v0]
  have bl5 : ∀ (k5 : V5 → Option (V5)) (q5 : ∀ (v0 : V5), k5 v0 = some v0' → ∀ (H : Heap) (locs : List Loc) (ls : Array Slot), va_P D vwCl [(a0, .inr (5, [.ref a1, .ref a6, .int v0.2.2.1, .int v0.2.2.2.1, .int v0.2.2.2.2.1, .int v0.2.2.2.2.2.1, .int v0.2.2.2.2.2.2.1, .int v0.2.2.2.2.2.2.2])), (a1, .inr (7, [.ref a2, .ref a3, .ref a4, .ref a5, .int v0.1.2.2.2.2])), (a2, .inl (ca 0, 9, .inl v0.1.1)), (a3, .inl (ca 0, 4, .inl v0.1.2.1)), (a4, .inl (ca 0, 4, .inl v0.1.2.2.1)), (a5, .inl (ca 0, 4, .inl v0.1.2.2.2.1)), (a6, .inl (ca 0, 3, .inl v0.2.1)), (b0, .inr (9, [.ref b1, .int v1.2.1, .int v1.2.2.1, .int v1.2.2.2])), (b1, .inl (ca 0, 300, .inl v1.1))] H → va_D A [(a0, .inr (5, [.ref a1, .ref a6, .int v0.2.2.1, .int v0.2.2.2.1, .int v0.2.2.2.2.1, .int v0.2.2.2.2.2.1, .int v0.2.2.2.2.2.2.1, .int v0.2.2.2.2.2.2.2])), (a1, .inr (7, [.ref a2, .ref a3, .ref a4, .ref a5, .int v0.1.2.2.2.2])), (a2, .inl (ca 0, 9, .inl v0.1.1)), (a3, .inl (ca 0, 4, .inl v0.1.2.1)), (a4, .inl (ca 0, 4, .inl v0.1.2.2.1)), (a5, .inl (ca 0, 4, .inl v0.1.2.2.2.1)), (a6, .inl (ca 0, 3, .inl v0.2.1)), (b0, .inr (9, [.ref b1, .int v1.2.1, .int v1.2.2.1, .int v1.2.2.2])), (b1, .inl (ca 0, 300, .inl v1.1))] → va_S A s.heap H locs → lv_has ls 2 [(0, .ref a0), (1, .ref b0)] → W p l e ({ frames := 1, cells := 0, slots := 0, locals := 21 } : Room) s m args below meth c H locs 0 0 Q (F0 m 5 ls [])) (v0 : V5), fl_X5_passNumber_5 v1 k5 v0 = some v0' → ∀ (H : Heap) (locs : List Loc) (ls : Array Slot), va_P D vwCl [(a0, .inr (5, [.ref a1, .ref a6, .int v0.2.2.1, .int v0.2.2.2.1, .int v0.2.2.2.2.1, .int v0.2.2.2.2.2.1, .int v0.2.2.2.2.2.2.1, .int v0.2.2.2.2.2.2.2])), (a1, .inr (7, [.ref a2, .ref a3, .ref a4, .ref a5, .int v0.1.2.2.2.2])), (a2, .inl (ca 0, 9, .inl v0.1.1)), (a3, .inl (ca 0, 4, .inl v0.1.2.1)), (a4, .inl (ca 0, 4, .inl v0.1.2.2.1)), (a5, .inl (ca 0, 4, .inl v0.1.2.2.2.1)), (a6, .inl (ca 0, 3, .inl v0.2.1)), (b0, .inr (9, [.ref b1, .int v1.2.1, .int v1.2.2.1, .int v1.2.2.2])), (b1, .inl (ca 0, 300, .inl v1.1))] H → va_D A [(a0, .inr (5, [.ref a1, .ref a6, .int v0.2.2.1, .int v0.2.2.2.1, .int v0.2.2.2.2.1, .int v0.2.2.2.2.2.1, .int v0.2.2.2.2.2.2.1, .int v0.2.2.2.2.2.2.2])), (a1, .inr (7, [.ref a2, .ref a3, .ref a4, .ref a5, .int v0.1.2.2.2.2])), (a2, .inl (ca 0, 9, .inl v0.1.1)), (a3, .inl (ca 0, 4, .inl v0.1.2.1)), (a4, .inl (ca 0, 4, .inl v0.1.2.2.1)), (a5, .inl (ca 0, 4, .inl v0.1.2.2.2.1)), (a6, .inl (ca 0, 3, .inl v0.2.1)), (b0, .inr (9, [.ref b1, .int v1.2.1, .int v1.2.2.1, .int v1.2.2.2])), (b1, .inl (ca 0, 300, .inl v1.1))] → va_S A s.heap H locs → lv_has ls 2 [(0, .ref a0), (1, .ref b0)] → W p l e ({ frames := 1, cells := 0, slots := 0, locals := 21 } : Room) s m args below meth c H locs 0 0 Q (F0 m 5 ls []) := by
    intro k5 q5 v0 hf H locs ls hP hD hS hl
    unfold fl_X5_passNumber_5 at hf
    refine lv_aload_n hx hb dX5_passNumber_5 rfl (lv_at hl 0 rfl) ?_
    refine va_get (C := RX5) (T := TX5) (N := 8) hx hb hts i5 hown hK hP 0 rfl rfl 2 (Nat.le_of_ble_eq_true rfl) w1 (fun _ h9 => h9) rfl dX5_passNumber_6 ?_
    refine lv_aload_n hx hb dX5_passNumber_9 rfl (lv_at hl 1 rfl) ?_
    refine va_getN (C := RX9) (T := TX9) (N := 4) hx hb hts i9 hown hK hP 7 rfl rfl 1 (Nat.le_of_ble_eq_true rfl) nw30 (fun _ h9 => h9) rfl dX5_passNumber_10 ?_
    refine xc_ge (tgt := 79) hx hb dX5_passNumber_13 (by decide) hf (fun hf => ?_) (fun hf => ?_)
    · exact b79 v0 hf _ _ _ hP hD hS (lv_sub hl [0] rfl)
    · refine lv_aload_n hx hb dX5_passNumber_16 rfl (lv_at hl 1 rfl) ?_
      refine lv_aload_n hx hb dX5_passNumber_17 rfl (lv_at hl 0 rfl) ?_
      refine va_get (C := RX5) (T := TX5) (N := 8) hx hb hts i5 hown hK hP 0 rfl rfl 2 (Nat.le_of_ble_eq_true rfl) w1 (fun _ h9 => h9) rfl dX5_passNumber_18 ?_
      obtain ⟨r_1, hc1, hf⟩ := bnd1_el hf
      refine xV_I (As := [.int v0.2.2.1]) (wx := [(a0, .inr (5, [.ref a1, .ref a6, .int v0.2.2.1, .int v0.2.2.2.1, .int v0.2.2.2.2.1, .int v0.2.2.2.2.2.1, .int v0.2.2.2.2.2.2.1, .int v0.2.2.2.2.2.2.2])), (a1, .inr (7, [.ref a2, .ref a3, .ref a4, .ref a5, .int v0.1.2.2.2.2])), (a2, .inl (ca 0, 9, .inl v0.1.1)), (a3, .inl (ca 0, 4, .inl v0.1.2.1)), (a4, .inl (ca 0, 4, .inl v0.1.2.2.1)), (a5, .inl (ca 0, 4, .inl v0.1.2.2.2.1)), (a6, .inl (ca 0, 3, .inl v0.2.1)), (b0, .inr (9, [.ref b1, .int v1.2.1, .int v1.2.2.1, .int v1.2.2.2])), (b1, .inl (ca 0, 300, .inl v1.1))]) ⟨hx, hb, hml, hown, hts⟩ (c_X9_byteAt l D ca zz b0 b1 _ v1 v0.2.2.1 r_1 hc1) (cwV 1 hts (gV gw_3_3 gw_3_4 gw_3_5 gw_1_10 gw_3_6) rfl rfl rfl (by decide +kernel) ⟨(Nat.le_of_ble_eq_true rfl), (Nat.le_of_ble_eq_true rfl)⟩) hK hN hZ hA hP hD hS [7, 8] [none, none, none, none, none, none, none, some 0, some 1] (by decide +kernel) rfl rfl rfl rfl 7 rfl rfl hl.1 rfl (Nat.le_of_ble_eq_true rfl) dX5_passNumber_21 ⟨Nat.zero_le _, Nat.zero_le _⟩ rfl (fun H locs hP hD hS => ?_)
      obtain ⟨r_2, hc2, hf⟩ := bnd1_el hf
      refine xS_I (As := [.int r_1]) (wx := [(a0, .inr (5, [.ref a1, .ref a6, .int v0.2.2.1, .int v0.2.2.2.1, .int v0.2.2.2.2.1, .int v0.2.2.2.2.2.1, .int v0.2.2.2.2.2.2.1, .int v0.2.2.2.2.2.2.2])), (a1, .inr (7, [.ref a2, .ref a3, .ref a4, .ref a5, .int v0.1.2.2.2.2])), (a2, .inl (ca 0, 9, .inl v0.1.1)), (a3, .inl (ca 0, 4, .inl v0.1.2.1)), (a4, .inl (ca 0, 4, .inl v0.1.2.2.1)), (a5, .inl (ca 0, 4, .inl v0.1.2.2.2.1)), (a6, .inl (ca 0, 3, .inl v0.2.1)), (b0, .inr (9, [.ref b1, .int v1.2.1, .int v1.2.2.1, .int v1.2.2.2])), (b1, .inl (ca 0, 300, .inl v1.1))]) ⟨hx, hb, hml, hown, hts⟩ (c_X5_isDigit l D ca zz  _ r_1 r_2 hc2) (va_cwS 1 hts (gS gw_3_17 gw_3_18 gw_1_13 gw_3_19) rfl rfl rfl (by decide +kernel) ⟨(Nat.le_of_ble_eq_true rfl), (Nat.le_of_ble_eq_true rfl)⟩) hK hN hZ hA hP hD hS [] [none, none, none, none, none, none, none, none, none] (by decide +kernel) rfl rfl rfl rfl hl.1 rfl (Nat.le_of_ble_eq_true rfl) dX5_passNumber_24 ⟨Nat.zero_le _, Nat.zero_le _⟩ rfl (fun H locs hP hD hS => ?_)
      refine xi_eq (tgt := 79) hx hb dX5_passNumber_27 (by decide) hf (fun hf => ?_) (fun hf => ?_)
      · exact b79 v0 hf _ _ _ hP hD hS (lv_sub hl [0] rfl)
      · refine lv_aload_n hx hb dX5_passNumber_30 rfl (lv_at hl 0 rfl) ?_
        refine va_get (C := RX5) (T := TX5) (N := 8) hx hb hts i5 hown hK hP 0 rfl rfl 2 (Nat.le_of_ble_eq_true rfl) w1 (fun _ h9 => h9) rfl dX5_passNumber_31 ?_
        refine lv_aload_n hx hb dX5_passNumber_34 rfl (lv_at hl 0 rfl) ?_
        refine va_get (C := RX5) (T := TX5) (N := 8) hx hb hts i5 hown hK hP 0 rfl rfl 4 (Nat.le_of_ble_eq_true rfl) w2 (fun _ h9 => h9) rfl dX5_passNumber_35 ?_
        refine lv_isub hx hb dX5_passNumber_38 ?_
        refine lv_iconst (v := 4) hx hb dX5_passNumber_39 rfl ?_
        refine xc_ge (tgt := 66) hx hb dX5_passNumber_40 (by decide) hf (fun hf => ?_) (fun hf => ?_)
        · refine lv_aload_n hx hb dX5_passNumber_66 rfl (lv_at hl 0 rfl) ?_
          refine lv_dup hx hb dX5_passNumber_67 rfl ?_
          refine va_get (C := RX5) (T := TX5) (N := 8) hx hb hts i5 hown hK hP 0 rfl rfl 2 (Nat.le_of_ble_eq_true rfl) w1 (fun _ h9 => h9) rfl dX5_passNumber_68 ?_
          refine lv_iconst (v := 1) hx hb dX5_passNumber_71 rfl ?_
          refine lv_iadd hx hb dX5_passNumber_72 ?_
          refine xnm hf (fun x_3 hf => ?_)
          refine xput (C := RX5) (T := TX5) (N := 8) (wx := [(a0, .inr (5, [.ref a1, .ref a6, .int x_3, .int v0.2.2.2.1, .int v0.2.2.2.2.1, .int v0.2.2.2.2.2.1, .int v0.2.2.2.2.2.2.1, .int v0.2.2.2.2.2.2.2])), (a1, .inr (7, [.ref a2, .ref a3, .ref a4, .ref a5, .int v0.1.2.2.2.2])), (a2, .inl (ca 0, 9, .inl v0.1.1)), (a3, .inl (ca 0, 4, .inl v0.1.2.1)), (a4, .inl (ca 0, 4, .inl v0.1.2.2.1)), (a5, .inl (ca 0, 4, .inl v0.1.2.2.2.1)), (a6, .inl (ca 0, 3, .inl v0.2.1)), (b0, .inr (9, [.ref b1, .int v1.2.1, .int v1.2.2.1, .int v1.2.2.2])), (b1, .inl (ca 0, 300, .inl v1.1))]) hx hb hts i5 tyX5 tyX5_ok nmX5 hown hK hP hD hS 0 rfl rfl 2 (Nat.le_of_ble_eq_true rfl) w1 (fun _ h9 => h9) rfl rfl rfl rfl (Nat.le_of_ble_eq_true rfl) dX5_passNumber_73 rfl (fun H locs hP hD hS => ?_)
          refine lv_goto (tgt := 5) hx hb dX5_passNumber_76 (by decide) ?_
          have jb := q5 ((v0.1, v0.2.1, x_3, v0.2.2.2))
          dsimp only at jb
          exact jb hf _ _ _ hP hD hS (lv_sub hl [0, 1] rfl)
        · refine lv_aload_n hx hb dX5_passNumber_43 rfl (lv_at hl 0 rfl) ?_
          refine lv_aload_n hx hb dX5_passNumber_44 rfl (lv_at hl 0 rfl) ?_
          refine va_get (C := RX5) (T := TX5) (N := 8) hx hb hts i5 hown hK hP 0 rfl rfl 5 (Nat.le_of_ble_eq_true rfl) w0 (fun _ h9 => h9) rfl dX5_passNumber_45 ?_
          refine lv_bipush (v := 10) hx hb dX5_passNumber_48 rfl ?_
          refine lv_imul hx hb dX5_passNumber_50 ?_
          refine lv_aload_n hx hb dX5_passNumber_51 rfl (lv_at hl 1 rfl) ?_
          refine lv_aload_n hx hb dX5_passNumber_52 rfl (lv_at hl 0 rfl) ?_
          refine va_get (C := RX5) (T := TX5) (N := 8) hx hb hts i5 hown hK hP 0 rfl rfl 2 (Nat.le_of_ble_eq_true rfl) w1 (fun _ h9 => h9) rfl dX5_passNumber_53 ?_
          obtain ⟨r_4, hc4, hf⟩ := bnd1_el hf
          refine xV_I (As := [.int v0.2.2.1]) (wx := [(a0, .inr (5, [.ref a1, .ref a6, .int v0.2.2.1, .int v0.2.2.2.1, .int v0.2.2.2.2.1, .int v0.2.2.2.2.2.1, .int v0.2.2.2.2.2.2.1, .int v0.2.2.2.2.2.2.2])), (a1, .inr (7, [.ref a2, .ref a3, .ref a4, .ref a5, .int v0.1.2.2.2.2])), (a2, .inl (ca 0, 9, .inl v0.1.1)), (a3, .inl (ca 0, 4, .inl v0.1.2.1)), (a4, .inl (ca 0, 4, .inl v0.1.2.2.1)), (a5, .inl (ca 0, 4, .inl v0.1.2.2.2.1)), (a6, .inl (ca 0, 3, .inl v0.2.1)), (b0, .inr (9, [.ref b1, .int v1.2.1, .int v1.2.2.1, .int v1.2.2.2])), (b1, .inl (ca 0, 300, .inl v1.1))]) ⟨hx, hb, hml, hown, hts⟩ (c_X9_byteAt l D ca zz b0 b1 _ v1 v0.2.2.1 r_4 hc4) (cwV 1 hts (gV gw_3_3 gw_3_4 gw_3_5 gw_1_10 gw_3_6) rfl rfl rfl (by decide +kernel) ⟨(Nat.le_of_ble_eq_true rfl), (Nat.le_of_ble_eq_true rfl)⟩) hK hN hZ hA hP hD hS [7, 8] [none, none, none, none, none, none, none, some 0, some 1] (by decide +kernel) rfl rfl rfl rfl 7 rfl rfl hl.1 rfl (Nat.le_of_ble_eq_true rfl) dX5_passNumber_56 ⟨Nat.zero_le _, Nat.zero_le _⟩ rfl (fun H locs hP hD hS => ?_)
          refine lv_iadd hx hb dX5_passNumber_59 ?_
          refine lv_bipush (v := 48) hx hb dX5_passNumber_60 rfl ?_
          refine lv_isub hx hb dX5_passNumber_62 ?_
          refine xnm hf (fun x_5 hf => ?_)
          refine xput (C := RX5) (T := TX5) (N := 8) (wx := [(a0, .inr (5, [.ref a1, .ref a6, .int v0.2.2.1, .int v0.2.2.2.1, .int v0.2.2.2.2.1, .int x_5, .int v0.2.2.2.2.2.2.1, .int v0.2.2.2.2.2.2.2])), (a1, .inr (7, [.ref a2, .ref a3, .ref a4, .ref a5, .int v0.1.2.2.2.2])), (a2, .inl (ca 0, 9, .inl v0.1.1)), (a3, .inl (ca 0, 4, .inl v0.1.2.1)), (a4, .inl (ca 0, 4, .inl v0.1.2.2.1)), (a5, .inl (ca 0, 4, .inl v0.1.2.2.2.1)), (a6, .inl (ca 0, 3, .inl v0.2.1)), (b0, .inr (9, [.ref b1, .int v1.2.1, .int v1.2.2.1, .int v1.2.2.2])), (b1, .inl (ca 0, 300, .inl v1.1))]) hx hb hts i5 tyX5 tyX5_ok nmX5 hown hK hP hD hS 0 rfl rfl 5 (Nat.le_of_ble_eq_true rfl) w0 (fun _ h9 => h9) rfl rfl rfl rfl (Nat.le_of_ble_eq_true rfl) dX5_passNumber_63 rfl (fun H locs hP hD hS => ?_)
          refine lv_aload_n hx hb dX5_passNumber_66 rfl (lv_at hl 0 rfl) ?_
          refine lv_dup hx hb dX5_passNumber_67 rfl ?_
          refine va_get (C := RX5) (T := TX5) (N := 8) hx hb hts i5 hown hK hP 0 rfl rfl 2 (Nat.le_of_ble_eq_true rfl) w1 (fun _ h9 => h9) rfl dX5_passNumber_68 ?_
          refine lv_iconst (v := 1) hx hb dX5_passNumber_71 rfl ?_
          refine lv_iadd hx hb dX5_passNumber_72 ?_
          refine xnm hf (fun x_6 hf => ?_)
          refine xput (C := RX5) (T := TX5) (N := 8) (wx := [(a0, .inr (5, [.ref a1, .ref a6, .int x_6, .int v0.2.2.2.1, .int v0.2.2.2.2.1, .int x_5, .int v0.2.2.2.2.2.2.1, .int v0.2.2.2.2.2.2.2])), (a1, .inr (7, [.ref a2, .ref a3, .ref a4, .ref a5, .int v0.1.2.2.2.2])), (a2, .inl (ca 0, 9, .inl v0.1.1)), (a3, .inl (ca 0, 4, .inl v0.1.2.1)), (a4, .inl (ca 0, 4, .inl v0.1.2.2.1)), (a5, .inl (ca 0, 4, .inl v0.1.2.2.2.1)), (a6, .inl (ca 0, 3, .inl v0.2.1)), (b0, .inr (9, [.ref b1, .int v1.2.1, .int v1.2.2.1, .int v1.2.2.2])), (b1, .inl (ca 0, 300, .inl v1.1))]) hx hb hts i5 tyX5 tyX5_ok nmX5 hown hK hP hD hS 0 rfl rfl 2 (Nat.le_of_ble_eq_true rfl) w1 (fun _ h9 => h9) rfl rfl rfl rfl (Nat.le_of_ble_eq_true rfl) dX5_passNumber_73 rfl (fun H locs hP hD hS => ?_)
          refine lv_goto (tgt := 5) hx hb dX5_passNumber_76 (by decide) ?_
          have jb := q5 ((v0.1, v0.2.1, x_6, v0.2.2.2.1, v0.2.2.2.2.1, x_5, v0.2.2.2.2.2.2))
          dsimp only at jb
          exact jb hf _ _ _ hP hD hS (lv_sub hl [0, 1] rfl)
  have b5 : ∀ (n : Nat) (v0 : V5), fb_X5_passNumber_5 v1 n v0 = some v0' → ∀ (H : Heap) (locs : List Loc) (ls : Array Slot), va_P D vwCl [(a0, .inr (5, [.ref a1, .ref a6, .int v0.2.2.1, .int v0.2.2.2.1, .int v0.2.2.2.2.1, .int v0.2.2.2.2.2.1, .int v0.2.2.2.2.2.2.1, .int v0.2.2.2.2.2.2.2])), (a1, .inr (7, [.ref a2, .ref a3, .ref a4, .ref a5, .int v0.1.2.2.2.2])), (a2, .inl (ca 0, 9, .inl v0.1.1)), (a3, .inl (ca 0, 4, .inl v0.1.2.1)), (a4, .inl (ca 0, 4, .inl v0.1.2.2.1)), (a5, .inl (ca 0, 4, .inl v0.1.2.2.2.1)), (a6, .inl (ca 0, 3, .inl v0.2.1)), (b0, .inr (9, [.ref b1, .int v1.2.1, .int v1.2.2.1, .int v1.2.2.2])), (b1, .inl (ca 0, 300, .inl v1.1))] H → va_D A [(a0, .inr (5, [.ref a1, .ref a6, .int v0.2.2.1, .int v0.2.2.2.1, .int v0.2.2.2.2.1, .int v0.2.2.2.2.2.1, .int v0.2.2.2.2.2.2.1, .int v0.2.2.2.2.2.2.2])), (a1, .inr (7, [.ref a2, .ref a3, .ref a4, .ref a5, .int v0.1.2.2.2.2])), (a2, .inl (ca 0, 9, .inl v0.1.1)), (a3, .inl (ca 0, 4, .inl v0.1.2.1)), (a4, .inl (ca 0, 4, .inl v0.1.2.2.1)), (a5, .inl (ca 0, 4, .inl v0.1.2.2.2.1)), (a6, .inl (ca 0, 3, .inl v0.2.1)), (b0, .inr (9, [.ref b1, .int v1.2.1, .int v1.2.2.1, .int v1.2.2.2])), (b1, .inl (ca 0, 300, .inl v1.1))] → va_S A s.heap H locs → lv_has ls 2 [(0, .ref a0), (1, .ref b0)] → W p l e ({ frames := 1, cells := 0, slots := 0, locals := 21 } : Room) s m args below meth c H locs 0 0 Q (F0 m 5 ls []) := by
    intro n
    induction n with
    | zero => intro v0 hf; exact no_el hf
    | succ n ih => exact bl5 (fb_X5_passNumber_5 v1 n) ih
  unfold f_X5_passNumber at hf
  refine lv_aload_n hx hb dX5_passNumber_0 rfl (lv_at hl 0 rfl) ?_
  refine lv_iconst (v := 0) hx hb dX5_passNumber_1 rfl ?_
  refine xput (C := RX5) (T := TX5) (N := 8) (wx := [(a0, .inr (5, [.ref a1, .ref a6, .int v0.2.2.1, .int v0.2.2.2.1, .int v0.2.2.2.2.1, .int (0 : Int32), .int v0.2.2.2.2.2.2.1, .int v0.2.2.2.2.2.2.2])), (a1, .inr (7, [.ref a2, .ref a3, .ref a4, .ref a5, .int v0.1.2.2.2.2])), (a2, .inl (ca 0, 9, .inl v0.1.1)), (a3, .inl (ca 0, 4, .inl v0.1.2.1)), (a4, .inl (ca 0, 4, .inl v0.1.2.2.1)), (a5, .inl (ca 0, 4, .inl v0.1.2.2.2.1)), (a6, .inl (ca 0, 3, .inl v0.2.1)), (b0, .inr (9, [.ref b1, .int v1.2.1, .int v1.2.2.1, .int v1.2.2.2])), (b1, .inl (ca 0, 300, .inl v1.1))]) hx hb hts i5 tyX5 tyX5_ok nmX5 hown hK hP hD hS 0 rfl rfl 5 (Nat.le_of_ble_eq_true rfl) w0 (fun _ h9 => h9) rfl rfl rfl rfl (Nat.le_of_ble_eq_true rfl) dX5_passNumber_2 rfl (fun H locs hP hD hS => ?_)
  have jb := b5 FU ((v0.1, v0.2.1, v0.2.2.1, v0.2.2.2.1, v0.2.2.2.2.1, (0 : Int32), v0.2.2.2.2.2.2))
  dsimp only at jb
  exact jb hf _ _ _ hP hD hS (lv_sub hl [0, 1] rfl)
