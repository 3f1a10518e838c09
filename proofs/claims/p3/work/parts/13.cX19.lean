abbrev wq_X6_moreOfColumn : List Cond := Cond.code yX6_moreOfColumn cX6_moreOfColumn 5 (some .int) :: GL
set_option maxHeartbeats 4000000 in
set_option maxRecDepth 100000 in
theorem c_X6_moreOfColumn (l : Launch) (D : va_G) (ca : Nat → ClassId) (zz : Nat → Nat) (a0 a1 a2 : Nat) (sz : Nat) (v0 : V6) (p1 : Int32) (r : Int32) (hf : f_X6_moreOfColumn v0 p1 = some r) : Met l yX6_moreOfColumn wq_X6_moreOfColumn ({ frames := 3, cells := 0, slots := 0, locals := 63 } : Room) (PR D ca zz [.ref a0, .int p1] sz [(a0, .inr (6, [.ref a1, .ref a2, .int v0.2.2])), (a1, .inl (ca 0, 15, .inl v0.1)), (a2, .inl (ca 0, 15, .inl v0.2.1))]) (QI D ca r [(a0, .inr (6, [.ref a1, .ref a2, .int v0.2.2])), (a1, .inl (ca 0, 15, .inl v0.1)), (a2, .inl (ca 0, 15, .inl v0.2.1))] (va_A [(a0, .inr (6, [.ref a1, .ref a2, .int v0.2.2])), (a1, .inl (ca 0, 15, .inl v0.1)), (a2, .inl (ca 0, 15, .inl v0.2.1))] sz)) 0 0 (va_A [(a0, .inr (6, [.ref a1, .ref a2, .int v0.2.2])), (a1, .inl (ca 0, 15, .inl v0.1)), (a2, .inl (ca 0, 15, .inl v0.2.1))] sz) := by
  refine en (y := yX6_moreOfColumn) (wsm := wq_X6_moreOfColumn) (av := [.ref a0, .int p1]) (cc := cX6_moreOfColumn) (maxL := 5) (ret := (some .int)) (Qf := fun A => (QI D ca r [(a0, .inr (6, [.ref a1, .ref a2, .int v0.2.2])), (a1, .inl (ca 0, 15, .inl v0.1)), (a2, .inl (ca 0, 15, .inl v0.2.1))] A)) (by decide) rfl (Nat.le_of_ble_eq_true rfl) ?_
  intro p e s m args below meth c A Q ls hx hb hr hml hown hts hlocks hnm hA hN hZ hK hQ hP hD hS hl
  have w0 := hts _ (List.mem_cons_of_mem _ gw_4_160)
  have w1 := hts _ (List.mem_cons_of_mem _ gw_2_33)
  have w2 := hts _ (List.mem_cons_of_mem _ gw_1_11)
  have w3 := hts _ (List.mem_cons_of_mem _ gw_2_34)
  have bl7 : ∀ (k7 : Int32 → Int32 → Int32 → Int32 → Option (Int32)) (q7 : ∀ (x1 : Int32) (x2 : Int32) (x3 : Int32) (x4 : Int32), k7 x1 x2 x3 x4 = some r → ∀ (H : Heap) (locs : List Loc) (ls : Array Slot), va_P D vwCl [(a0, .inr (6, [.ref a1, .ref a2, .int v0.2.2])), (a1, .inl (ca 0, 15, .inl v0.1)), (a2, .inl (ca 0, 15, .inl v0.2.1))] H → va_D A [(a0, .inr (6, [.ref a1, .ref a2, .int v0.2.2])), (a1, .inl (ca 0, 15, .inl v0.1)), (a2, .inl (ca 0, 15, .inl v0.2.1))] → va_S A s.heap H locs → lv_has ls 5 [(0, .ref a0), (1, .int x1), (2, .int x2), (3, .int x3), (4, .int x4)] → W p l e ({ frames := 3, cells := 0, slots := 0, locals := 63 } : Room) s m args below meth c H locs 0 0 Q (F0 m 7 ls [])) (x1 : Int32) (x2 : Int32) (x3 : Int32) (x4 : Int32), fl_X6_moreOfColumn_7 v0 k7 x1 x2 x3 x4 = some r → ∀ (H : Heap) (locs : List Loc) (ls : Array Slot), va_P D vwCl [(a0, .inr (6, [.ref a1, .ref a2, .int v0.2.2])), (a1, .inl (ca 0, 15, .inl v0.1)), (a2, .inl (ca 0, 15, .inl v0.2.1))] H → va_D A [(a0, .inr (6, [.ref a1, .ref a2, .int v0.2.2])), (a1, .inl (ca 0, 15, .inl v0.1)), (a2, .inl (ca 0, 15, .inl v0.2.1))] → va_S A s.heap H locs → lv_has ls 5 [(0, .ref a0), (1, .int x1), (2, .int x2), (3, .int x3), (4, .int x4)] → W p l e ({ frames := 3, cells := 0, slots := 0, locals := 63 } : Room) s m args below meth c H locs 0 0 Q (F0 m 7 ls []) := by
    intro k7 q7 x1 x2 x3 x4 hf H locs ls hP hD hS hl
    unfold fl_X6_moreOfColumn_7 at hf
    refine lv_iload hx hb dX6_moreOfColumn_7 (lv_at hl 4 rfl) ?_
    refine lv_bipush (v := 15) hx hb dX6_moreOfColumn_9 rfl ?_
    refine xc_ge (tgt := 42) hx hb dX6_moreOfColumn_11 (by decide) hf (fun hf => ?_) (fun hf => ?_)
    · refine lv_iload_n hx hb dX6_moreOfColumn_42 rfl (lv_at hl 3 rfl) ?_
      refine lv_iconst (v := 2) hx hb dX6_moreOfColumn_43 rfl ?_
      refine xc_ge (tgt := 51) hx hb dX6_moreOfColumn_44 (by decide) hf (fun hf => ?_) (fun hf => ?_)
      · refine lv_iload_n hx hb dX6_moreOfColumn_51 rfl (lv_at hl 2 rfl) ?_
        refine lv_iload_n hx hb dX6_moreOfColumn_52 rfl (lv_at hl 3 rfl) ?_
        refine lv_iload_n hx hb dX6_moreOfColumn_53 rfl (lv_at hl 2 rfl) ?_
        refine lv_isub hx hb dX6_moreOfColumn_54 ?_
        refine va_mmax hx hb (hml.trans hl.1.symm) hown w0 w1 w2 w3 (Nat.le_of_ble_eq_true rfl) (Nat.le_of_ble_eq_true rfl) (Nat.zero_le _) (Nat.zero_le _) dX6_moreOfColumn_55 ?_
        refine xnm hf (fun x_1 hf => ?_)
        have he := Option.some.inj hf
        have e_r := he
        refine rt_I hx hb hr hlocks hK hP hD hS hQ e_r ?_ dX6_moreOfColumn_58
        rfl
      · refine lv_iconst (v := 0) hx hb dX6_moreOfColumn_47 rfl ?_
        refine lv_goto (tgt := 58) hx hb dX6_moreOfColumn_48 (by decide) ?_
        have he := Option.some.inj hf
        have e_r := he
        refine rt_I hx hb hr hlocks hK hP hD hS hQ e_r ?_ dX6_moreOfColumn_58
        rfl
    · refine lv_aload_n hx hb dX6_moreOfColumn_14 rfl (lv_at hl 0 rfl) ?_
      refine lv_iload hx hb dX6_moreOfColumn_15 (lv_at hl 4 rfl) ?_
      obtain ⟨r_2, hc2, hf⟩ := bnd1_el hf
      refine xV_I (As := [.int x4]) (wx := [(a0, .inr (6, [.ref a1, .ref a2, .int v0.2.2])), (a1, .inl (ca 0, 15, .inl v0.1)), (a2, .inl (ca 0, 15, .inl v0.2.1))]) ⟨hx, hb, hml, hown, hts⟩ (c_X6_isFull l D ca zz a0 a1 a2 _ v0 x4 r_2 hc2) (cwV 1 hts (gV gw_4_141 gw_4_143 gw_s_2_3 gw_1_9 gw_4_144) rfl rfl rfl (by decide +kernel) ⟨(Nat.le_of_ble_eq_true rfl), (Nat.le_of_ble_eq_true rfl)⟩) hK hN hZ hA hP hD hS [0, 2] [some 0, none, some 1] (by decide +kernel) rfl rfl rfl rfl 0 rfl rfl hl.1 rfl (Nat.le_of_ble_eq_true rfl) dX6_moreOfColumn_17 ⟨Nat.zero_le _, Nat.zero_le _⟩ rfl (fun H locs hP hD hS => ?_)
      refine xi_eq (tgt := 36) hx hb dX6_moreOfColumn_20 (by decide) hf (fun hf => ?_) (fun hf => ?_)
      · obtain ⟨x_3, ex_3, hf⟩ := bnd_el hf
        refine lv_iinc (v := x_3) (lv' := [(4, .int x_3), (0, .ref a0), (1, .int x1), (2, .int x2), (3, .int x3)]) hx hb dX6_moreOfColumn_36 hl (k := 4) rfl (by rw [ex_3]; rfl) (Nat.le_of_ble_eq_true rfl) rfl (fun ls hl => ?_)
        refine lv_goto (tgt := 7) hx hb dX6_moreOfColumn_39 (by decide) ?_
        exact q7 x1 x2 x3 x_3 hf _ _ _ hP hD hS (lv_sub hl [1, 2, 3, 4, 0] rfl)
      · obtain ⟨x_4, ex_4, hf⟩ := bnd_el hf
        refine lv_iinc (v := x_4) (lv' := [(3, .int x_4), (0, .ref a0), (1, .int x1), (2, .int x2), (4, .int x4)]) hx hb dX6_moreOfColumn_23 hl (k := 3) rfl (by rw [ex_4]; rfl) (Nat.le_of_ble_eq_true rfl) rfl (fun ls hl => ?_)
        refine lv_iload_n hx hb dX6_moreOfColumn_26 rfl (lv_at hl 3 rfl) ?_
        refine lv_aload_n hx hb dX6_moreOfColumn_27 rfl (lv_at hl 1 rfl) ?_
        refine lv_iload hx hb dX6_moreOfColumn_28 (lv_at hl 4 rfl) ?_
        refine lv_iload_n hx hb dX6_moreOfColumn_30 rfl (lv_at hl 2 rfl) ?_
        obtain ⟨r_5, hc5, hf⟩ := bnd1_el hf
        refine xV_I (As := [.int x4, .int x1]) (wx := [(a0, .inr (6, [.ref a1, .ref a2, .int v0.2.2])), (a1, .inl (ca 0, 15, .inl v0.1)), (a2, .inl (ca 0, 15, .inl v0.2.1))]) ⟨hx, hb, hml, hown, hts⟩ (c_X6_sampleOf l D ca zz a0 a1 a2 _ v0 x4 x1 r_5 hc5) (cwV 2 hts (gV gw_4_169 gw_4_50 gw_4_51 gw_1_9 gw_4_52) rfl rfl rfl (by decide +kernel) ⟨(Nat.le_of_ble_eq_true rfl), (Nat.le_of_ble_eq_true rfl)⟩) hK hN hZ hA hP hD hS [0, 1, 2] [some 0, some 1, some 2] (by decide +kernel) rfl rfl rfl rfl 0 rfl rfl hl.1 rfl (Nat.le_of_ble_eq_true rfl) dX6_moreOfColumn_31 ⟨Nat.zero_le _, Nat.zero_le _⟩ rfl (fun H locs hP hD hS => ?_)
        refine lv_iadd hx hb dX6_moreOfColumn_34 ?_
        refine xnm hf (fun x_6 hf => ?_)
        refine lv_istore_n (lv' := [(2, .int x_6), (3, .int x_4), (0, .ref a0), (1, .int x1), (4, .int x4)]) hx hb dX6_moreOfColumn_35 rfl hl (Nat.le_of_ble_eq_true rfl) rfl (fun ls hl => ?_)
        obtain ⟨x_7, ex_7, hf⟩ := bnd_el hf
        refine lv_iinc (v := x_7) (lv' := [(4, .int x_7), (2, .int x_6), (3, .int x_4), (0, .ref a0), (1, .int x1)]) hx hb dX6_moreOfColumn_36 hl (k := 4) rfl (by rw [ex_7]; rfl) (Nat.le_of_ble_eq_true rfl) rfl (fun ls hl => ?_)
        refine lv_goto (tgt := 7) hx hb dX6_moreOfColumn_39 (by decide) ?_
        exact q7 x1 x_6 x_4 x_7 hf _ _ _ hP hD hS (lv_sub hl [3, 4, 1, 2, 0] rfl)
  have b7 : ∀ (n : Nat) (x1 : Int32) (x2 : Int32) (x3 : Int32) (x4 : Int32), fb_X6_moreOfColumn_7 v0 n x1 x2 x3 x4 = some r → ∀ (H : Heap) (locs : List Loc) (ls : Array Slot), va_P D vwCl [(a0, .inr (6, [.ref a1, .ref a2, .int v0.2.2])), (a1, .inl (ca 0, 15, .inl v0.1)), (a2, .inl (ca 0, 15, .inl v0.2.1))] H → va_D A [(a0, .inr (6, [.ref a1, .ref a2, .int v0.2.2])), (a1, .inl (ca 0, 15, .inl v0.1)), (a2, .inl (ca 0, 15, .inl v0.2.1))] → va_S A s.heap H locs → lv_has ls 5 [(0, .ref a0), (1, .int x1), (2, .int x2), (3, .int x3), (4, .int x4)] → W p l e ({ frames := 3, cells := 0, slots := 0, locals := 63 } : Room) s m args below meth c H locs 0 0 Q (F0 m 7 ls []) := by
    intro n
    induction n with
    | zero => intro x1 x2 x3 x4 hf; exact no_el hf
    | succ n ih => exact bl7 (fb_X6_moreOfColumn_7 v0 n) ih
  unfold f_X6_moreOfColumn at hf
  refine lv_iconst (v := 0) hx hb dX6_moreOfColumn_0 rfl ?_
  refine lv_istore_n (lv' := [(2, .int (0 : Int32)), (0, .ref a0), (1, .int p1)]) hx hb dX6_moreOfColumn_1 rfl hl (Nat.le_of_ble_eq_true rfl) rfl (fun ls hl => ?_)
  refine lv_iconst (v := 0) hx hb dX6_moreOfColumn_2 rfl ?_
  refine lv_istore_n (lv' := [(3, .int (0 : Int32)), (2, .int (0 : Int32)), (0, .ref a0), (1, .int p1)]) hx hb dX6_moreOfColumn_3 rfl hl (Nat.le_of_ble_eq_true rfl) rfl (fun ls hl => ?_)
  refine lv_iconst (v := 0) hx hb dX6_moreOfColumn_4 rfl ?_
  refine lv_istore (lv' := [(4, .int (0 : Int32)), (3, .int (0 : Int32)), (2, .int (0 : Int32)), (0, .ref a0), (1, .int p1)]) hx hb dX6_moreOfColumn_5 hl (Nat.le_of_ble_eq_true rfl) rfl (fun ls hl => ?_)
  exact b7 FU p1 (0 : Int32) (0 : Int32) (0 : Int32) hf _ _ _ hP hD hS (lv_sub hl [3, 4, 2, 1, 0] rfl)
abbrev wq_X6_greatestColumn : List Cond := Cond.code yX6_greatestColumn cX6_greatestColumn 3 (some .int) :: GL
set_option maxHeartbeats 4000000 in
set_option maxRecDepth 100000 in
theorem c_X6_greatestColumn (l : Launch) (D : va_G) (ca : Nat → ClassId) (zz : Nat → Nat) (a0 a1 a2 : Nat) (sz : Nat) (v0 : V6) (r : Int32) (hf : f_X6_greatestColumn v0 = some r) : Met l yX6_greatestColumn wq_X6_greatestColumn ({ frames := 4, cells := 0, slots := 0, locals := 87 } : Room) (PR D ca zz [.ref a0] sz [(a0, .inr (6, [.ref a1, .ref a2, .int v0.2.2])), (a1, .inl (ca 0, 15, .inl v0.1)), (a2, .inl (ca 0, 15, .inl v0.2.1))]) (QI D ca r [(a0, .inr (6, [.ref a1, .ref a2, .int v0.2.2])), (a1, .inl (ca 0, 15, .inl v0.1)), (a2, .inl (ca 0, 15, .inl v0.2.1))] (va_A [(a0, .inr (6, [.ref a1, .ref a2, .int v0.2.2])), (a1, .inl (ca 0, 15, .inl v0.1)), (a2, .inl (ca 0, 15, .inl v0.2.1))] sz)) 0 0 (va_A [(a0, .inr (6, [.ref a1, .ref a2, .int v0.2.2])), (a1, .inl (ca 0, 15, .inl v0.1)), (a2, .inl (ca 0, 15, .inl v0.2.1))] sz) := by
  refine en (y := yX6_greatestColumn) (wsm := wq_X6_greatestColumn) (av := [.ref a0]) (cc := cX6_greatestColumn) (maxL := 3) (ret := (some .int)) (Qf := fun A => (QI D ca r [(a0, .inr (6, [.ref a1, .ref a2, .int v0.2.2])), (a1, .inl (ca 0, 15, .inl v0.1)), (a2, .inl (ca 0, 15, .inl v0.2.1))] A)) (by decide) rfl (Nat.le_of_ble_eq_true rfl) ?_
  intro p e s m args below meth c A Q ls hx hb hr hml hown hts hlocks hnm hA hN hZ hK hQ hP hD hS hl
  have w0 := hts _ (List.mem_cons_of_mem _ gw_4_160)
  have w1 := hts _ (List.mem_cons_of_mem _ gw_2_33)
  have w2 := hts _ (List.mem_cons_of_mem _ gw_1_11)
  have w3 := hts _ (List.mem_cons_of_mem _ gw_2_34)
  have bl4 : ∀ (k4 : Int32 → Int32 → Option (Int32)) (q4 : ∀ (x1 : Int32) (x2 : Int32), k4 x1 x2 = some r → ∀ (H : Heap) (locs : List Loc) (ls : Array Slot), va_P D vwCl [(a0, .inr (6, [.ref a1, .ref a2, .int v0.2.2])), (a1, .inl (ca 0, 15, .inl v0.1)), (a2, .inl (ca 0, 15, .inl v0.2.1))] H → va_D A [(a0, .inr (6, [.ref a1, .ref a2, .int v0.2.2])), (a1, .inl (ca 0, 15, .inl v0.1)), (a2, .inl (ca 0, 15, .inl v0.2.1))] → va_S A s.heap H locs → lv_has ls 3 [(0, .ref a0), (1, .int x1), (2, .int x2)] → W p l e ({ frames := 4, cells := 0, slots := 0, locals := 87 } : Room) s m args below meth c H locs 0 0 Q (F0 m 4 ls [])) (x1 : Int32) (x2 : Int32), fl_X6_greatestColumn_4 v0 k4 x1 x2 = some r → ∀ (H : Heap) (locs : List Loc) (ls : Array Slot), va_P D vwCl [(a0, .inr (6, [.ref a1, .ref a2, .int v0.2.2])), (a1, .inl (ca 0, 15, .inl v0.1)), (a2, .inl (ca 0, 15, .inl v0.2.1))] H → va_D A [(a0, .inr (6, [.ref a1, .ref a2, .int v0.2.2])), (a1, .inl (ca 0, 15, .inl v0.1)), (a2, .inl (ca 0, 15, .inl v0.2.1))] → va_S A s.heap H locs → lv_has ls 3 [(0, .ref a0), (1, .int x1), (2, .int x2)] → W p l e ({ frames := 4, cells := 0, slots := 0, locals := 87 } : Room) s m args below meth c H locs 0 0 Q (F0 m 4 ls []) := by
    intro k4 q4 x1 x2 hf H locs ls hP hD hS hl
    unfold fl_X6_greatestColumn_4 at hf
    refine lv_iload_n hx hb dX6_greatestColumn_4 rfl (lv_at hl 2 rfl) ?_
    refine lv_bipush (v := 15) hx hb dX6_greatestColumn_5 rfl ?_
    refine xc_ge (tgt := 26) hx hb dX6_greatestColumn_7 (by decide) hf (fun hf => ?_) (fun hf => ?_)
    · refine lv_iload_n hx hb dX6_greatestColumn_26 rfl (lv_at hl 1 rfl) ?_
      have he := Option.some.inj hf
      have e_r := he
      refine rt_I hx hb hr hlocks hK hP hD hS hQ e_r ?_ dX6_greatestColumn_27
      rfl
    · refine lv_iload_n hx hb dX6_greatestColumn_10 rfl (lv_at hl 1 rfl) ?_
      refine lv_aload_n hx hb dX6_greatestColumn_11 rfl (lv_at hl 0 rfl) ?_
      refine lv_iload_n hx hb dX6_greatestColumn_12 rfl (lv_at hl 2 rfl) ?_
      obtain ⟨r_1, hc1, hf⟩ := bnd1_el hf
      refine xV_I (As := [.int x2]) (wx := [(a0, .inr (6, [.ref a1, .ref a2, .int v0.2.2])), (a1, .inl (ca 0, 15, .inl v0.1)), (a2, .inl (ca 0, 15, .inl v0.2.1))]) ⟨hx, hb, hml, hown, hts⟩ (c_X6_moreOfColumn l D ca zz a0 a1 a2 _ v0 x2 r_1 hc1) (cwV 1 hts (gV gw_4_165 gw_4_167 gw_s_2_5 gw_1_9 gw_4_168) rfl rfl rfl (by decide +kernel) ⟨(Nat.le_of_ble_eq_true rfl), (Nat.le_of_ble_eq_true rfl)⟩) hK hN hZ hA hP hD hS [0, 1, 2] [some 0, some 1, some 2] (by decide +kernel) rfl rfl rfl rfl 0 rfl rfl hl.1 rfl (Nat.le_of_ble_eq_true rfl) dX6_greatestColumn_13 ⟨Nat.zero_le _, Nat.zero_le _⟩ rfl (fun H locs hP hD hS => ?_)
      refine va_mmax hx hb (hml.trans hl.1.symm) hown w0 w1 w2 w3 (Nat.le_of_ble_eq_true rfl) (Nat.le_of_ble_eq_true rfl) (Nat.zero_le _) (Nat.zero_le _) dX6_greatestColumn_16 ?_
      refine xnm hf (fun x_2 hf => ?_)
      refine lv_istore_n (lv' := [(1, .int x_2), (0, .ref a0), (2, .int x2)]) hx hb dX6_greatestColumn_19 rfl hl (Nat.le_of_ble_eq_true rfl) rfl (fun ls hl => ?_)
      obtain ⟨x_3, ex_3, hf⟩ := bnd_el hf
      refine lv_iinc (v := x_3) (lv' := [(2, .int x_3), (1, .int x_2), (0, .ref a0)]) hx hb dX6_greatestColumn_20 hl (k := 2) rfl (by rw [ex_3]; rfl) (Nat.le_of_ble_eq_true rfl) rfl (fun ls hl => ?_)
      refine lv_goto (tgt := 4) hx hb dX6_greatestColumn_23 (by decide) ?_
      exact q4 x_2 x_3 hf _ _ _ hP hD hS (lv_sub hl [2, 1, 0] rfl)
  have b4 : ∀ (n : Nat) (x1 : Int32) (x2 : Int32), fb_X6_greatestColumn_4 v0 n x1 x2 = some r → ∀ (H : Heap) (locs : List Loc) (ls : Array Slot), va_P D vwCl [(a0, .inr (6, [.ref a1, .ref a2, .int v0.2.2])), (a1, .inl (ca 0, 15, .inl v0.1)), (a2, .inl (ca 0, 15, .inl v0.2.1))] H → va_D A [(a0, .inr (6, [.ref a1, .ref a2, .int v0.2.2])), (a1, .inl (ca 0, 15, .inl v0.1)), (a2, .inl (ca 0, 15, .inl v0.2.1))] → va_S A s.heap H locs → lv_has ls 3 [(0, .ref a0), (1, .int x1), (2, .int x2)] → W p l e ({ frames := 4, cells := 0, slots := 0, locals := 87 } : Room) s m args below meth c H locs 0 0 Q (F0 m 4 ls []) := by
    intro n
    induction n with
    | zero => intro x1 x2 hf; exact no_el hf
    | succ n ih => exact bl4 (fb_X6_greatestColumn_4 v0 n) ih
  unfold f_X6_greatestColumn at hf
  refine lv_iconst (v := 0) hx hb dX6_greatestColumn_0 rfl ?_
  refine lv_istore_n (lv' := [(1, .int (0 : Int32)), (0, .ref a0)]) hx hb dX6_greatestColumn_1 rfl hl (Nat.le_of_ble_eq_true rfl) rfl (fun ls hl => ?_)
  refine lv_iconst (v := 0) hx hb dX6_greatestColumn_2 rfl ?_
  refine lv_istore_n (lv' := [(2, .int (0 : Int32)), (1, .int (0 : Int32)), (0, .ref a0)]) hx hb dX6_greatestColumn_3 rfl hl (Nat.le_of_ble_eq_true rfl) rfl (fun ls hl => ?_)
  exact b4 FU (0 : Int32) (0 : Int32) hf _ _ _ hP hD hS (lv_sub hl [2, 1, 0] rfl)
abbrev wq_X6_rowsAbove : List Cond := Cond.code yX6_rowsAbove cX6_rowsAbove 4 (some .int) :: GL
set_option maxHeartbeats 4000000 in
set_option maxRecDepth 100000 in
theorem c_X6_rowsAbove (l : Launch) (D : va_G) (ca : Nat → ClassId) (zz : Nat → Nat) (a0 a1 a2 : Nat) (sz : Nat) (v0 : V6) (p1 : Int32) (r : Int32) (hf : f_X6_rowsAbove v0 p1 = some r) : Met l yX6_rowsAbove wq_X6_rowsAbove ({ frames := 4, cells := 0, slots := 0, locals := 85 } : Room) (PR D ca zz [.ref a0, .int p1] sz [(a0, .inr (6, [.ref a1, .ref a2, .int v0.2.2])), (a1, .inl (ca 0, 15, .inl v0.1)), (a2, .inl (ca 0, 15, .inl v0.2.1))]) (QI D ca r [(a0, .inr (6, [.ref a1, .ref a2, .int v0.2.2])), (a1, .inl (ca 0, 15, .inl v0.1)), (a2, .inl (ca 0, 15, .inl v0.2.1))] (va_A [(a0, .inr (6, [.ref a1, .ref a2, .int v0.2.2])), (a1, .inl (ca 0, 15, .inl v0.1)), (a2, .inl (ca 0, 15, .inl v0.2.1))] sz)) 0 0 (va_A [(a0, .inr (6, [.ref a1, .ref a2, .int v0.2.2])), (a1, .inl (ca 0, 15, .inl v0.1)), (a2, .inl (ca 0, 15, .inl v0.2.1))] sz) := by
  refine en (y := yX6_rowsAbove) (wsm := wq_X6_rowsAbove) (av := [.ref a0, .int p1]) (cc := cX6_rowsAbove) (maxL := 4) (ret := (some .int)) (Qf := fun A => (QI D ca r [(a0, .inr (6, [.ref a1, .ref a2, .int v0.2.2])), (a1, .inl (ca 0, 15, .inl v0.1)), (a2, .inl (ca 0, 15, .inl v0.2.1))] A)) (by decide) rfl (Nat.le_of_ble_eq_true rfl) ?_
  intro p e s m args below meth c A Q ls hx hb hr hml hown hts hlocks hnm hA hN hZ hK hQ hP hD hS hl
  have bl4 : ∀ (k4 : Int32 → Int32 → Int32 → Option (Int32)) (q4 : ∀ (x1 : Int32) (x2 : Int32) (x3 : Int32), k4 x1 x2 x3 = some r → ∀ (H : Heap) (locs : List Loc) (ls : Array Slot), va_P D vwCl [(a0, .inr (6, [.ref a1, .ref a2, .int v0.2.2])), (a1, .inl (ca 0, 15, .inl v0.1)), (a2, .inl (ca 0, 15, .inl v0.2.1))] H → va_D A [(a0, .inr (6, [.ref a1, .ref a2, .int v0.2.2])), (a1, .inl (ca 0, 15, .inl v0.1)), (a2, .inl (ca 0, 15, .inl v0.2.1))] → va_S A s.heap H locs → lv_has ls 4 [(0, .ref a0), (1, .int x1), (2, .int x2), (3, .int x3)] → W p l e ({ frames := 4, cells := 0, slots := 0, locals := 85 } : Room) s m args below meth c H locs 0 0 Q (F0 m 4 ls [])) (x1 : Int32) (x2 : Int32) (x3 : Int32), fl_X6_rowsAbove_4 v0 k4 x1 x2 x3 = some r → ∀ (H : Heap) (locs : List Loc) (ls : Array Slot), va_P D vwCl [(a0, .inr (6, [.ref a1, .ref a2, .int v0.2.2])), (a1, .inl (ca 0, 15, .inl v0.1)), (a2, .inl (ca 0, 15, .inl v0.2.1))] H → va_D A [(a0, .inr (6, [.ref a1, .ref a2, .int v0.2.2])), (a1, .inl (ca 0, 15, .inl v0.1)), (a2, .inl (ca 0, 15, .inl v0.2.1))] → va_S A s.heap H locs → lv_has ls 4 [(0, .ref a0), (1, .int x1), (2, .int x2), (3, .int x3)] → W p l e ({ frames := 4, cells := 0, slots := 0, locals := 85 } : Room) s m args below meth c H locs 0 0 Q (F0 m 4 ls []) := by
    intro k4 q4 x1 x2 x3 hf H locs ls hP hD hS hl
    unfold fl_X6_rowsAbove_4 at hf
    refine lv_iload_n hx hb dX6_rowsAbove_4 rfl (lv_at hl 3 rfl) ?_
    refine lv_bipush (v := 15) hx hb dX6_rowsAbove_5 rfl ?_
    refine xc_ge (tgt := 31) hx hb dX6_rowsAbove_7 (by decide) hf (fun hf => ?_) (fun hf => ?_)
    · refine lv_iload_n hx hb dX6_rowsAbove_31 rfl (lv_at hl 2 rfl) ?_
      have he := Option.some.inj hf
      have e_r := he
      refine rt_I hx hb hr hlocks hK hP hD hS hQ e_r ?_ dX6_rowsAbove_32
      rfl
    · refine lv_aload_n hx hb dX6_rowsAbove_10 rfl (lv_at hl 0 rfl) ?_
      refine lv_iload_n hx hb dX6_rowsAbove_11 rfl (lv_at hl 3 rfl) ?_
      obtain ⟨r_1, hc1, hf⟩ := bnd1_el hf
      refine xV_I (As := [.int x3]) (wx := [(a0, .inr (6, [.ref a1, .ref a2, .int v0.2.2])), (a1, .inl (ca 0, 15, .inl v0.1)), (a2, .inl (ca 0, 15, .inl v0.2.1))]) ⟨hx, hb, hml, hown, hts⟩ (c_X6_moreOfRow l D ca zz a0 a1 a2 _ v0 x3 r_1 hc1) (cwV 1 hts (gV gw_4_150 gw_4_152 gw_s_2_4 gw_1_9 gw_4_153) rfl rfl rfl (by decide +kernel) ⟨(Nat.le_of_ble_eq_true rfl), (Nat.le_of_ble_eq_true rfl)⟩) hK hN hZ hA hP hD hS [0, 1, 2] [some 0, some 1, some 2] (by decide +kernel) rfl rfl rfl rfl 0 rfl rfl hl.1 rfl (Nat.le_of_ble_eq_true rfl) dX6_rowsAbove_12 ⟨Nat.zero_le _, Nat.zero_le _⟩ rfl (fun H locs hP hD hS => ?_)
      refine lv_iload_n hx hb dX6_rowsAbove_15 rfl (lv_at hl 1 rfl) ?_
      refine xc_le (tgt := 25) hx hb dX6_rowsAbove_16 (by decide) hf (fun hf => ?_) (fun hf => ?_)
      · obtain ⟨x_2, ex_2, hf⟩ := bnd_el hf
        refine lv_iinc (v := x_2) (lv' := [(3, .int x_2), (0, .ref a0), (1, .int x1), (2, .int x2)]) hx hb dX6_rowsAbove_25 hl (k := 3) rfl (by rw [ex_2]; rfl) (Nat.le_of_ble_eq_true rfl) rfl (fun ls hl => ?_)
        refine lv_goto (tgt := 4) hx hb dX6_rowsAbove_28 (by decide) ?_
        exact q4 x1 x2 x_2 hf _ _ _ hP hD hS (lv_sub hl [1, 2, 3, 0] rfl)
      · refine lv_iload_n hx hb dX6_rowsAbove_19 rfl (lv_at hl 2 rfl) ?_
        refine lv_iconst (v := 1) hx hb dX6_rowsAbove_20 rfl ?_
        refine lv_iload_n hx hb dX6_rowsAbove_21 rfl (lv_at hl 3 rfl) ?_
        refine lv_ishl hx hb dX6_rowsAbove_22 ?_
        refine lv_ior hx hb dX6_rowsAbove_23 ?_
        refine xnm hf (fun x_3 hf => ?_)
        refine lv_istore_n (lv' := [(2, .int x_3), (0, .ref a0), (1, .int x1), (3, .int x3)]) hx hb dX6_rowsAbove_24 rfl hl (Nat.le_of_ble_eq_true rfl) rfl (fun ls hl => ?_)
        obtain ⟨x_4, ex_4, hf⟩ := bnd_el hf
        refine lv_iinc (v := x_4) (lv' := [(3, .int x_4), (2, .int x_3), (0, .ref a0), (1, .int x1)]) hx hb dX6_rowsAbove_25 hl (k := 3) rfl (by rw [ex_4]; rfl) (Nat.le_of_ble_eq_true rfl) rfl (fun ls hl => ?_)
        refine lv_goto (tgt := 4) hx hb dX6_rowsAbove_28 (by decide) ?_
        exact q4 x1 x_3 x_4 hf _ _ _ hP hD hS (lv_sub hl [2, 3, 1, 0] rfl)
  have b4 : ∀ (n : Nat) (x1 : Int32) (x2 : Int32) (x3 : Int32), fb_X6_rowsAbove_4 v0 n x1 x2 x3 = some r → ∀ (H : Heap) (locs : List Loc) (ls : Array Slot), va_P D vwCl [(a0, .inr (6, [.ref a1, .ref a2, .int v0.2.2])), (a1, .inl (ca 0, 15, .inl v0.1)), (a2, .inl (ca 0, 15, .inl v0.2.1))] H → va_D A [(a0, .inr (6, [.ref a1, .ref a2, .int v0.2.2])), (a1, .inl (ca 0, 15, .inl v0.1)), (a2, .inl (ca 0, 15, .inl v0.2.1))] → va_S A s.heap H locs → lv_has ls 4 [(0, .ref a0), (1, .int x1), (2, .int x2), (3, .int x3)] → W p l e ({ frames := 4, cells := 0, slots := 0, locals := 85 } : Room) s m args below meth c H locs 0 0 Q (F0 m 4 ls []) := by
    intro n
    induction n with
    | zero => intro x1 x2 x3 hf; exact no_el hf
    | succ n ih => exact bl4 (fb_X6_rowsAbove_4 v0 n) ih
  unfold f_X6_rowsAbove at hf
  refine lv_iconst (v := 0) hx hb dX6_rowsAbove_0 rfl ?_
  refine lv_istore_n (lv' := [(2, .int (0 : Int32)), (0, .ref a0), (1, .int p1)]) hx hb dX6_rowsAbove_1 rfl hl (Nat.le_of_ble_eq_true rfl) rfl (fun ls hl => ?_)
  refine lv_iconst (v := 0) hx hb dX6_rowsAbove_2 rfl ?_
  refine lv_istore_n (lv' := [(3, .int (0 : Int32)), (2, .int (0 : Int32)), (0, .ref a0), (1, .int p1)]) hx hb dX6_rowsAbove_3 rfl hl (Nat.le_of_ble_eq_true rfl) rfl (fun ls hl => ?_)
  exact b4 FU p1 (0 : Int32) (0 : Int32) hf _ _ _ hP hD hS (lv_sub hl [2, 3, 1, 0] rfl)
abbrev wq_X6_columnsAbove : List Cond := Cond.code yX6_columnsAbove cX6_columnsAbove 4 (some .int) :: GL
set_option maxHeartbeats 4000000 in
set_option maxRecDepth 100000 in
theorem c_X6_columnsAbove (l : Launch) (D : va_G) (ca : Nat → ClassId) (zz : Nat → Nat) (a0 a1 a2 : Nat) (sz : Nat) (v0 : V6) (p1 : Int32) (r : Int32) (hf : f_X6_columnsAbove v0 p1 = some r) : Met l yX6_columnsAbove wq_X6_columnsAbove ({ frames := 4, cells := 0, slots := 0, locals := 87 } : Room) (PR D ca zz [.ref a0, .int p1] sz [(a0, .inr (6, [.ref a1, .ref a2, .int v0.2.2])), (a1, .inl (ca 0, 15, .inl v0.1)), (a2, .inl (ca 0, 15, .inl v0.2.1))]) (QI D ca r [(a0, .inr (6, [.ref a1, .ref a2, .int v0.2.2])), (a1, .inl (ca 0, 15, .inl v0.1)), (a2, .inl (ca 0, 15, .inl v0.2.1))] (va_A [(a0, .inr (6, [.ref a1, .ref a2, .int v0.2.2])), (a1, .inl (ca 0, 15, .inl v0.1)), (a2, .inl (ca 0, 15, .inl v0.2.1))] sz)) 0 0 (va_A [(a0, .inr (6, [.ref a1, .ref a2, .int v0.2.2])), (a1, .inl (ca 0, 15, .inl v0.1)), (a2, .inl (ca 0, 15, .inl v0.2.1))] sz) := by
  refine en (y := yX6_columnsAbove) (wsm := wq_X6_columnsAbove) (av := [.ref a0, .int p1]) (cc := cX6_columnsAbove) (maxL := 4) (ret := (some .int)) (Qf := fun A => (QI D ca r [(a0, .inr (6, [.ref a1, .ref a2, .int v0.2.2])), (a1, .inl (ca 0, 15, .inl v0.1)), (a2, .inl (ca 0, 15, .inl v0.2.1))] A)) (by decide) rfl (Nat.le_of_ble_eq_true rfl) ?_
  intro p e s m args below meth c A Q ls hx hb hr hml hown hts hlocks hnm hA hN hZ hK hQ hP hD hS hl
  have bl4 : ∀ (k4 : Int32 → Int32 → Int32 → Option (Int32)) (q4 : ∀ (x1 : Int32) (x2 : Int32) (x3 : Int32), k4 x1 x2 x3 = some r → ∀ (H : Heap) (locs : List Loc) (ls : Array Slot), va_P D vwCl [(a0, .inr (6, [.ref a1, .ref a2, .int v0.2.2])), (a1, .inl (ca 0, 15, .inl v0.1)), (a2, .inl (ca 0, 15, .inl v0.2.1))] H → va_D A [(a0, .inr (6, [.ref a1, .ref a2, .int v0.2.2])), (a1, .inl (ca 0, 15, .inl v0.1)), (a2, .inl (ca 0, 15, .inl v0.2.1))] → va_S A s.heap H locs → lv_has ls 4 [(0, .ref a0), (1, .int x1), (2, .int x2), (3, .int x3)] → W p l e ({ frames := 4, cells := 0, slots := 0, locals := 87 } : Room) s m args below meth c H locs 0 0 Q (F0 m 4 ls [])) (x1 : Int32) (x2 : Int32) (x3 : Int32), fl_X6_columnsAbove_4 v0 k4 x1 x2 x3 = some r → ∀ (H : Heap) (locs : List Loc) (ls : Array Slot), va_P D vwCl [(a0, .inr (6, [.ref a1, .ref a2, .int v0.2.2])), (a1, .inl (ca 0, 15, .inl v0.1)), (a2, .inl (ca 0, 15, .inl v0.2.1))] H → va_D A [(a0, .inr (6, [.ref a1, .ref a2, .int v0.2.2])), (a1, .inl (ca 0, 15, .inl v0.1)), (a2, .inl (ca 0, 15, .inl v0.2.1))] → va_S A s.heap H locs → lv_has ls 4 [(0, .ref a0), (1, .int x1), (2, .int x2), (3, .int x3)] → W p l e ({ frames := 4, cells := 0, slots := 0, locals := 87 } : Room) s m args below meth c H locs 0 0 Q (F0 m 4 ls []) := by
    intro k4 q4 x1 x2 x3 hf H locs ls hP hD hS hl
    unfold fl_X6_columnsAbove_4 at hf
    refine lv_iload_n hx hb dX6_columnsAbove_4 rfl (lv_at hl 3 rfl) ?_
    refine lv_bipush (v := 15) hx hb dX6_columnsAbove_5 rfl ?_
    refine xc_ge (tgt := 31) hx hb dX6_columnsAbove_7 (by decide) hf (fun hf => ?_) (fun hf => ?_)
    · refine lv_iload_n hx hb dX6_columnsAbove_31 rfl (lv_at hl 2 rfl) ?_
      have he := Option.some.inj hf
      have e_r := he
      refine rt_I hx hb hr hlocks hK hP hD hS hQ e_r ?_ dX6_columnsAbove_32
      rfl
    · refine lv_aload_n hx hb dX6_columnsAbove_10 rfl (lv_at hl 0 rfl) ?_
      refine lv_iload_n hx hb dX6_columnsAbove_11 rfl (lv_at hl 3 rfl) ?_
      obtain ⟨r_1, hc1, hf⟩ := bnd1_el hf
      refine xV_I (As := [.int x3]) (wx := [(a0, .inr (6, [.ref a1, .ref a2, .int v0.2.2])), (a1, .inl (ca 0, 15, .inl v0.1)), (a2, .inl (ca 0, 15, .inl v0.2.1))]) ⟨hx, hb, hml, hown, hts⟩ (c_X6_moreOfColumn l D ca zz a0 a1 a2 _ v0 x3 r_1 hc1) (cwV 1 hts (gV gw_4_165 gw_4_167 gw_s_2_5 gw_1_9 gw_4_168) rfl rfl rfl (by decide +kernel) ⟨(Nat.le_of_ble_eq_true rfl), (Nat.le_of_ble_eq_true rfl)⟩) hK hN hZ hA hP hD hS [0, 1, 2] [some 0, some 1, some 2] (by decide +kernel) rfl rfl rfl rfl 0 rfl rfl hl.1 rfl (Nat.le_of_ble_eq_true rfl) dX6_columnsAbove_12 ⟨Nat.zero_le _, Nat.zero_le _⟩ rfl (fun H locs hP hD hS => ?_)
      refine lv_iload_n hx hb dX6_columnsAbove_15 rfl (lv_at hl 1 rfl) ?_
      refine xc_le (tgt := 25) hx hb dX6_columnsAbove_16 (by decide) hf (fun hf => ?_) (fun hf => ?_)
      · obtain ⟨x_2, ex_2, hf⟩ := bnd_el hf
        refine lv_iinc (v := x_2) (lv' := [(3, .int x_2), (0, .ref a0), (1, .int x1), (2, .int x2)]) hx hb dX6_columnsAbove_25 hl (k := 3) rfl (by rw [ex_2]; rfl) (Nat.le_of_ble_eq_true rfl) rfl (fun ls hl => ?_)
        refine lv_goto (tgt := 4) hx hb dX6_columnsAbove_28 (by decide) ?_
        exact q4 x1 x2 x_2 hf _ _ _ hP hD hS (lv_sub hl [1, 2, 3, 0] rfl)
      · refine lv_iload_n hx hb dX6_columnsAbove_19 rfl (lv_at hl 2 rfl) ?_
        refine lv_iconst (v := 1) hx hb dX6_columnsAbove_20 rfl ?_
        refine lv_iload_n hx hb dX6_columnsAbove_21 rfl (lv_at hl 3 rfl) ?_
        refine lv_ishl hx hb dX6_columnsAbove_22 ?_
        refine lv_ior hx hb dX6_columnsAbove_23 ?_
        refine xnm hf (fun x_3 hf => ?_)
        refine lv_istore_n (lv' := [(2, .int x_3), (0, .ref a0), (1, .int x1), (3, .int x3)]) hx hb dX6_columnsAbove_24 rfl hl (Nat.le_of_ble_eq_true rfl) rfl (fun ls hl => ?_)
        obtain ⟨x_4, ex_4, hf⟩ := bnd_el hf
        refine lv_iinc (v := x_4) (lv' := [(3, .int x_4), (2, .int x_3), (0, .ref a0), (1, .int x1)]) hx hb dX6_columnsAbove_25 hl (k := 3) rfl (by rw [ex_4]; rfl) (Nat.le_of_ble_eq_true rfl) rfl (fun ls hl => ?_)
        refine lv_goto (tgt := 4) hx hb dX6_columnsAbove_28 (by decide) ?_
        exact q4 x1 x_3 x_4 hf _ _ _ hP hD hS (lv_sub hl [2, 3, 1, 0] rfl)
  have b4 : ∀ (n : Nat) (x1 : Int32) (x2 : Int32) (x3 : Int32), fb_X6_columnsAbove_4 v0 n x1 x2 x3 = some r → ∀ (H : Heap) (locs : List Loc) (ls : Array Slot), va_P D vwCl [(a0, .inr (6, [.ref a1, .ref a2, .int v0.2.2])), (a1, .inl (ca 0, 15, .inl v0.1)), (a2, .inl (ca 0, 15, .inl v0.2.1))] H → va_D A [(a0, .inr (6, [.ref a1, .ref a2, .int v0.2.2])), (a1, .inl (ca 0, 15, .inl v0.1)), (a2, .inl (ca 0, 15, .inl v0.2.1))] → va_S A s.heap H locs → lv_has ls 4 [(0, .ref a0), (1, .int x1), (2, .int x2), (3, .int x3)] → W p l e ({ frames := 4, cells := 0, slots := 0, locals := 87 } : Room) s m args below meth c H locs 0 0 Q (F0 m 4 ls []) := by
    intro n
    induction n with
    | zero => intro x1 x2 x3 hf; exact no_el hf
    | succ n ih => exact bl4 (fb_X6_columnsAbove_4 v0 n) ih
  unfold f_X6_columnsAbove at hf
  refine lv_iconst (v := 0) hx hb dX6_columnsAbove_0 rfl ?_
  refine lv_istore_n (lv' := [(2, .int (0 : Int32)), (0, .ref a0), (1, .int p1)]) hx hb dX6_columnsAbove_1 rfl hl (Nat.le_of_ble_eq_true rfl) rfl (fun ls hl => ?_)
  refine lv_iconst (v := 0) hx hb dX6_columnsAbove_2 rfl ?_
  refine lv_istore_n (lv' := [(3, .int (0 : Int32)), (2, .int (0 : Int32)), (0, .ref a0), (1, .int p1)]) hx hb dX6_columnsAbove_3 rfl hl (Nat.le_of_ble_eq_true rfl) rfl (fun ls hl => ?_)
  exact b4 FU p1 (0 : Int32) (0 : Int32) hf _ _ _ hP hD hS (lv_sub hl [2, 3, 1, 0] rfl)
abbrev wq_X11_compared : List Cond := Cond.code yX11_compared cX11_compared 2 (some .int) :: GL
set_option maxHeartbeats 4000000 in
set_option maxRecDepth 100000 in
theorem c_X11_compared (l : Launch) (D : va_G) (ca : Nat → ClassId) (zz : Nat → Nat) (a0 a1 a2 a3 a4 a5 a6 a7 a8 a9 a10 a11 a12 a13 a14 a15 a16 a17 a18 a19 a20 a21 a41 a42 a49 a52 a53 a54 a55 : Nat) (sz : Nat) (v0 : V11) (p1 : Int32) (r : Int32) (v0' : V11) (hf : f_X11_compared v0 p1 = some (r, v0')) : Met l yX11_compared wq_X11_compared ({ frames := 5, cells := 0, slots := 0, locals := 110 } : Room) (PR D ca zz [.ref a0, .int p1] sz [(a0, .inr (11, [.ref a1, .ref a21, .ref a41, .ref a42, .ref a49, .ref a52, .ref a54, .ref a55])), (a1, .inr (10, [.ref a2, .ref a7, .ref a9, .ref a10, .ref a11, .ref a14, .ref a16, .ref a19, .int v0.1.2.2.2.2.2.2.2.2.1, .int v0.1.2.2.2.2.2.2.2.2.2.1, .int v0.1.2.2.2.2.2.2.2.2.2.2.1, .int v0.1.2.2.2.2.2.2.2.2.2.2.2.1, .int v0.1.2.2.2.2.2.2.2.2.2.2.2.2.1, .int v0.1.2.2.2.2.2.2.2.2.2.2.2.2.2])), (a2, .inr (7, [.ref a3, .ref a4, .ref a5, .ref a6, .int v0.1.1.2.2.2.2])), (a3, .inl (ca 0, 9, .inl v0.1.1.1)), (a4, .inl (ca 0, 4, .inl v0.1.1.2.1)), (a5, .inl (ca 0, 4, .inl v0.1.1.2.2.1)), (a6, .inl (ca 0, 4, .inl v0.1.1.2.2.2.1)), (a7, .inr (2, [.ref a8, .int v0.1.2.1.2.1, .int v0.1.2.1.2.2.1, .int v0.1.2.1.2.2.2.1, .int v0.1.2.1.2.2.2.2])), (a8, .inl (ca 1, 17, .inr (.inl v0.1.2.1.1))), (a9, .inr (8, [.int v0.1.2.2.1.1, .int v0.1.2.2.1.2.1, .int v0.1.2.2.1.2.2])), (a10, .inr (1, [.int v0.1.2.2.2.1.1, .int v0.1.2.2.2.1.2.1, .int v0.1.2.2.2.1.2.2.1, .int v0.1.2.2.2.1.2.2.2.1, .int v0.1.2.2.2.1.2.2.2.2.1, .int v0.1.2.2.2.1.2.2.2.2.2])), (a11, .inr (3, [.ref a12, .int v0.1.2.2.2.2.1.2.1, .int v0.1.2.2.2.2.1.2.2.1, .int v0.1.2.2.2.2.1.2.2.2.1, .int v0.1.2.2.2.2.1.2.2.2.2.1, .int v0.1.2.2.2.2.1.2.2.2.2.2.1, .int v0.1.2.2.2.2.1.2.2.2.2.2.2])), (a12, .inr (4, [.ref a13, .int v0.1.2.2.2.2.1.1.2.1, .int v0.1.2.2.2.2.1.1.2.2])), (a13, .inl (ca 0, 512, .inl v0.1.2.2.2.2.1.1.1)), (a14, .inr (4, [.ref a15, .int v0.1.2.2.2.2.2.1.2.1, .int v0.1.2.2.2.2.2.1.2.2])), (a15, .inl (ca 0, 512, .inl v0.1.2.2.2.2.2.1.1)), (a16, .inr (6, [.ref a17, .ref a18, .int v0.1.2.2.2.2.2.2.1.2.2])), (a17, .inl (ca 0, 15, .inl v0.1.2.2.2.2.2.2.1.1)), (a18, .inl (ca 0, 15, .inl v0.1.2.2.2.2.2.2.1.2.1)), (a19, .inr (9, [.ref a20, .int v0.1.2.2.2.2.2.2.2.1.2.1, .int v0.1.2.2.2.2.2.2.2.1.2.2.1, .int v0.1.2.2.2.2.2.2.2.1.2.2.2])), (a20, .inl (ca 0, 300, .inl v0.1.2.2.2.2.2.2.2.1.1)), (a52, .inr (2, [.ref a53, .int v0.2.2.2.2.2.1.2.1, .int v0.2.2.2.2.2.1.2.2.1, .int v0.2.2.2.2.2.1.2.2.2.1, .int v0.2.2.2.2.2.1.2.2.2.2])), (a53, .inl (ca 1, 17, .inr (.inl v0.2.2.2.2.2.1.1)))]) (QI D ca r [(a0, .inr (11, [.ref a1, .ref a21, .ref a41, .ref a42, .ref a49, .ref a52, .ref a54, .ref a55])), (a1, .inr (10, [.ref a2, .ref a7, .ref a9, .ref a10, .ref a11, .ref a14, .ref a16, .ref a19, .int v0'.1.2.2.2.2.2.2.2.2.1, .int v0'.1.2.2.2.2.2.2.2.2.2.1, .int v0'.1.2.2.2.2.2.2.2.2.2.2.1, .int v0'.1.2.2.2.2.2.2.2.2.2.2.2.1, .int v0'.1.2.2.2.2.2.2.2.2.2.2.2.2.1, .int v0'.1.2.2.2.2.2.2.2.2.2.2.2.2.2])), (a2, .inr (7, [.ref a3, .ref a4, .ref a5, .ref a6, .int v0'.1.1.2.2.2.2])), (a3, .inl (ca 0, 9, .inl v0'.1.1.1)), (a4, .inl (ca 0, 4, .inl v0'.1.1.2.1)), (a5, .inl (ca 0, 4, .inl v0'.1.1.2.2.1)), (a6, .inl (ca 0, 4, .inl v0'.1.1.2.2.2.1)), (a7, .inr (2, [.ref a8, .int v0'.1.2.1.2.1, .int v0'.1.2.1.2.2.1, .int v0'.1.2.1.2.2.2.1, .int v0'.1.2.1.2.2.2.2])), (a8, .inl (ca 1, 17, .inr (.inl v0'.1.2.1.1))), (a9, .inr (8, [.int v0'.1.2.2.1.1, .int v0'.1.2.2.1.2.1, .int v0'.1.2.2.1.2.2])), (a10, .inr (1, [.int v0'.1.2.2.2.1.1, .int v0'.1.2.2.2.1.2.1, .int v0'.1.2.2.2.1.2.2.1, .int v0'.1.2.2.2.1.2.2.2.1, .int v0'.1.2.2.2.1.2.2.2.2.1, .int v0'.1.2.2.2.1.2.2.2.2.2])), (a11, .inr (3, [.ref a12, .int v0'.1.2.2.2.2.1.2.1, .int v0'.1.2.2.2.2.1.2.2.1, .int v0'.1.2.2.2.2.1.2.2.2.1, .int v0'.1.2.2.2.2.1.2.2.2.2.1, .int v0'.1.2.2.2.2.1.2.2.2.2.2.1, .int v0'.1.2.2.2.2.1.2.2.2.2.2.2])), (a12, .inr (4, [.ref a13, .int v0'.1.2.2.2.2.1.1.2.1, .int v0'.1.2.2.2.2.1.1.2.2])), (a13, .inl (ca 0, 512, .inl v0'.1.2.2.2.2.1.1.1)), (a14, .inr (4, [.ref a15, .int v0'.1.2.2.2.2.2.1.2.1, .int v0'.1.2.2.2.2.2.1.2.2])), (a15, .inl (ca 0, 512, .inl v0'.1.2.2.2.2.2.1.1)), (a16, .inr (6, [.ref a17, .ref a18, .int v0'.1.2.2.2.2.2.2.1.2.2])), (a17, .inl (ca 0, 15, .inl v0'.1.2.2.2.2.2.2.1.1)), (a18, .inl (ca 0, 15, .inl v0'.1.2.2.2.2.2.2.1.2.1)), (a19, .inr (9, [.ref a20, .int v0'.1.2.2.2.2.2.2.2.1.2.1, .int v0'.1.2.2.2.2.2.2.2.1.2.2.1, .int v0'.1.2.2.2.2.2.2.2.1.2.2.2])), (a20, .inl (ca 0, 300, .inl v0'.1.2.2.2.2.2.2.2.1.1)), (a52, .inr (2, [.ref a53, .int v0'.2.2.2.2.2.1.2.1, .int v0'.2.2.2.2.2.1.2.2.1, .int v0'.2.2.2.2.2.1.2.2.2.1, .int v0'.2.2.2.2.2.1.2.2.2.2])), (a53, .inl (ca 1, 17, .inr (.inl v0'.2.2.2.2.2.1.1)))] (va_A [(a0, .inr (11, [.ref a1, .ref a21, .ref a41, .ref a42, .ref a49, .ref a52, .ref a54, .ref a55])), (a1, .inr (10, [.ref a2, .ref a7, .ref a9, .ref a10, .ref a11, .ref a14, .ref a16, .ref a19, .int v0.1.2.2.2.2.2.2.2.2.1, .int v0.1.2.2.2.2.2.2.2.2.2.1, .int v0.1.2.2.2.2.2.2.2.2.2.2.1, .int v0.1.2.2.2.2.2.2.2.2.2.2.2.1, .int v0.1.2.2.2.2.2.2.2.2.2.2.2.2.1, .int v0.1.2.2.2.2.2.2.2.2.2.2.2.2.2])), (a2, .inr (7, [.ref a3, .ref a4, .ref a5, .ref a6, .int v0.1.1.2.2.2.2])), (a3, .inl (ca 0, 9, .inl v0.1.1.1)), (a4, .inl (ca 0, 4, .inl v0.1.1.2.1)), (a5, .inl (ca 0, 4, .inl v0.1.1.2.2.1)), (a6, .inl (ca 0, 4, .inl v0.1.1.2.2.2.1)), (a7, .inr (2, [.ref a8, .int v0.1.2.1.2.1, .int v0.1.2.1.2.2.1, .int v0.1.2.1.2.2.2.1, .int v0.1.2.1.2.2.2.2])), (a8, .inl (ca 1, 17, .inr (.inl v0.1.2.1.1))), (a9, .inr (8, [.int v0.1.2.2.1.1, .int v0.1.2.2.1.2.1, .int v0.1.2.2.1.2.2])), (a10, .inr (1, [.int v0.1.2.2.2.1.1, .int v0.1.2.2.2.1.2.1, .int v0.1.2.2.2.1.2.2.1, .int v0.1.2.2.2.1.2.2.2.1, .int v0.1.2.2.2.1.2.2.2.2.1, .int v0.1.2.2.2.1.2.2.2.2.2])), (a11, .inr (3, [.ref a12, .int v0.1.2.2.2.2.1.2.1, .int v0.1.2.2.2.2.1.2.2.1, .int v0.1.2.2.2.2.1.2.2.2.1, .int v0.1.2.2.2.2.1.2.2.2.2.1, .int v0.1.2.2.2.2.1.2.2.2.2.2.1, .int v0.1.2.2.2.2.1.2.2.2.2.2.2])), (a12, .inr (4, [.ref a13, .int v0.1.2.2.2.2.1.1.2.1, .int v0.1.2.2.2.2.1.1.2.2])), (a13, .inl (ca 0, 512, .inl v0.1.2.2.2.2.1.1.1)), (a14, .inr (4, [.ref a15, .int v0.1.2.2.2.2.2.1.2.1, .int v0.1.2.2.2.2.2.1.2.2])), (a15, .inl (ca 0, 512, .inl v0.1.2.2.2.2.2.1.1)), (a16, .inr (6, [.ref a17, .ref a18, .int v0.1.2.2.2.2.2.2.1.2.2])), (a17, .inl (ca 0, 15, .inl v0.1.2.2.2.2.2.2.1.1)), (a18, .inl (ca 0, 15, .inl v0.1.2.2.2.2.2.2.1.2.1)), (a19, .inr (9, [.ref a20, .int v0.1.2.2.2.2.2.2.2.1.2.1, .int v0.1.2.2.2.2.2.2.2.1.2.2.1, .int v0.1.2.2.2.2.2.2.2.1.2.2.2])), (a20, .inl (ca 0, 300, .inl v0.1.2.2.2.2.2.2.2.1.1)), (a52, .inr (2, [.ref a53, .int v0.2.2.2.2.2.1.2.1, .int v0.2.2.2.2.2.1.2.2.1, .int v0.2.2.2.2.2.1.2.2.2.1, .int v0.2.2.2.2.2.1.2.2.2.2])), (a53, .inl (ca 1, 17, .inr (.inl v0.2.2.2.2.2.1.1)))] sz)) 0 0 (va_A [(a0, .inr (11, [.ref a1, .ref a21, .ref a41, .ref a42, .ref a49, .ref a52, .ref a54, .ref a55])), (a1, .inr (10, [.ref a2, .ref a7, .ref a9, .ref a10, .ref a11, .ref a14, .ref a16, .ref a19, .int v0.1.2.2.2.2.2.2.2.2.1, .int v0.1.2.2.2.2.2.2.2.2.2.1, .int v0.1.2.2.2.2.2.2.2.2.2.2.1, .int v0.1.2.2.2.2.2.2.2.2.2.2.2.1, .int v0.1.2.2.2.2.2.2.2.2.2.2.2.2.1, .int v0.1.2.2.2.2.2.2.2.2.2.2.2.2.2])), (a2, .inr (7, [.ref a3, .ref a4, .ref a5, .ref a6, .int v0.1.1.2.2.2.2])), (a3, .inl (ca 0, 9, .inl v0.1.1.1)), (a4, .inl (ca 0, 4, .inl v0.1.1.2.1)), (a5, .inl (ca 0, 4, .inl v0.1.1.2.2.1)), (a6, .inl (ca 0, 4, .inl v0.1.1.2.2.2.1)), (a7, .inr (2, [.ref a8, .int v0.1.2.1.2.1, .int v0.1.2.1.2.2.1, .int v0.1.2.1.2.2.2.1, .int v0.1.2.1.2.2.2.2])), (a8, .inl (ca 1, 17, .inr (.inl v0.1.2.1.1))), (a9, .inr (8, [.int v0.1.2.2.1.1, .int v0.1.2.2.1.2.1, .int v0.1.2.2.1.2.2])), (a10, .inr (1, [.int v0.1.2.2.2.1.1, .int v0.1.2.2.2.1.2.1, .int v0.1.2.2.2.1.2.2.1, .int v0.1.2.2.2.1.2.2.2.1, .int v0.1.2.2.2.1.2.2.2.2.1, .int v0.1.2.2.2.1.2.2.2.2.2])), (a11, .inr (3, [.ref a12, .int v0.1.2.2.2.2.1.2.1, .int v0.1.2.2.2.2.1.2.2.1, .int v0.1.2.2.2.2.1.2.2.2.1, .int v0.1.2.2.2.2.1.2.2.2.2.1, .int v0.1.2.2.2.2.1.2.2.2.2.2.1, .int v0.1.2.2.2.2.1.2.2.2.2.2.2])), (a12, .inr (4, [.ref a13, .int v0.1.2.2.2.2.1.1.2.1, .int v0.1.2.2.2.2.1.1.2.2])), (a13, .inl (ca 0, 512, .inl v0.1.2.2.2.2.1.1.1)), (a14, .inr (4, [.ref a15, .int v0.1.2.2.2.2.2.1.2.1, .int v0.1.2.2.2.2.2.1.2.2])), (a15, .inl (ca 0, 512, .inl v0.1.2.2.2.2.2.1.1)), (a16, .inr (6, [.ref a17, .ref a18, .int v0.1.2.2.2.2.2.2.1.2.2])), (a17, .inl (ca 0, 15, .inl v0.1.2.2.2.2.2.2.1.1)), (a18, .inl (ca 0, 15, .inl v0.1.2.2.2.2.2.2.1.2.1)), (a19, .inr (9, [.ref a20, .int v0.1.2.2.2.2.2.2.2.1.2.1, .int v0.1.2.2.2.2.2.2.2.1.2.2.1, .int v0.1.2.2.2.2.2.2.2.1.2.2.2])), (a20, .inl (ca 0, 300, .inl v0.1.2.2.2.2.2.2.2.1.1)), (a52, .inr (2, [.ref a53, .int v0.2.2.2.2.2.1.2.1, .int v0.2.2.2.2.2.1.2.2.1, .int v0.2.2.2.2.2.1.2.2.2.1, .int v0.2.2.2.2.2.1.2.2.2.2])), (a53, .inl (ca 1, 17, .inr (.inl v0.2.2.2.2.2.1.1)))] sz) := by
  refine en (y := yX11_compared) (wsm := wq_X11_compared) (av := [.ref a0, .int p1]) (cc := cX11_compared) (maxL := 2) (ret := (some .int)) (Qf := fun A => (QI D ca r [(a0, .inr (11, [.ref a1, .ref a21, .ref a41, .ref a42, .ref a49, .ref a52, .ref a54, .ref a55])), (a1, .inr (10, [.ref a2, .ref a7, .ref a9, .ref a10, .ref a11, .ref a14, .ref a16, .ref a19, .int v0'.1.2.2.2.2.2.2.2.2.1, .int v0'.1.2.2.2.2.2.2.2.2.2.1, .int v0'.1.2.2.2.2.2.2.2.2.2.2.1, .int v0'.1.2.2.2.2.2.2.2.2.2.2.2.1, .int v0'.1.2.2.2.2.2.2.2.2.2.2.2.2.1, .int v0'.1.2.2.2.2.2.2.2.2.2.2.2.2.2])), (a2, .inr (7, [.ref a3, .ref a4, .ref a5, .ref a6, .int v0'.1.1.2.2.2.2])), (a3, .inl (ca 0, 9, .inl v0'.1.1.1)), (a4, .inl (ca 0, 4, .inl v0'.1.1.2.1)), (a5, .inl (ca 0, 4, .inl v0'.1.1.2.2.1)), (a6, .inl (ca 0, 4, .inl v0'.1.1.2.2.2.1)), (a7, .inr (2, [.ref a8, .int v0'.1.2.1.2.1, .int v0'.1.2.1.2.2.1, .int v0'.1.2.1.2.2.2.1, .int v0'.1.2.1.2.2.2.2])), (a8, .inl (ca 1, 17, .inr (.inl v0'.1.2.1.1))), (a9, .inr (8, [.int v0'.1.2.2.1.1, .int v0'.1.2.2.1.2.1, .int v0'.1.2.2.1.2.2])), (a10, .inr (1, [.int v0'.1.2.2.2.1.1, .int v0'.1.2.2.2.1.2.1, .int v0'.1.2.2.2.1.2.2.1, .int v0'.1.2.2.2.1.2.2.2.1, .int v0'.1.2.2.2.1.2.2.2.2.1, .int v0'.1.2.2.2.1.2.2.2.2.2])), (a11, .inr (3, [.ref a12, .int v0'.1.2.2.2.2.1.2.1, .int v0'.1.2.2.2.2.1.2.2.1, .int v0'.1.2.2.2.2.1.2.2.2.1, .int v0'.1.2.2.2.2.1.2.2.2.2.1, .int v0'.1.2.2.2.2.1.2.2.2.2.2.1, .int v0'.1.2.2.2.2.1.2.2.2.2.2.2])), (a12, .inr (4, [.ref a13, .int v0'.1.2.2.2.2.1.1.2.1, .int v0'.1.2.2.2.2.1.1.2.2])), (a13, .inl (ca 0, 512, .inl v0'.1.2.2.2.2.1.1.1)), (a14, .inr (4, [.ref a15, .int v0'.1.2.2.2.2.2.1.2.1, .int v0'.1.2.2.2.2.2.1.2.2])), (a15, .inl (ca 0, 512, .inl v0'.1.2.2.2.2.2.1.1)), (a16, .inr (6, [.ref a17, .ref a18, .int v0'.1.2.2.2.2.2.2.1.2.2])), (a17, .inl (ca 0, 15, .inl v0'.1.2.2.2.2.2.2.1.1)), (a18, .inl (ca 0, 15, .inl v0'.1.2.2.2.2.2.2.1.2.1)), (a19, .inr (9, [.ref a20, .int v0'.1.2.2.2.2.2.2.2.1.2.1, .int v0'.1.2.2.2.2.2.2.2.1.2.2.1, .int v0'.1.2.2.2.2.2.2.2.1.2.2.2])), (a20, .inl (ca 0, 300, .inl v0'.1.2.2.2.2.2.2.2.1.1)), (a52, .inr (2, [.ref a53, .int v0'.2.2.2.2.2.1.2.1, .int v0'.2.2.2.2.2.1.2.2.1, .int v0'.2.2.2.2.2.1.2.2.2.1, .int v0'.2.2.2.2.2.1.2.2.2.2])), (a53, .inl (ca 1, 17, .inr (.inl v0'.2.2.2.2.2.1.1)))] A)) (by decide) rfl (Nat.le_of_ble_eq_true rfl) ?_
  intro p e s m args below meth c A Q ls hx hb hr hml hown hts hlocks hnm hA hN hZ hK hQ hP hD hS hl
  have w0 := hts _ (List.mem_cons_of_mem _ gw_2_187)
  have nw38 := NW.use (args := args) (w := .fieldLinkNest RX11 181 "NoiseWatch$Watch" "rows" "LNoiseWatch$Rows;" "NoiseWatch") hN 38 rfl
  have i10 : ∀ w ∈ u_ws RX10 TX10 14, w ∈ wq_X11_compared := fun w h => List.mem_cons_of_mem _ (inX10 w h)
  have i11 : ∀ w ∈ u_ws RX11 TX11 8, w ∈ wq_X11_compared := fun w h => List.mem_cons_of_mem _ (inX11 w h)
  unfold f_X11_compared at hf
  refine lv_iload_n hx hb dX11_compared_0 rfl (lv_at hl 1 rfl) ?_
  by_cases hcs : p1 < (0 : Int32) ∨ (4 : Int32) < p1
  · have hf := ite_t hcs hf
    refine xtabO (tgt := 111) hx hb dX11_compared_1 (a := 0) (b := 4) rfl rfl hcs (by decide) ?_
    refine lv_iconst (v := -1) hx hb dX11_compared_111 rfl ?_
    have he := Option.some.inj hf
    obtain ⟨e_r, he⟩ := Prod.mk.inj he
    have e_v0 := he
    refine rt_I hx hb hr hlocks hK hP hD hS hQ e_r ?_ dX11_compared_112
    simp only [← e_v0]
  · have hf := ite_f hcs hf
    by_cases hc0 : p1 = (0 : Int32)
    · have hf := ite_t hc0 hf
      refine xtabK (tgt := 36) hx hb dX11_compared_1 hc0 (by decide) (by decide) rfl (by decide) ?_
      refine lv_aload_n hx hb dX11_compared_36 rfl (lv_at hl 0 rfl) ?_
      refine va_get (C := RX11) (T := TX11) (N := 8) hx hb hts i11 hown hK hP 0 rfl rfl 0 (Nat.le_of_ble_eq_true rfl) w0 (fun _ h9 => h9) rfl dX11_compared_37 ?_
      refine va_getN (C := RX10) (T := TX10) (N := 14) hx hb hts i10 hown hK hP 1 rfl rfl 6 (Nat.le_of_ble_eq_true rfl) nw38 (fun _ h9 => h9) rfl dX11_compared_40 ?_
      obtain ⟨r_1, hc1, hf⟩ := bnd1_el hf
      refine xV_I (As := []) (wx := [(a0, .inr (11, [.ref a1, .ref a21, .ref a41, .ref a42, .ref a49, .ref a52, .ref a54, .ref a55])), (a1, .inr (10, [.ref a2, .ref a7, .ref a9, .ref a10, .ref a11, .ref a14, .ref a16, .ref a19, .int v0.1.2.2.2.2.2.2.2.2.1, .int v0.1.2.2.2.2.2.2.2.2.2.1, .int v0.1.2.2.2.2.2.2.2.2.2.2.1, .int v0.1.2.2.2.2.2.2.2.2.2.2.2.1, .int v0.1.2.2.2.2.2.2.2.2.2.2.2.2.1, .int v0.1.2.2.2.2.2.2.2.2.2.2.2.2.2])), (a2, .inr (7, [.ref a3, .ref a4, .ref a5, .ref a6, .int v0.1.1.2.2.2.2])), (a3, .inl (ca 0, 9, .inl v0.1.1.1)), (a4, .inl (ca 0, 4, .inl v0.1.1.2.1)), (a5, .inl (ca 0, 4, .inl v0.1.1.2.2.1)), (a6, .inl (ca 0, 4, .inl v0.1.1.2.2.2.1)), (a7, .inr (2, [.ref a8, .int v0.1.2.1.2.1, .int v0.1.2.1.2.2.1, .int v0.1.2.1.2.2.2.1, .int v0.1.2.1.2.2.2.2])), (a8, .inl (ca 1, 17, .inr (.inl v0.1.2.1.1))), (a9, .inr (8, [.int v0.1.2.2.1.1, .int v0.1.2.2.1.2.1, .int v0.1.2.2.1.2.2])), (a10, .inr (1, [.int v0.1.2.2.2.1.1, .int v0.1.2.2.2.1.2.1, .int v0.1.2.2.2.1.2.2.1, .int v0.1.2.2.2.1.2.2.2.1, .int v0.1.2.2.2.1.2.2.2.2.1, .int v0.1.2.2.2.1.2.2.2.2.2])), (a11, .inr (3, [.ref a12, .int v0.1.2.2.2.2.1.2.1, .int v0.1.2.2.2.2.1.2.2.1, .int v0.1.2.2.2.2.1.2.2.2.1, .int v0.1.2.2.2.2.1.2.2.2.2.1, .int v0.1.2.2.2.2.1.2.2.2.2.2.1, .int v0.1.2.2.2.2.1.2.2.2.2.2.2])), (a12, .inr (4, [.ref a13, .int v0.1.2.2.2.2.1.1.2.1, .int v0.1.2.2.2.2.1.1.2.2])), (a13, .inl (ca 0, 512, .inl v0.1.2.2.2.2.1.1.1)), (a14, .inr (4, [.ref a15, .int v0.1.2.2.2.2.2.1.2.1, .int v0.1.2.2.2.2.2.1.2.2])), (a15, .inl (ca 0, 512, .inl v0.1.2.2.2.2.2.1.1)), (a16, .inr (6, [.ref a17, .ref a18, .int v0.1.2.2.2.2.2.2.1.2.2])), (a17, .inl (ca 0, 15, .inl v0.1.2.2.2.2.2.2.1.1)), (a18, .inl (ca 0, 15, .inl v0.1.2.2.2.2.2.2.1.2.1)), (a19, .inr (9, [.ref a20, .int v0.1.2.2.2.2.2.2.2.1.2.1, .int v0.1.2.2.2.2.2.2.2.1.2.2.1, .int v0.1.2.2.2.2.2.2.2.1.2.2.2])), (a20, .inl (ca 0, 300, .inl v0.1.2.2.2.2.2.2.2.1.1)), (a52, .inr (2, [.ref a53, .int v0.2.2.2.2.2.1.2.1, .int v0.2.2.2.2.2.1.2.2.1, .int v0.2.2.2.2.2.1.2.2.2.1, .int v0.2.2.2.2.2.1.2.2.2.2])), (a53, .inl (ca 1, 17, .inr (.inl v0.2.2.2.2.2.1.1)))]) ⟨hx, hb, hml, hown, hts⟩ (c_X6_full l D ca zz a16 a17 a18 _ v0.1.2.2.2.2.2.2.1 r_1 hc1) (cwV 0 hts (gV gw_4_137 gw_4_138 gw_4_139 gw_1_9 gw_4_140) rfl rfl rfl (by decide +kernel) ⟨(Nat.le_of_ble_eq_true rfl), (Nat.le_of_ble_eq_true rfl)⟩) hK hN hZ hA hP hD hS [16, 18] [none, none, none, none, none, none, none, none, none, none, none, none, none, none, none, none, some 0, none, some 1, none, none, none, none] (by decide +kernel) rfl rfl rfl rfl 16 rfl rfl hl.1 rfl (Nat.le_of_ble_eq_true rfl) dX11_compared_43 ⟨Nat.zero_le _, Nat.zero_le _⟩ rfl (fun H locs hP hD hS => ?_)
      have he := Option.some.inj hf
      obtain ⟨e_r, he⟩ := Prod.mk.inj he
      have e_v0 := he
      refine rt_I hx hb hr hlocks hK hP hD hS hQ e_r ?_ dX11_compared_46
      simp only [← e_v0]
    have hf := ite_f hc0 hf
    by_cases hc1 : p1 = (1 : Int32)
    · have hf := ite_t hc1 hf
      refine xtabK (tgt := 47) hx hb dX11_compared_1 hc1 (by decide) (by decide) rfl (by decide) ?_
      refine lv_aload_n hx hb dX11_compared_47 rfl (lv_at hl 0 rfl) ?_
      refine va_get (C := RX11) (T := TX11) (N := 8) hx hb hts i11 hown hK hP 0 rfl rfl 0 (Nat.le_of_ble_eq_true rfl) w0 (fun _ h9 => h9) rfl dX11_compared_48 ?_
      refine va_getN (C := RX10) (T := TX10) (N := 14) hx hb hts i10 hown hK hP 1 rfl rfl 6 (Nat.le_of_ble_eq_true rfl) nw38 (fun _ h9 => h9) rfl dX11_compared_51 ?_
      obtain ⟨r_2, hc2, hf⟩ := bnd1_el hf
      refine xV_I (As := []) (wx := [(a0, .inr (11, [.ref a1, .ref a21, .ref a41, .ref a42, .ref a49, .ref a52, .ref a54, .ref a55])), (a1, .inr (10, [.ref a2, .ref a7, .ref a9, .ref a10, .ref a11, .ref a14, .ref a16, .ref a19, .int v0.1.2.2.2.2.2.2.2.2.1, .int v0.1.2.2.2.2.2.2.2.2.2.1, .int v0.1.2.2.2.2.2.2.2.2.2.2.1, .int v0.1.2.2.2.2.2.2.2.2.2.2.2.1, .int v0.1.2.2.2.2.2.2.2.2.2.2.2.2.1, .int v0.1.2.2.2.2.2.2.2.2.2.2.2.2.2])), (a2, .inr (7, [.ref a3, .ref a4, .ref a5, .ref a6, .int v0.1.1.2.2.2.2])), (a3, .inl (ca 0, 9, .inl v0.1.1.1)), (a4, .inl (ca 0, 4, .inl v0.1.1.2.1)), (a5, .inl (ca 0, 4, .inl v0.1.1.2.2.1)), (a6, .inl (ca 0, 4, .inl v0.1.1.2.2.2.1)), (a7, .inr (2, [.ref a8, .int v0.1.2.1.2.1, .int v0.1.2.1.2.2.1, .int v0.1.2.1.2.2.2.1, .int v0.1.2.1.2.2.2.2])), (a8, .inl (ca 1, 17, .inr (.inl v0.1.2.1.1))), (a9, .inr (8, [.int v0.1.2.2.1.1, .int v0.1.2.2.1.2.1, .int v0.1.2.2.1.2.2])), (a10, .inr (1, [.int v0.1.2.2.2.1.1, .int v0.1.2.2.2.1.2.1, .int v0.1.2.2.2.1.2.2.1, .int v0.1.2.2.2.1.2.2.2.1, .int v0.1.2.2.2.1.2.2.2.2.1, .int v0.1.2.2.2.1.2.2.2.2.2])), (a11, .inr (3, [.ref a12, .int v0.1.2.2.2.2.1.2.1, .int v0.1.2.2.2.2.1.2.2.1, .int v0.1.2.2.2.2.1.2.2.2.1, .int v0.1.2.2.2.2.1.2.2.2.2.1, .int v0.1.2.2.2.2.1.2.2.2.2.2.1, .int v0.1.2.2.2.2.1.2.2.2.2.2.2])), (a12, .inr (4, [.ref a13, .int v0.1.2.2.2.2.1.1.2.1, .int v0.1.2.2.2.2.1.1.2.2])), (a13, .inl (ca 0, 512, .inl v0.1.2.2.2.2.1.1.1)), (a14, .inr (4, [.ref a15, .int v0.1.2.2.2.2.2.1.2.1, .int v0.1.2.2.2.2.2.1.2.2])), (a15, .inl (ca 0, 512, .inl v0.1.2.2.2.2.2.1.1)), (a16, .inr (6, [.ref a17, .ref a18, .int v0.1.2.2.2.2.2.2.1.2.2])), (a17, .inl (ca 0, 15, .inl v0.1.2.2.2.2.2.2.1.1)), (a18, .inl (ca 0, 15, .inl v0.1.2.2.2.2.2.2.1.2.1)), (a19, .inr (9, [.ref a20, .int v0.1.2.2.2.2.2.2.2.1.2.1, .int v0.1.2.2.2.2.2.2.2.1.2.2.1, .int v0.1.2.2.2.2.2.2.2.1.2.2.2])), (a20, .inl (ca 0, 300, .inl v0.1.2.2.2.2.2.2.2.1.1)), (a52, .inr (2, [.ref a53, .int v0.2.2.2.2.2.1.2.1, .int v0.2.2.2.2.2.1.2.2.1, .int v0.2.2.2.2.2.1.2.2.2.1, .int v0.2.2.2.2.2.1.2.2.2.2])), (a53, .inl (ca 1, 17, .inr (.inl v0.2.2.2.2.2.1.1)))]) ⟨hx, hb, hml, hown, hts⟩ (c_X6_greatestRow l D ca zz a16 a17 a18 _ v0.1.2.2.2.2.2.2.1 r_2 hc2) (cwV 0 hts (gV gw_4_146 gw_4_147 gw_4_148 gw_1_9 gw_4_149) rfl rfl rfl (by decide +kernel) ⟨(Nat.le_of_ble_eq_true rfl), (Nat.le_of_ble_eq_true rfl)⟩) hK hN hZ hA hP hD hS [16, 17, 18] [none, none, none, none, none, none, none, none, none, none, none, none, none, none, none, none, some 0, some 1, some 2, none, none, none, none] (by decide +kernel) rfl rfl rfl rfl 16 rfl rfl hl.1 rfl (Nat.le_of_ble_eq_true rfl) dX11_compared_54 ⟨Nat.zero_le _, Nat.zero_le _⟩ rfl (fun H locs hP hD hS => ?_)
      have he := Option.some.inj hf
      obtain ⟨e_r, he⟩ := Prod.mk.inj he
      have e_v0 := he
      refine rt_I hx hb hr hlocks hK hP hD hS hQ e_r ?_ dX11_compared_57
      simp only [← e_v0]
    have hf := ite_f hc1 hf
    by_cases hc2 : p1 = (2 : Int32)
    · have hf := ite_t hc2 hf
      refine xtabK (tgt := 58) hx hb dX11_compared_1 hc2 (by decide) (by decide) rfl (by decide) ?_
      refine lv_aload_n hx hb dX11_compared_58 rfl (lv_at hl 0 rfl) ?_
      refine va_get (C := RX11) (T := TX11) (N := 8) hx hb hts i11 hown hK hP 0 rfl rfl 0 (Nat.le_of_ble_eq_true rfl) w0 (fun _ h9 => h9) rfl dX11_compared_59 ?_
      refine va_getN (C := RX10) (T := TX10) (N := 14) hx hb hts i10 hown hK hP 1 rfl rfl 6 (Nat.le_of_ble_eq_true rfl) nw38 (fun _ h9 => h9) rfl dX11_compared_62 ?_
      obtain ⟨r_3, hc3, hf⟩ := bnd1_el hf
      refine xV_I (As := []) (wx := [(a0, .inr (11, [.ref a1, .ref a21, .ref a41, .ref a42, .ref a49, .ref a52, .ref a54, .ref a55])), (a1, .inr (10, [.ref a2, .ref a7, .ref a9, .ref a10, .ref a11, .ref a14, .ref a16, .ref a19, .int v0.1.2.2.2.2.2.2.2.2.1, .int v0.1.2.2.2.2.2.2.2.2.2.1, .int v0.1.2.2.2.2.2.2.2.2.2.2.1, .int v0.1.2.2.2.2.2.2.2.2.2.2.2.1, .int v0.1.2.2.2.2.2.2.2.2.2.2.2.2.1, .int v0.1.2.2.2.2.2.2.2.2.2.2.2.2.2])), (a2, .inr (7, [.ref a3, .ref a4, .ref a5, .ref a6, .int v0.1.1.2.2.2.2])), (a3, .inl (ca 0, 9, .inl v0.1.1.1)), (a4, .inl (ca 0, 4, .inl v0.1.1.2.1)), (a5, .inl (ca 0, 4, .inl v0.1.1.2.2.1)), (a6, .inl (ca 0, 4, .inl v0.1.1.2.2.2.1)), (a7, .inr (2, [.ref a8, .int v0.1.2.1.2.1, .int v0.1.2.1.2.2.1, .int v0.1.2.1.2.2.2.1, .int v0.1.2.1.2.2.2.2])), (a8, .inl (ca 1, 17, .inr (.inl v0.1.2.1.1))), (a9, .inr (8, [.int v0.1.2.2.1.1, .int v0.1.2.2.1.2.1, .int v0.1.2.2.1.2.2])), (a10, .inr (1, [.int v0.1.2.2.2.1.1, .int v0.1.2.2.2.1.2.1, .int v0.1.2.2.2.1.2.2.1, .int v0.1.2.2.2.1.2.2.2.1, .int v0.1.2.2.2.1.2.2.2.2.1, .int v0.1.2.2.2.1.2.2.2.2.2])), (a11, .inr (3, [.ref a12, .int v0.1.2.2.2.2.1.2.1, .int v0.1.2.2.2.2.1.2.2.1, .int v0.1.2.2.2.2.1.2.2.2.1, .int v0.1.2.2.2.2.1.2.2.2.2.1, .int v0.1.2.2.2.2.1.2.2.2.2.2.1, .int v0.1.2.2.2.2.1.2.2.2.2.2.2])), (a12, .inr (4, [.ref a13, .int v0.1.2.2.2.2.1.1.2.1, .int v0.1.2.2.2.2.1.1.2.2])), (a13, .inl (ca 0, 512, .inl v0.1.2.2.2.2.1.1.1)), (a14, .inr (4, [.ref a15, .int v0.1.2.2.2.2.2.1.2.1, .int v0.1.2.2.2.2.2.1.2.2])), (a15, .inl (ca 0, 512, .inl v0.1.2.2.2.2.2.1.1)), (a16, .inr (6, [.ref a17, .ref a18, .int v0.1.2.2.2.2.2.2.1.2.2])), (a17, .inl (ca 0, 15, .inl v0.1.2.2.2.2.2.2.1.1)), (a18, .inl (ca 0, 15, .inl v0.1.2.2.2.2.2.2.1.2.1)), (a19, .inr (9, [.ref a20, .int v0.1.2.2.2.2.2.2.2.1.2.1, .int v0.1.2.2.2.2.2.2.2.1.2.2.1, .int v0.1.2.2.2.2.2.2.2.1.2.2.2])), (a20, .inl (ca 0, 300, .inl v0.1.2.2.2.2.2.2.2.1.1)), (a52, .inr (2, [.ref a53, .int v0.2.2.2.2.2.1.2.1, .int v0.2.2.2.2.2.1.2.2.1, .int v0.2.2.2.2.2.1.2.2.2.1, .int v0.2.2.2.2.2.1.2.2.2.2])), (a53, .inl (ca 1, 17, .inr (.inl v0.2.2.2.2.2.1.1)))]) ⟨hx, hb, hml, hown, hts⟩ (c_X6_greatestColumn l D ca zz a16 a17 a18 _ v0.1.2.2.2.2.2.2.1 r_3 hc3) (cwV 0 hts (gV gw_4_161 gw_4_162 gw_4_163 gw_1_9 gw_4_164) rfl rfl rfl (by decide +kernel) ⟨(Nat.le_of_ble_eq_true rfl), (Nat.le_of_ble_eq_true rfl)⟩) hK hN hZ hA hP hD hS [16, 17, 18] [none, none, none, none, none, none, none, none, none, none, none, none, none, none, none, none, some 0, some 1, some 2, none, none, none, none] (by decide +kernel) rfl rfl rfl rfl 16 rfl rfl hl.1 rfl (Nat.le_of_ble_eq_true rfl) dX11_compared_65 ⟨Nat.zero_le _, Nat.zero_le _⟩ rfl (fun H locs hP hD hS => ?_)
      have he := Option.some.inj hf
      obtain ⟨e_r, he⟩ := Prod.mk.inj he
      have e_v0 := he
      refine rt_I hx hb hr hlocks hK hP hD hS hQ e_r ?_ dX11_compared_68
      simp only [← e_v0]
    have hf := ite_f hc2 hf
    by_cases hc3 : p1 = (3 : Int32)
    · have hf := ite_t hc3 hf
      refine xtabK (tgt := 69) hx hb dX11_compared_1 hc3 (by decide) (by decide) rfl (by decide) ?_
      refine lv_aload_n hx hb dX11_compared_69 rfl (lv_at hl 0 rfl) ?_
      refine va_get (C := RX11) (T := TX11) (N := 8) hx hb hts i11 hown hK hP 0 rfl rfl 0 (Nat.le_of_ble_eq_true rfl) w0 (fun _ h9 => h9) rfl dX11_compared_70 ?_
      refine va_getN (C := RX10) (T := TX10) (N := 14) hx hb hts i10 hown hK hP 1 rfl rfl 6 (Nat.le_of_ble_eq_true rfl) nw38 (fun _ h9 => h9) rfl dX11_compared_73 ?_
      refine lv_aload_n hx hb dX11_compared_76 rfl (lv_at hl 0 rfl) ?_
      refine lv_bipush (v := 15) hx hb dX11_compared_77 rfl ?_
      obtain ⟨r_4, u_5, hc5, hf⟩ := bnd2_el hf
      refine xV_I (As := [.int (15 : Int32)]) (wx := [(a0, .inr (11, [.ref a1, .ref a21, .ref a41, .ref a42, .ref a49, .ref a52, .ref a54, .ref a55])), (a1, .inr (10, [.ref a2, .ref a7, .ref a9, .ref a10, .ref a11, .ref a14, .ref a16, .ref a19, .int u_5.1.2.2.2.2.2.2.2.2.1, .int u_5.1.2.2.2.2.2.2.2.2.2.1, .int u_5.1.2.2.2.2.2.2.2.2.2.2.1, .int u_5.1.2.2.2.2.2.2.2.2.2.2.2.1, .int u_5.1.2.2.2.2.2.2.2.2.2.2.2.2.1, .int u_5.1.2.2.2.2.2.2.2.2.2.2.2.2.2])), (a2, .inr (7, [.ref a3, .ref a4, .ref a5, .ref a6, .int u_5.1.1.2.2.2.2])), (a3, .inl (ca 0, 9, .inl u_5.1.1.1)), (a4, .inl (ca 0, 4, .inl u_5.1.1.2.1)), (a5, .inl (ca 0, 4, .inl u_5.1.1.2.2.1)), (a6, .inl (ca 0, 4, .inl u_5.1.1.2.2.2.1)), (a7, .inr (2, [.ref a8, .int u_5.1.2.1.2.1, .int u_5.1.2.1.2.2.1, .int u_5.1.2.1.2.2.2.1, .int u_5.1.2.1.2.2.2.2])), (a8, .inl (ca 1, 17, .inr (.inl u_5.1.2.1.1))), (a9, .inr (8, [.int u_5.1.2.2.1.1, .int u_5.1.2.2.1.2.1, .int u_5.1.2.2.1.2.2])), (a10, .inr (1, [.int u_5.1.2.2.2.1.1, .int u_5.1.2.2.2.1.2.1, .int u_5.1.2.2.2.1.2.2.1, .int u_5.1.2.2.2.1.2.2.2.1, .int u_5.1.2.2.2.1.2.2.2.2.1, .int u_5.1.2.2.2.1.2.2.2.2.2])), (a11, .inr (3, [.ref a12, .int u_5.1.2.2.2.2.1.2.1, .int u_5.1.2.2.2.2.1.2.2.1, .int u_5.1.2.2.2.2.1.2.2.2.1, .int u_5.1.2.2.2.2.1.2.2.2.2.1, .int u_5.1.2.2.2.2.1.2.2.2.2.2.1, .int u_5.1.2.2.2.2.1.2.2.2.2.2.2])), (a12, .inr (4, [.ref a13, .int u_5.1.2.2.2.2.1.1.2.1, .int u_5.1.2.2.2.2.1.1.2.2])), (a13, .inl (ca 0, 512, .inl u_5.1.2.2.2.2.1.1.1)), (a14, .inr (4, [.ref a15, .int u_5.1.2.2.2.2.2.1.2.1, .int u_5.1.2.2.2.2.2.1.2.2])), (a15, .inl (ca 0, 512, .inl u_5.1.2.2.2.2.2.1.1)), (a16, .inr (6, [.ref a17, .ref a18, .int u_5.1.2.2.2.2.2.2.1.2.2])), (a17, .inl (ca 0, 15, .inl u_5.1.2.2.2.2.2.2.1.1)), (a18, .inl (ca 0, 15, .inl u_5.1.2.2.2.2.2.2.1.2.1)), (a19, .inr (9, [.ref a20, .int u_5.1.2.2.2.2.2.2.2.1.2.1, .int u_5.1.2.2.2.2.2.2.2.1.2.2.1, .int u_5.1.2.2.2.2.2.2.2.1.2.2.2])), (a20, .inl (ca 0, 300, .inl u_5.1.2.2.2.2.2.2.2.1.1)), (a52, .inr (2, [.ref a53, .int u_5.2.2.2.2.2.1.2.1, .int u_5.2.2.2.2.2.1.2.2.1, .int u_5.2.2.2.2.2.1.2.2.2.1, .int u_5.2.2.2.2.2.1.2.2.2.2])), (a53, .inl (ca 1, 17, .inr (.inl u_5.2.2.2.2.2.1.1)))]) ⟨hx, hb, hml, hown, hts⟩ (c_X11_rowsOf l D ca zz a0 a1 a2 a3 a4 a5 a6 a7 a8 a9 a10 a11 a12 a13 a14 a15 a16 a17 a18 a19 a20 a21 a41 a42 a49 a52 a53 a54 a55 _ v0 (15 : Int32) r_4 u_5 hc5) (cwV 1 hts (gV gw_4_170 gw_4_172 gw_s_2_6 gw_1_1 gw_4_173) rfl rfl rfl (by decide +kernel) ⟨(Nat.le_of_ble_eq_true rfl), (Nat.le_of_ble_eq_true rfl)⟩) hK hN hZ hA hP hD hS [0, 1, 2, 3, 4, 5, 6, 7, 8, 9, 10, 11, 12, 13, 14, 15, 16, 17, 18, 19, 20, 21, 22] [some 0, some 1, some 2, some 3, some 4, some 5, some 6, some 7, some 8, some 9, some 10, some 11, some 12, some 13, some 14, some 15, some 16, some 17, some 18, some 19, some 20, some 21, some 22] (by decide +kernel) rfl rfl rfl rfl 0 rfl rfl hl.1 rfl (Nat.le_of_ble_eq_true rfl) dX11_compared_79 ⟨Nat.zero_le _, Nat.zero_le _⟩ rfl (fun H locs hP hD hS => ?_)
      obtain ⟨r_6, hc6, hf⟩ := bnd1_el hf
      refine xV_I (As := [.int r_4]) (wx := [(a0, .inr (11, [.ref a1, .ref a21, .ref a41, .ref a42, .ref a49, .ref a52, .ref a54, .ref a55])), (a1, .inr (10, [.ref a2, .ref a7, .ref a9, .ref a10, .ref a11, .ref a14, .ref a16, .ref a19, .int u_5.1.2.2.2.2.2.2.2.2.1, .int u_5.1.2.2.2.2.2.2.2.2.2.1, .int u_5.1.2.2.2.2.2.2.2.2.2.2.1, .int u_5.1.2.2.2.2.2.2.2.2.2.2.2.1, .int u_5.1.2.2.2.2.2.2.2.2.2.2.2.2.1, .int u_5.1.2.2.2.2.2.2.2.2.2.2.2.2.2])), (a2, .inr (7, [.ref a3, .ref a4, .ref a5, .ref a6, .int u_5.1.1.2.2.2.2])), (a3, .inl (ca 0, 9, .inl u_5.1.1.1)), (a4, .inl (ca 0, 4, .inl u_5.1.1.2.1)), (a5, .inl (ca 0, 4, .inl u_5.1.1.2.2.1)), (a6, .inl (ca 0, 4, .inl u_5.1.1.2.2.2.1)), (a7, .inr (2, [.ref a8, .int u_5.1.2.1.2.1, .int u_5.1.2.1.2.2.1, .int u_5.1.2.1.2.2.2.1, .int u_5.1.2.1.2.2.2.2])), (a8, .inl (ca 1, 17, .inr (.inl u_5.1.2.1.1))), (a9, .inr (8, [.int u_5.1.2.2.1.1, .int u_5.1.2.2.1.2.1, .int u_5.1.2.2.1.2.2])), (a10, .inr (1, [.int u_5.1.2.2.2.1.1, .int u_5.1.2.2.2.1.2.1, .int u_5.1.2.2.2.1.2.2.1, .int u_5.1.2.2.2.1.2.2.2.1, .int u_5.1.2.2.2.1.2.2.2.2.1, .int u_5.1.2.2.2.1.2.2.2.2.2])), (a11, .inr (3, [.ref a12, .int u_5.1.2.2.2.2.1.2.1, .int u_5.1.2.2.2.2.1.2.2.1, .int u_5.1.2.2.2.2.1.2.2.2.1, .int u_5.1.2.2.2.2.1.2.2.2.2.1, .int u_5.1.2.2.2.2.1.2.2.2.2.2.1, .int u_5.1.2.2.2.2.1.2.2.2.2.2.2])), (a12, .inr (4, [.ref a13, .int u_5.1.2.2.2.2.1.1.2.1, .int u_5.1.2.2.2.2.1.1.2.2])), (a13, .inl (ca 0, 512, .inl u_5.1.2.2.2.2.1.1.1)), (a14, .inr (4, [.ref a15, .int u_5.1.2.2.2.2.2.1.2.1, .int u_5.1.2.2.2.2.2.1.2.2])), (a15, .inl (ca 0, 512, .inl u_5.1.2.2.2.2.2.1.1)), (a16, .inr (6, [.ref a17, .ref a18, .int u_5.1.2.2.2.2.2.2.1.2.2])), (a17, .inl (ca 0, 15, .inl u_5.1.2.2.2.2.2.2.1.1)), (a18, .inl (ca 0, 15, .inl u_5.1.2.2.2.2.2.2.1.2.1)), (a19, .inr (9, [.ref a20, .int u_5.1.2.2.2.2.2.2.2.1.2.1, .int u_5.1.2.2.2.2.2.2.2.1.2.2.1, .int u_5.1.2.2.2.2.2.2.2.1.2.2.2])), (a20, .inl (ca 0, 300, .inl u_5.1.2.2.2.2.2.2.2.1.1)), (a52, .inr (2, [.ref a53, .int u_5.2.2.2.2.2.1.2.1, .int u_5.2.2.2.2.2.1.2.2.1, .int u_5.2.2.2.2.2.1.2.2.2.1, .int u_5.2.2.2.2.2.1.2.2.2.2])), (a53, .inl (ca 1, 17, .inr (.inl u_5.2.2.2.2.2.1.1)))]) ⟨hx, hb, hml, hown, hts⟩ (c_X6_rowsAbove l D ca zz a16 a17 a18 _ u_5.1.2.2.2.2.2.2.1 r_4 r_6 hc6) (cwV 1 hts (gV gw_4_175 gw_4_176 gw_4_177 gw_1_9 gw_4_178) rfl rfl rfl (by decide +kernel) ⟨(Nat.le_of_ble_eq_true rfl), (Nat.le_of_ble_eq_true rfl)⟩) hK hN hZ hA hP hD hS [16, 17, 18] [none, none, none, none, none, none, none, none, none, none, none, none, none, none, none, none, some 0, some 1, some 2, none, none, none, none] (by decide +kernel) rfl rfl rfl rfl 16 rfl rfl hl.1 rfl (Nat.le_of_ble_eq_true rfl) dX11_compared_82 ⟨Nat.zero_le _, Nat.zero_le _⟩ rfl (fun H locs hP hD hS => ?_)
      have he := Option.some.inj hf
      obtain ⟨e_r, he⟩ := Prod.mk.inj he
      have e_v0 := he
      refine rt_I hx hb hr hlocks hK hP hD hS hQ e_r ?_ dX11_compared_85
      simp only [← e_v0]
    have hf := ite_f hc3 hf
    by_cases hc4 : p1 = (4 : Int32)
    · have hf := ite_t hc4 hf
      refine xtabK (tgt := 86) hx hb dX11_compared_1 hc4 (by decide) (by decide) rfl (by decide) ?_
      refine lv_aload_n hx hb dX11_compared_86 rfl (lv_at hl 0 rfl) ?_
      refine va_get (C := RX11) (T := TX11) (N := 8) hx hb hts i11 hown hK hP 0 rfl rfl 0 (Nat.le_of_ble_eq_true rfl) w0 (fun _ h9 => h9) rfl dX11_compared_87 ?_
      refine va_getN (C := RX10) (T := TX10) (N := 14) hx hb hts i10 hown hK hP 1 rfl rfl 6 (Nat.le_of_ble_eq_true rfl) nw38 (fun _ h9 => h9) rfl dX11_compared_90 ?_
      refine lv_aload_n hx hb dX11_compared_93 rfl (lv_at hl 0 rfl) ?_
      refine lv_aload_n hx hb dX11_compared_94 rfl (lv_at hl 0 rfl) ?_
      refine va_get (C := RX11) (T := TX11) (N := 8) hx hb hts i11 hown hK hP 0 rfl rfl 0 (Nat.le_of_ble_eq_true rfl) w0 (fun _ h9 => h9) rfl dX11_compared_95 ?_
      refine va_getN (C := RX10) (T := TX10) (N := 14) hx hb hts i10 hown hK hP 1 rfl rfl 6 (Nat.le_of_ble_eq_true rfl) nw38 (fun _ h9 => h9) rfl dX11_compared_98 ?_
      obtain ⟨r_7, hc7, hf⟩ := bnd1_el hf
      refine xV_I (As := []) (wx := [(a0, .inr (11, [.ref a1, .ref a21, .ref a41, .ref a42, .ref a49, .ref a52, .ref a54, .ref a55])), (a1, .inr (10, [.ref a2, .ref a7, .ref a9, .ref a10, .ref a11, .ref a14, .ref a16, .ref a19, .int v0.1.2.2.2.2.2.2.2.2.1, .int v0.1.2.2.2.2.2.2.2.2.2.1, .int v0.1.2.2.2.2.2.2.2.2.2.2.1, .int v0.1.2.2.2.2.2.2.2.2.2.2.2.1, .int v0.1.2.2.2.2.2.2.2.2.2.2.2.2.1, .int v0.1.2.2.2.2.2.2.2.2.2.2.2.2.2])), (a2, .inr (7, [.ref a3, .ref a4, .ref a5, .ref a6, .int v0.1.1.2.2.2.2])), (a3, .inl (ca 0, 9, .inl v0.1.1.1)), (a4, .inl (ca 0, 4, .inl v0.1.1.2.1)), (a5, .inl (ca 0, 4, .inl v0.1.1.2.2.1)), (a6, .inl (ca 0, 4, .inl v0.1.1.2.2.2.1)), (a7, .inr (2, [.ref a8, .int v0.1.2.1.2.1, .int v0.1.2.1.2.2.1, .int v0.1.2.1.2.2.2.1, .int v0.1.2.1.2.2.2.2])), (a8, .inl (ca 1, 17, .inr (.inl v0.1.2.1.1))), (a9, .inr (8, [.int v0.1.2.2.1.1, .int v0.1.2.2.1.2.1, .int v0.1.2.2.1.2.2])), (a10, .inr (1, [.int v0.1.2.2.2.1.1, .int v0.1.2.2.2.1.2.1, .int v0.1.2.2.2.1.2.2.1, .int v0.1.2.2.2.1.2.2.2.1, .int v0.1.2.2.2.1.2.2.2.2.1, .int v0.1.2.2.2.1.2.2.2.2.2])), (a11, .inr (3, [.ref a12, .int v0.1.2.2.2.2.1.2.1, .int v0.1.2.2.2.2.1.2.2.1, .int v0.1.2.2.2.2.1.2.2.2.1, .int v0.1.2.2.2.2.1.2.2.2.2.1, .int v0.1.2.2.2.2.1.2.2.2.2.2.1, .int v0.1.2.2.2.2.1.2.2.2.2.2.2])), (a12, .inr (4, [.ref a13, .int v0.1.2.2.2.2.1.1.2.1, .int v0.1.2.2.2.2.1.1.2.2])), (a13, .inl (ca 0, 512, .inl v0.1.2.2.2.2.1.1.1)), (a14, .inr (4, [.ref a15, .int v0.1.2.2.2.2.2.1.2.1, .int v0.1.2.2.2.2.2.1.2.2])), (a15, .inl (ca 0, 512, .inl v0.1.2.2.2.2.2.1.1)), (a16, .inr (6, [.ref a17, .ref a18, .int v0.1.2.2.2.2.2.2.1.2.2])), (a17, .inl (ca 0, 15, .inl v0.1.2.2.2.2.2.2.1.1)), (a18, .inl (ca 0, 15, .inl v0.1.2.2.2.2.2.2.1.2.1)), (a19, .inr (9, [.ref a20, .int v0.1.2.2.2.2.2.2.2.1.2.1, .int v0.1.2.2.2.2.2.2.2.1.2.2.1, .int v0.1.2.2.2.2.2.2.2.1.2.2.2])), (a20, .inl (ca 0, 300, .inl v0.1.2.2.2.2.2.2.2.1.1)), (a52, .inr (2, [.ref a53, .int v0.2.2.2.2.2.1.2.1, .int v0.2.2.2.2.2.1.2.2.1, .int v0.2.2.2.2.2.1.2.2.2.1, .int v0.2.2.2.2.2.1.2.2.2.2])), (a53, .inl (ca 1, 17, .inr (.inl v0.2.2.2.2.2.1.1)))]) ⟨hx, hb, hml, hown, hts⟩ (c_X6_full l D ca zz a16 a17 a18 _ v0.1.2.2.2.2.2.2.1 r_7 hc7) (cwV 0 hts (gV gw_4_137 gw_4_138 gw_4_139 gw_1_9 gw_4_140) rfl rfl rfl (by decide +kernel) ⟨(Nat.le_of_ble_eq_true rfl), (Nat.le_of_ble_eq_true rfl)⟩) hK hN hZ hA hP hD hS [16, 18] [none, none, none, none, none, none, none, none, none, none, none, none, none, none, none, none, some 0, none, some 1, none, none, none, none] (by decide +kernel) rfl rfl rfl rfl 16 rfl rfl hl.1 rfl (Nat.le_of_ble_eq_true rfl) dX11_compared_101 ⟨Nat.zero_le _, Nat.zero_le _⟩ rfl (fun H locs hP hD hS => ?_)
      obtain ⟨r_8, u_9, hc9, hf⟩ := bnd2_el hf
      refine xV_I (As := [.int r_7]) (wx := [(a0, .inr (11, [.ref a1, .ref a21, .ref a41, .ref a42, .ref a49, .ref a52, .ref a54, .ref a55])), (a1, .inr (10, [.ref a2, .ref a7, .ref a9, .ref a10, .ref a11, .ref a14, .ref a16, .ref a19, .int u_9.1.2.2.2.2.2.2.2.2.1, .int u_9.1.2.2.2.2.2.2.2.2.2.1, .int u_9.1.2.2.2.2.2.2.2.2.2.2.1, .int u_9.1.2.2.2.2.2.2.2.2.2.2.2.1, .int u_9.1.2.2.2.2.2.2.2.2.2.2.2.2.1, .int u_9.1.2.2.2.2.2.2.2.2.2.2.2.2.2])), (a2, .inr (7, [.ref a3, .ref a4, .ref a5, .ref a6, .int u_9.1.1.2.2.2.2])), (a3, .inl (ca 0, 9, .inl u_9.1.1.1)), (a4, .inl (ca 0, 4, .inl u_9.1.1.2.1)), (a5, .inl (ca 0, 4, .inl u_9.1.1.2.2.1)), (a6, .inl (ca 0, 4, .inl u_9.1.1.2.2.2.1)), (a7, .inr (2, [.ref a8, .int u_9.1.2.1.2.1, .int u_9.1.2.1.2.2.1, .int u_9.1.2.1.2.2.2.1, .int u_9.1.2.1.2.2.2.2])), (a8, .inl (ca 1, 17, .inr (.inl u_9.1.2.1.1))), (a9, .inr (8, [.int u_9.1.2.2.1.1, .int u_9.1.2.2.1.2.1, .int u_9.1.2.2.1.2.2])), (a10, .inr (1, [.int u_9.1.2.2.2.1.1, .int u_9.1.2.2.2.1.2.1, .int u_9.1.2.2.2.1.2.2.1, .int u_9.1.2.2.2.1.2.2.2.1, .int u_9.1.2.2.2.1.2.2.2.2.1, .int u_9.1.2.2.2.1.2.2.2.2.2])), (a11, .inr (3, [.ref a12, .int u_9.1.2.2.2.2.1.2.1, .int u_9.1.2.2.2.2.1.2.2.1, .int u_9.1.2.2.2.2.1.2.2.2.1, .int u_9.1.2.2.2.2.1.2.2.2.2.1, .int u_9.1.2.2.2.2.1.2.2.2.2.2.1, .int u_9.1.2.2.2.2.1.2.2.2.2.2.2])), (a12, .inr (4, [.ref a13, .int u_9.1.2.2.2.2.1.1.2.1, .int u_9.1.2.2.2.2.1.1.2.2])), (a13, .inl (ca 0, 512, .inl u_9.1.2.2.2.2.1.1.1)), (a14, .inr (4, [.ref a15, .int u_9.1.2.2.2.2.2.1.2.1, .int u_9.1.2.2.2.2.2.1.2.2])), (a15, .inl (ca 0, 512, .inl u_9.1.2.2.2.2.2.1.1)), (a16, .inr (6, [.ref a17, .ref a18, .int u_9.1.2.2.2.2.2.2.1.2.2])), (a17, .inl (ca 0, 15, .inl u_9.1.2.2.2.2.2.2.1.1)), (a18, .inl (ca 0, 15, .inl u_9.1.2.2.2.2.2.2.1.2.1)), (a19, .inr (9, [.ref a20, .int u_9.1.2.2.2.2.2.2.2.1.2.1, .int u_9.1.2.2.2.2.2.2.2.1.2.2.1, .int u_9.1.2.2.2.2.2.2.2.1.2.2.2])), (a20, .inl (ca 0, 300, .inl u_9.1.2.2.2.2.2.2.2.1.1)), (a52, .inr (2, [.ref a53, .int u_9.2.2.2.2.2.1.2.1, .int u_9.2.2.2.2.2.1.2.2.1, .int u_9.2.2.2.2.2.1.2.2.2.1, .int u_9.2.2.2.2.2.1.2.2.2.2])), (a53, .inl (ca 1, 17, .inr (.inl u_9.2.2.2.2.2.1.1)))]) ⟨hx, hb, hml, hown, hts⟩ (c_X11_rowsOf l D ca zz a0 a1 a2 a3 a4 a5 a6 a7 a8 a9 a10 a11 a12 a13 a14 a15 a16 a17 a18 a19 a20 a21 a41 a42 a49 a52 a53 a54 a55 _ v0 r_7 r_8 u_9 hc9) (cwV 1 hts (gV gw_4_170 gw_4_172 gw_s_2_6 gw_1_1 gw_4_173) rfl rfl rfl (by decide +kernel) ⟨(Nat.le_of_ble_eq_true rfl), (Nat.le_of_ble_eq_true rfl)⟩) hK hN hZ hA hP hD hS [0, 1, 2, 3, 4, 5, 6, 7, 8, 9, 10, 11, 12, 13, 14, 15, 16, 17, 18, 19, 20, 21, 22] [some 0, some 1, some 2, some 3, some 4, some 5, some 6, some 7, some 8, some 9, some 10, some 11, some 12, some 13, some 14, some 15, some 16, some 17, some 18, some 19, some 20, some 21, some 22] (by decide +kernel) rfl rfl rfl rfl 0 rfl rfl hl.1 rfl (Nat.le_of_ble_eq_true rfl) dX11_compared_104 ⟨Nat.zero_le _, Nat.zero_le _⟩ rfl (fun H locs hP hD hS => ?_)
      obtain ⟨r_10, hc10, hf⟩ := bnd1_el hf
      refine xV_I (As := [.int r_8]) (wx := [(a0, .inr (11, [.ref a1, .ref a21, .ref a41, .ref a42, .ref a49, .ref a52, .ref a54, .ref a55])), (a1, .inr (10, [.ref a2, .ref a7, .ref a9, .ref a10, .ref a11, .ref a14, .ref a16, .ref a19, .int u_9.1.2.2.2.2.2.2.2.2.1, .int u_9.1.2.2.2.2.2.2.2.2.2.1, .int u_9.1.2.2.2.2.2.2.2.2.2.2.1, .int u_9.1.2.2.2.2.2.2.2.2.2.2.2.1, .int u_9.1.2.2.2.2.2.2.2.2.2.2.2.2.1, .int u_9.1.2.2.2.2.2.2.2.2.2.2.2.2.2])), (a2, .inr (7, [.ref a3, .ref a4, .ref a5, .ref a6, .int u_9.1.1.2.2.2.2])), (a3, .inl (ca 0, 9, .inl u_9.1.1.1)), (a4, .inl (ca 0, 4, .inl u_9.1.1.2.1)), (a5, .inl (ca 0, 4, .inl u_9.1.1.2.2.1)), (a6, .inl (ca 0, 4, .inl u_9.1.1.2.2.2.1)), (a7, .inr (2, [.ref a8, .int u_9.1.2.1.2.1, .int u_9.1.2.1.2.2.1, .int u_9.1.2.1.2.2.2.1, .int u_9.1.2.1.2.2.2.2])), (a8, .inl (ca 1, 17, .inr (.inl u_9.1.2.1.1))), (a9, .inr (8, [.int u_9.1.2.2.1.1, .int u_9.1.2.2.1.2.1, .int u_9.1.2.2.1.2.2])), (a10, .inr (1, [.int u_9.1.2.2.2.1.1, .int u_9.1.2.2.2.1.2.1, .int u_9.1.2.2.2.1.2.2.1, .int u_9.1.2.2.2.1.2.2.2.1, .int u_9.1.2.2.2.1.2.2.2.2.1, .int u_9.1.2.2.2.1.2.2.2.2.2])), (a11, .inr (3, [.ref a12, .int u_9.1.2.2.2.2.1.2.1, .int u_9.1.2.2.2.2.1.2.2.1, .int u_9.1.2.2.2.2.1.2.2.2.1, .int u_9.1.2.2.2.2.1.2.2.2.2.1, .int u_9.1.2.2.2.2.1.2.2.2.2.2.1, .int u_9.1.2.2.2.2.1.2.2.2.2.2.2])), (a12, .inr (4, [.ref a13, .int u_9.1.2.2.2.2.1.1.2.1, .int u_9.1.2.2.2.2.1.1.2.2])), (a13, .inl (ca 0, 512, .inl u_9.1.2.2.2.2.1.1.1)), (a14, .inr (4, [.ref a15, .int u_9.1.2.2.2.2.2.1.2.1, .int u_9.1.2.2.2.2.2.1.2.2])), (a15, .inl (ca 0, 512, .inl u_9.1.2.2.2.2.2.1.1)), (a16, .inr (6, [.ref a17, .ref a18, .int u_9.1.2.2.2.2.2.2.1.2.2])), (a17, .inl (ca 0, 15, .inl u_9.1.2.2.2.2.2.2.1.1)), (a18, .inl (ca 0, 15, .inl u_9.1.2.2.2.2.2.2.1.2.1)), (a19, .inr (9, [.ref a20, .int u_9.1.2.2.2.2.2.2.2.1.2.1, .int u_9.1.2.2.2.2.2.2.2.1.2.2.1, .int u_9.1.2.2.2.2.2.2.2.1.2.2.2])), (a20, .inl (ca 0, 300, .inl u_9.1.2.2.2.2.2.2.2.1.1)), (a52, .inr (2, [.ref a53, .int u_9.2.2.2.2.2.1.2.1, .int u_9.2.2.2.2.2.1.2.2.1, .int u_9.2.2.2.2.2.1.2.2.2.1, .int u_9.2.2.2.2.2.1.2.2.2.2])), (a53, .inl (ca 1, 17, .inr (.inl u_9.2.2.2.2.2.1.1)))]) ⟨hx, hb, hml, hown, hts⟩ (c_X6_columnsAbove l D ca zz a16 a17 a18 _ u_9.1.2.2.2.2.2.2.1 r_8 r_10 hc10) (cwV 1 hts (gV gw_4_179 gw_4_180 gw_4_181 gw_1_9 gw_4_182) rfl rfl rfl (by decide +kernel) ⟨(Nat.le_of_ble_eq_true rfl), (Nat.le_of_ble_eq_true rfl)⟩) hK hN hZ hA hP hD hS [16, 17, 18] [none, none, none, none, none, none, none, none, none, none, none, none, none, none, none, none, some 0, some 1, some 2, none, none, none, none] (by decide +kernel) rfl rfl rfl rfl 16 rfl rfl hl.1 rfl (Nat.le_of_ble_eq_true rfl) dX11_compared_107 ⟨Nat.zero_le _, Nat.zero_le _⟩ rfl (fun H locs hP hD hS => ?_)
      have he := Option.some.inj hf
      obtain ⟨e_r, he⟩ := Prod.mk.inj he
      have e_v0 := he
      refine rt_I hx hb hr hlocks hK hP hD hS hQ e_r ?_ dX11_compared_110
      simp only [← e_v0]
    have hf := ite_f hc4 hf
    exact no_el hf
abbrev wq_X0_measureLongest : List Cond := Cond.code yX0_measureLongest cX0_measureLongest 3 none :: GL
set_option maxHeartbeats 4000000 in
set_option maxRecDepth 100000 in
theorem c_X0_measureLongest (l : Launch) (D : va_G) (ca : Nat → ClassId) (zz : Nat → Nat) (a0 a1 a2 : Nat) (sz : Nat) (v0 : V0) (v0' : V0) (hf : f_X0_measureLongest v0 = some v0') : Met l yX0_measureLongest wq_X0_measureLongest ({ frames := 0, cells := 0, slots := 0, locals := 0 } : Room) (PR D ca zz [.ref a0] sz [(a0, .inr (0, [.ref a1, .ref a2, .int v0.2.2.1, .int v0.2.2.2.1, .int v0.2.2.2.2])), (a1, .inl (ca 0, 400, .inl v0.1)), (a2, .inl (ca 0, 256, .inl v0.2.1))]) (QV D ca [(a0, .inr (0, [.ref a1, .ref a2, .int v0'.2.2.1, .int v0'.2.2.2.1, .int v0'.2.2.2.2])), (a1, .inl (ca 0, 400, .inl v0'.1)), (a2, .inl (ca 0, 256, .inl v0'.2.1))] (va_A [(a0, .inr (0, [.ref a1, .ref a2, .int v0.2.2.1, .int v0.2.2.2.1, .int v0.2.2.2.2])), (a1, .inl (ca 0, 400, .inl v0.1)), (a2, .inl (ca 0, 256, .inl v0.2.1))] sz)) 0 0 (va_A [(a0, .inr (0, [.ref a1, .ref a2, .int v0.2.2.1, .int v0.2.2.2.1, .int v0.2.2.2.2])), (a1, .inl (ca 0, 400, .inl v0.1)), (a2, .inl (ca 0, 256, .inl v0.2.1))] sz) := by
  refine en (y := yX0_measureLongest) (wsm := wq_X0_measureLongest) (av := [.ref a0]) (cc := cX0_measureLongest) (maxL := 3) (ret := none) (Qf := fun A => (QV D ca [(a0, .inr (0, [.ref a1, .ref a2, .int v0'.2.2.1, .int v0'.2.2.2.1, .int v0'.2.2.2.2])), (a1, .inl (ca 0, 400, .inl v0'.1)), (a2, .inl (ca 0, 256, .inl v0'.2.1))] A)) (by decide) rfl (Nat.le_of_ble_eq_true rfl) ?_
  intro p e s m args below meth c A Q ls hx hb hr hml hown hts hlocks hnm hA hN hZ hK hQ hP hD hS hl
  have w0 := hts _ (List.mem_cons_of_mem _ gw_2_168)
  have w1 := hts _ (List.mem_cons_of_mem _ gw_2_170)
  have w2 := hts _ (List.mem_cons_of_mem _ gw_2_167)
  have w3 := hts _ (List.mem_cons_of_mem _ gw_2_165)
  have i0 : ∀ w ∈ u_ws RX0 TX0 5, w ∈ wq_X0_measureLongest := fun w h => List.mem_cons_of_mem _ (inX0 w h)
  have b46 : ∀ (k14 : V0 → Int32 → Int32 → Option (V0)) (q14 : ∀ (v0 : V0) (x1 : Int32) (x2 : Int32), k14 v0 x1 x2 = some v0' → ∀ (H : Heap) (locs : List Loc) (ls : Array Slot), va_P D vwCl [(a0, .inr (0, [.ref a1, .ref a2, .int v0.2.2.1, .int v0.2.2.2.1, .int v0.2.2.2.2])), (a1, .inl (ca 0, 400, .inl v0.1)), (a2, .inl (ca 0, 256, .inl v0.2.1))] H → va_D A [(a0, .inr (0, [.ref a1, .ref a2, .int v0.2.2.1, .int v0.2.2.2.1, .int v0.2.2.2.2])), (a1, .inl (ca 0, 400, .inl v0.1)), (a2, .inl (ca 0, 256, .inl v0.2.1))] → va_S A s.heap H locs → lv_has ls 3 [(0, .ref a0), (1, .int x1), (2, .int x2)] → W p l e ({ frames := 0, cells := 0, slots := 0, locals := 0 } : Room) s m args below meth c H locs 0 0 Q (F0 m 14 ls [])) (v0 : V0) (x1 : Int32) (x2 : Int32), fc_X0_measureLongest_46 k14 v0 x1 x2 = some v0' → ∀ (H : Heap) (locs : List Loc) (ls : Array Slot), va_P D vwCl [(a0, .inr (0, [.ref a1, .ref a2, .int v0.2.2.1, .int v0.2.2.2.1, .int v0.2.2.2.2])), (a1, .inl (ca 0, 400, .inl v0.1)), (a2, .inl (ca 0, 256, .inl v0.2.1))] H → va_D A [(a0, .inr (0, [.ref a1, .ref a2, .int v0.2.2.1, .int v0.2.2.2.1, .int v0.2.2.2.2])), (a1, .inl (ca 0, 400, .inl v0.1)), (a2, .inl (ca 0, 256, .inl v0.2.1))] → va_S A s.heap H locs → lv_has ls 3 [(0, .ref a0), (1, .int x1), (2, .int x2)] → W p l e ({ frames := 0, cells := 0, slots := 0, locals := 0 } : Room) s m args below meth c H locs 0 0 Q (F0 m 46 ls []) := by
    intro k14 q14 v0 x1 x2 hf H locs ls hP hD hS hl
    unfold fc_X0_measureLongest_46 at hf
    refine lv_iload_n hx hb dX0_measureLongest_46 rfl (lv_at hl 2 rfl) ?_
    refine lv_iload_n hx hb dX0_measureLongest_47 rfl (lv_at hl 1 rfl) ?_
    refine lv_isub hx hb dX0_measureLongest_48 ?_
    refine lv_iconst (v := 1) hx hb dX0_measureLongest_49 rfl ?_
    refine lv_iadd hx hb dX0_measureLongest_50 ?_
    refine lv_aload_n hx hb dX0_measureLongest_51 rfl (lv_at hl 0 rfl) ?_
    refine va_get (C := RX0) (T := TX0) (N := 5) hx hb hts i0 hown hK hP 0 rfl rfl 3 (Nat.le_of_ble_eq_true rfl) w0 (fun _ h9 => h9) rfl dX0_measureLongest_52 ?_
    refine xc_le (tgt := 72) hx hb dX0_measureLongest_55 (by decide) hf (fun hf => ?_) (fun hf => ?_)
    · obtain ⟨x_1, ex_1, hf⟩ := bnd_el hf
      refine lv_iinc (v := x_1) (lv' := [(2, .int x_1), (0, .ref a0), (1, .int x1)]) hx hb dX0_measureLongest_72 hl (k := 2) rfl (by rw [ex_1]; rfl) (Nat.le_of_ble_eq_true rfl) rfl (fun ls hl => ?_)
      refine lv_goto (tgt := 14) hx hb dX0_measureLongest_75 (by decide) ?_
      exact q14 v0 x1 x_1 hf _ _ _ hP hD hS (lv_sub hl [1, 2, 0] rfl)
    · refine lv_aload_n hx hb dX0_measureLongest_58 rfl (lv_at hl 0 rfl) ?_
      refine lv_iload_n hx hb dX0_measureLongest_59 rfl (lv_at hl 2 rfl) ?_
      refine lv_iload_n hx hb dX0_measureLongest_60 rfl (lv_at hl 1 rfl) ?_
      refine lv_isub hx hb dX0_measureLongest_61 ?_
      refine lv_iconst (v := 1) hx hb dX0_measureLongest_62 rfl ?_
      refine lv_iadd hx hb dX0_measureLongest_63 ?_
      refine xnm hf (fun x_2 hf => ?_)
      refine xput (C := RX0) (T := TX0) (N := 5) (wx := [(a0, .inr (0, [.ref a1, .ref a2, .int v0.2.2.1, .int x_2, .int v0.2.2.2.2])), (a1, .inl (ca 0, 400, .inl v0.1)), (a2, .inl (ca 0, 256, .inl v0.2.1))]) hx hb hts i0 tyX0 tyX0_ok nmX0 hown hK hP hD hS 0 rfl rfl 3 (Nat.le_of_ble_eq_true rfl) w0 (fun _ h9 => h9) rfl rfl rfl rfl (Nat.le_of_ble_eq_true rfl) dX0_measureLongest_64 rfl (fun H locs hP hD hS => ?_)
      refine lv_aload_n hx hb dX0_measureLongest_67 rfl (lv_at hl 0 rfl) ?_
      refine lv_iload_n hx hb dX0_measureLongest_68 rfl (lv_at hl 1 rfl) ?_
      refine xput (C := RX0) (T := TX0) (N := 5) (wx := [(a0, .inr (0, [.ref a1, .ref a2, .int v0.2.2.1, .int x_2, .int x1])), (a1, .inl (ca 0, 400, .inl v0.1)), (a2, .inl (ca 0, 256, .inl v0.2.1))]) hx hb hts i0 tyX0 tyX0_ok nmX0 hown hK hP hD hS 0 rfl rfl 4 (Nat.le_of_ble_eq_true rfl) w1 (fun _ h9 => h9) rfl rfl rfl rfl (Nat.le_of_ble_eq_true rfl) dX0_measureLongest_69 rfl (fun H locs hP hD hS => ?_)
      obtain ⟨x_3, ex_3, hf⟩ := bnd_el hf
      refine lv_iinc (v := x_3) (lv' := [(2, .int x_3), (0, .ref a0), (1, .int x1)]) hx hb dX0_measureLongest_72 hl (k := 2) rfl (by rw [ex_3]; rfl) (Nat.le_of_ble_eq_true rfl) rfl (fun ls hl => ?_)
      refine lv_goto (tgt := 14) hx hb dX0_measureLongest_75 (by decide) ?_
      have jb := q14 ((v0.1, v0.2.1, v0.2.2.1, x_2, x1)) x1 x_3
      dsimp only at jb
      exact jb hf _ _ _ hP hD hS (lv_sub hl [1, 2, 0] rfl)
  have bl14 : ∀ (k14 : V0 → Int32 → Int32 → Option (V0)) (q14 : ∀ (v0 : V0) (x1 : Int32) (x2 : Int32), k14 v0 x1 x2 = some v0' → ∀ (H : Heap) (locs : List Loc) (ls : Array Slot), va_P D vwCl [(a0, .inr (0, [.ref a1, .ref a2, .int v0.2.2.1, .int v0.2.2.2.1, .int v0.2.2.2.2])), (a1, .inl (ca 0, 400, .inl v0.1)), (a2, .inl (ca 0, 256, .inl v0.2.1))] H → va_D A [(a0, .inr (0, [.ref a1, .ref a2, .int v0.2.2.1, .int v0.2.2.2.1, .int v0.2.2.2.2])), (a1, .inl (ca 0, 400, .inl v0.1)), (a2, .inl (ca 0, 256, .inl v0.2.1))] → va_S A s.heap H locs → lv_has ls 3 [(0, .ref a0), (1, .int x1), (2, .int x2)] → W p l e ({ frames := 0, cells := 0, slots := 0, locals := 0 } : Room) s m args below meth c H locs 0 0 Q (F0 m 14 ls [])) (v0 : V0) (x1 : Int32) (x2 : Int32), fl_X0_measureLongest_14 k14 v0 x1 x2 = some v0' → ∀ (H : Heap) (locs : List Loc) (ls : Array Slot), va_P D vwCl [(a0, .inr (0, [.ref a1, .ref a2, .int v0.2.2.1, .int v0.2.2.2.1, .int v0.2.2.2.2])), (a1, .inl (ca 0, 400, .inl v0.1)), (a2, .inl (ca 0, 256, .inl v0.2.1))] H → va_D A [(a0, .inr (0, [.ref a1, .ref a2, .int v0.2.2.1, .int v0.2.2.2.1, .int v0.2.2.2.2])), (a1, .inl (ca 0, 400, .inl v0.1)), (a2, .inl (ca 0, 256, .inl v0.2.1))] → va_S A s.heap H locs → lv_has ls 3 [(0, .ref a0), (1, .int x1), (2, .int x2)] → W p l e ({ frames := 0, cells := 0, slots := 0, locals := 0 } : Room) s m args below meth c H locs 0 0 Q (F0 m 14 ls []) := by
    intro k14 q14 v0 x1 x2 hf H locs ls hP hD hS hl
    unfold fl_X0_measureLongest_14 at hf
    refine lv_iload_n hx hb dX0_measureLongest_14 rfl (lv_at hl 2 rfl) ?_
    refine lv_aload_n hx hb dX0_measureLongest_15 rfl (lv_at hl 0 rfl) ?_
    refine va_get (C := RX0) (T := TX0) (N := 5) hx hb hts i0 hown hK hP 0 rfl rfl 2 (Nat.le_of_ble_eq_true rfl) w2 (fun _ h9 => h9) rfl dX0_measureLongest_16 ?_
    refine xc_ge (tgt := 78) hx hb dX0_measureLongest_19 (by decide) hf (fun hf => ?_) (fun hf => ?_)
    · have he := Option.some.inj hf
      have e_v0 := he
      refine rt_V hx hb hr hlocks hK hP hD hS hQ ?_ dX0_measureLongest_78
      simp only [← e_v0]
    · refine lv_iload_n hx hb dX0_measureLongest_22 rfl (lv_at hl 2 rfl) ?_
      refine lv_sipush (v := 400) hx hb dX0_measureLongest_23 rfl ?_
      refine xc_ge (tgt := 78) hx hb dX0_measureLongest_26 (by decide) hf (fun hf => ?_) (fun hf => ?_)
      · have he := Option.some.inj hf
        have e_v0 := he
        refine rt_V hx hb hr hlocks hK hP hD hS hQ ?_ dX0_measureLongest_78
        simp only [← e_v0]
      · refine lv_aload_n hx hb dX0_measureLongest_29 rfl (lv_at hl 0 rfl) ?_
        refine va_get (C := RX0) (T := TX0) (N := 5) hx hb hts i0 hown hK hP 0 rfl rfl 0 (Nat.le_of_ble_eq_true rfl) w3 (fun _ h9 => h9) rfl dX0_measureLongest_30 ?_
        refine lv_iload_n hx hb dX0_measureLongest_33 rfl (lv_at hl 2 rfl) ?_
        refine xiald hx hb hK hP 1 rfl hf dX0_measureLongest_34 (fun hf => ?_)
        refine lv_aload_n hx hb dX0_measureLongest_35 rfl (lv_at hl 0 rfl) ?_
        refine va_get (C := RX0) (T := TX0) (N := 5) hx hb hts i0 hown hK hP 0 rfl rfl 0 (Nat.le_of_ble_eq_true rfl) w3 (fun _ h9 => h9) rfl dX0_measureLongest_36 ?_
        refine lv_iload_n hx hb dX0_measureLongest_39 rfl (lv_at hl 1 rfl) ?_
        refine xiald hx hb hK hP 1 rfl hf dX0_measureLongest_40 (fun hf => ?_)
        refine xc_eq (tgt := 46) hx hb dX0_measureLongest_41 (by decide) hf (fun hf => ?_) (fun hf => ?_)
        · exact b46 k14 q14 v0 x1 x2 hf _ _ _ hP hD hS (lv_sub hl [0, 1, 2] rfl)
        · refine lv_iload_n hx hb dX0_measureLongest_44 rfl (lv_at hl 2 rfl) ?_
          refine lv_istore_n (lv' := [(1, .int x2), (0, .ref a0), (2, .int x2)]) hx hb dX0_measureLongest_45 rfl hl (Nat.le_of_ble_eq_true rfl) rfl (fun ls hl => ?_)
          exact b46 k14 q14 v0 x2 x2 hf _ _ _ hP hD hS (lv_sub hl [1, 0, 2] rfl)
  have b14 : ∀ (n : Nat) (v0 : V0) (x1 : Int32) (x2 : Int32), fb_X0_measureLongest_14 n v0 x1 x2 = some v0' → ∀ (H : Heap) (locs : List Loc) (ls : Array Slot), va_P D vwCl [(a0, .inr (0, [.ref a1, .ref a2, .int v0.2.2.1, .int v0.2.2.2.1, .int v0.2.2.2.2])), (a1, .inl (ca 0, 400, .inl v0.1)), (a2, .inl (ca 0, 256, .inl v0.2.1))] H → va_D A [(a0, .inr (0, [.ref a1, .ref a2, .int v0.2.2.1, .int v0.2.2.2.1, .int v0.2.2.2.2])), (a1, .inl (ca 0, 400, .inl v0.1)), (a2, .inl (ca 0, 256, .inl v0.2.1))] → va_S A s.heap H locs → lv_has ls 3 [(0, .ref a0), (1, .int x1), (2, .int x2)] → W p l e ({ frames := 0, cells := 0, slots := 0, locals := 0 } : Room) s m args below meth c H locs 0 0 Q (F0 m 14 ls []) := by
    intro n
    induction n with
    | zero => intro v0 x1 x2 hf; exact no_el hf
    | succ n ih => exact bl14 (fb_X0_measureLongest_14 n) ih
  unfold f_X0_measureLongest at hf
  refine lv_aload_n hx hb dX0_measureLongest_0 rfl (lv_at hl 0 rfl) ?_
  refine lv_iconst (v := 0) hx hb dX0_measureLongest_1 rfl ?_
  refine xput (C := RX0) (T := TX0) (N := 5) (wx := [(a0, .inr (0, [.ref a1, .ref a2, .int v0.2.2.1, .int (0 : Int32), .int v0.2.2.2.2])), (a1, .inl (ca 0, 400, .inl v0.1)), (a2, .inl (ca 0, 256, .inl v0.2.1))]) hx hb hts i0 tyX0 tyX0_ok nmX0 hown hK hP hD hS 0 rfl rfl 3 (Nat.le_of_ble_eq_true rfl) w0 (fun _ h9 => h9) rfl rfl rfl rfl (Nat.le_of_ble_eq_true rfl) dX0_measureLongest_2 rfl (fun H locs hP hD hS => ?_)
  refine lv_aload_n hx hb dX0_measureLongest_5 rfl (lv_at hl 0 rfl) ?_
  refine lv_iconst (v := 0) hx hb dX0_measureLongest_6 rfl ?_
  refine xput (C := RX0) (T := TX0) (N := 5) (wx := [(a0, .inr (0, [.ref a1, .ref a2, .int v0.2.2.1, .int (0 : Int32), .int (0 : Int32)])), (a1, .inl (ca 0, 400, .inl v0.1)), (a2, .inl (ca 0, 256, .inl v0.2.1))]) hx hb hts i0 tyX0 tyX0_ok nmX0 hown hK hP hD hS 0 rfl rfl 4 (Nat.le_of_ble_eq_true rfl) w1 (fun _ h9 => h9) rfl rfl rfl rfl (Nat.le_of_ble_eq_true rfl) dX0_measureLongest_7 rfl (fun H locs hP hD hS => ?_)
  refine lv_iconst (v := 0) hx hb dX0_measureLongest_10 rfl ?_
  refine lv_istore_n (lv' := [(1, .int (0 : Int32)), (0, .ref a0)]) hx hb dX0_measureLongest_11 rfl hl (Nat.le_of_ble_eq_true rfl) rfl (fun ls hl => ?_)
  refine lv_iconst (v := 0) hx hb dX0_measureLongest_12 rfl ?_
  refine lv_istore_n (lv' := [(2, .int (0 : Int32)), (1, .int (0 : Int32)), (0, .ref a0)]) hx hb dX0_measureLongest_13 rfl hl (Nat.le_of_ble_eq_true rfl) rfl (fun ls hl => ?_)
  have jb := b14 FU ((v0.1, v0.2.1, v0.2.2.1, (0 : Int32), (0 : Int32))) (0 : Int32) (0 : Int32)
  dsimp only at jb
  exact jb hf _ _ _ hP hD hS (lv_sub hl [2, 1, 0] rfl)
