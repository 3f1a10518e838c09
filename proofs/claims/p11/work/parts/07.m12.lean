section mp_14_cM16
abbrev wq_X12_ofRow : List Cond := Cond.code yX12_ofRow cX12_ofRow 4 (some .int) :: GL
set_option maxHeartbeats 4000000 in
set_option maxRecDepth 100000 in
theorem c_X12_ofRow (l : Launch) (D : va_G) (ca : Nat → ClassId) (zz : Nat → Nat) (a0 a1 a2 a3 a4 a5 : Nat) (sz : Nat) (v0 : V12) (p1 : Int32) (r : Int32) (hf : f_X12_ofRow v0 p1 = some r) : Met l yX12_ofRow wq_X12_ofRow ({ frames := 1, cells := 0, slots := 0, locals := 22 } : Room) (PR D ca zz [.ref a0, .int p1] sz [(a0, .inr (12, [.int v0.1, .ref a1, .ref a2, .ref a3, .int v0.2.2.2.2.1, .int v0.2.2.2.2.2.1, .int v0.2.2.2.2.2.2.1, .int v0.2.2.2.2.2.2.2.1, .int v0.2.2.2.2.2.2.2.2.1, .long v0.2.2.2.2.2.2.2.2.2.1, .int v0.2.2.2.2.2.2.2.2.2.2.1, .int v0.2.2.2.2.2.2.2.2.2.2.2.1, .int v0.2.2.2.2.2.2.2.2.2.2.2.2.1, .ref a4, .int v0.2.2.2.2.2.2.2.2.2.2.2.2.2.2.1, .int v0.2.2.2.2.2.2.2.2.2.2.2.2.2.2.2.1, .int v0.2.2.2.2.2.2.2.2.2.2.2.2.2.2.2.2.1, .int v0.2.2.2.2.2.2.2.2.2.2.2.2.2.2.2.2.2.1, .int v0.2.2.2.2.2.2.2.2.2.2.2.2.2.2.2.2.2.2.1, .long v0.2.2.2.2.2.2.2.2.2.2.2.2.2.2.2.2.2.2.2.1, .long v0.2.2.2.2.2.2.2.2.2.2.2.2.2.2.2.2.2.2.2.2.1, .ref a5])), (a1, .inl (ca 0, 4725, .inl v0.2.1))]) (QI D ca r [(a0, .inr (12, [.int v0.1, .ref a1, .ref a2, .ref a3, .int v0.2.2.2.2.1, .int v0.2.2.2.2.2.1, .int v0.2.2.2.2.2.2.1, .int v0.2.2.2.2.2.2.2.1, .int v0.2.2.2.2.2.2.2.2.1, .long v0.2.2.2.2.2.2.2.2.2.1, .int v0.2.2.2.2.2.2.2.2.2.2.1, .int v0.2.2.2.2.2.2.2.2.2.2.2.1, .int v0.2.2.2.2.2.2.2.2.2.2.2.2.1, .ref a4, .int v0.2.2.2.2.2.2.2.2.2.2.2.2.2.2.1, .int v0.2.2.2.2.2.2.2.2.2.2.2.2.2.2.2.1, .int v0.2.2.2.2.2.2.2.2.2.2.2.2.2.2.2.2.1, .int v0.2.2.2.2.2.2.2.2.2.2.2.2.2.2.2.2.2.1, .int v0.2.2.2.2.2.2.2.2.2.2.2.2.2.2.2.2.2.2.1, .long v0.2.2.2.2.2.2.2.2.2.2.2.2.2.2.2.2.2.2.2.1, .long v0.2.2.2.2.2.2.2.2.2.2.2.2.2.2.2.2.2.2.2.2.1, .ref a5])), (a1, .inl (ca 0, 4725, .inl v0.2.1))] (va_A [(a0, .inr (12, [.int v0.1, .ref a1, .ref a2, .ref a3, .int v0.2.2.2.2.1, .int v0.2.2.2.2.2.1, .int v0.2.2.2.2.2.2.1, .int v0.2.2.2.2.2.2.2.1, .int v0.2.2.2.2.2.2.2.2.1, .long v0.2.2.2.2.2.2.2.2.2.1, .int v0.2.2.2.2.2.2.2.2.2.2.1, .int v0.2.2.2.2.2.2.2.2.2.2.2.1, .int v0.2.2.2.2.2.2.2.2.2.2.2.2.1, .ref a4, .int v0.2.2.2.2.2.2.2.2.2.2.2.2.2.2.1, .int v0.2.2.2.2.2.2.2.2.2.2.2.2.2.2.2.1, .int v0.2.2.2.2.2.2.2.2.2.2.2.2.2.2.2.2.1, .int v0.2.2.2.2.2.2.2.2.2.2.2.2.2.2.2.2.2.1, .int v0.2.2.2.2.2.2.2.2.2.2.2.2.2.2.2.2.2.2.1, .long v0.2.2.2.2.2.2.2.2.2.2.2.2.2.2.2.2.2.2.2.1, .long v0.2.2.2.2.2.2.2.2.2.2.2.2.2.2.2.2.2.2.2.2.1, .ref a5])), (a1, .inl (ca 0, 4725, .inl v0.2.1))] sz)) 0 0 (va_A [(a0, .inr (12, [.int v0.1, .ref a1, .ref a2, .ref a3, .int v0.2.2.2.2.1, .int v0.2.2.2.2.2.1, .int v0.2.2.2.2.2.2.1, .int v0.2.2.2.2.2.2.2.1, .int v0.2.2.2.2.2.2.2.2.1, .long v0.2.2.2.2.2.2.2.2.2.1, .int v0.2.2.2.2.2.2.2.2.2.2.1, .int v0.2.2.2.2.2.2.2.2.2.2.2.1, .int v0.2.2.2.2.2.2.2.2.2.2.2.2.1, .ref a4, .int v0.2.2.2.2.2.2.2.2.2.2.2.2.2.2.1, .int v0.2.2.2.2.2.2.2.2.2.2.2.2.2.2.2.1, .int v0.2.2.2.2.2.2.2.2.2.2.2.2.2.2.2.2.1, .int v0.2.2.2.2.2.2.2.2.2.2.2.2.2.2.2.2.2.1, .int v0.2.2.2.2.2.2.2.2.2.2.2.2.2.2.2.2.2.2.1, .long v0.2.2.2.2.2.2.2.2.2.2.2.2.2.2.2.2.2.2.2.1, .long v0.2.2.2.2.2.2.2.2.2.2.2.2.2.2.2.2.2.2.2.2.1, .ref a5])), (a1, .inl (ca 0, 4725, .inl v0.2.1))] sz) := by
  refine en (y := yX12_ofRow) (wsm := wq_X12_ofRow) (av := [.ref a0, .int p1]) (cc := cX12_ofRow) (maxL := 4) (ret := (some .int)) (Qf := fun A => (QI D ca r [(a0, .inr (12, [.int v0.1, .ref a1, .ref a2, .ref a3, .int v0.2.2.2.2.1, .int v0.2.2.2.2.2.1, .int v0.2.2.2.2.2.2.1, .int v0.2.2.2.2.2.2.2.1, .int v0.2.2.2.2.2.2.2.2.1, .long v0.2.2.2.2.2.2.2.2.2.1, .int v0.2.2.2.2.2.2.2.2.2.2.1, .int v0.2.2.2.2.2.2.2.2.2.2.2.1, .int v0.2.2.2.2.2.2.2.2.2.2.2.2.1, .ref a4, .int v0.2.2.2.2.2.2.2.2.2.2.2.2.2.2.1, .int v0.2.2.2.2.2.2.2.2.2.2.2.2.2.2.2.1, .int v0.2.2.2.2.2.2.2.2.2.2.2.2.2.2.2.2.1, .int v0.2.2.2.2.2.2.2.2.2.2.2.2.2.2.2.2.2.1, .int v0.2.2.2.2.2.2.2.2.2.2.2.2.2.2.2.2.2.2.1, .long v0.2.2.2.2.2.2.2.2.2.2.2.2.2.2.2.2.2.2.2.1, .long v0.2.2.2.2.2.2.2.2.2.2.2.2.2.2.2.2.2.2.2.2.1, .ref a5])), (a1, .inl (ca 0, 4725, .inl v0.2.1))] A)) (by decide) rfl (Nat.le_of_ble_eq_true rfl) ?_
  intro p e s m args below meth c A Q ls hx hb hr hml hown hts hlocks hnm hA hN hZ hK hQ hP hD hS hl
  have bl4 : ∀ (k4 : Int32 → Int32 → Int32 → Option (Int32)) (q4 : ∀ (x1 : Int32) (x2 : Int32) (x3 : Int32), k4 x1 x2 x3 = some r → ∀ (H : Heap) (locs : List Loc) (ls : Array Slot), va_P D vwCl [(a0, .inr (12, [.int v0.1, .ref a1, .ref a2, .ref a3, .int v0.2.2.2.2.1, .int v0.2.2.2.2.2.1, .int v0.2.2.2.2.2.2.1, .int v0.2.2.2.2.2.2.2.1, .int v0.2.2.2.2.2.2.2.2.1, .long v0.2.2.2.2.2.2.2.2.2.1, .int v0.2.2.2.2.2.2.2.2.2.2.1, .int v0.2.2.2.2.2.2.2.2.2.2.2.1, .int v0.2.2.2.2.2.2.2.2.2.2.2.2.1, .ref a4, .int v0.2.2.2.2.2.2.2.2.2.2.2.2.2.2.1, .int v0.2.2.2.2.2.2.2.2.2.2.2.2.2.2.2.1, .int v0.2.2.2.2.2.2.2.2.2.2.2.2.2.2.2.2.1, .int v0.2.2.2.2.2.2.2.2.2.2.2.2.2.2.2.2.2.1, .int v0.2.2.2.2.2.2.2.2.2.2.2.2.2.2.2.2.2.2.1, .long v0.2.2.2.2.2.2.2.2.2.2.2.2.2.2.2.2.2.2.2.1, .long v0.2.2.2.2.2.2.2.2.2.2.2.2.2.2.2.2.2.2.2.2.1, .ref a5])), (a1, .inl (ca 0, 4725, .inl v0.2.1))] H → va_D A [(a0, .inr (12, [.int v0.1, .ref a1, .ref a2, .ref a3, .int v0.2.2.2.2.1, .int v0.2.2.2.2.2.1, .int v0.2.2.2.2.2.2.1, .int v0.2.2.2.2.2.2.2.1, .int v0.2.2.2.2.2.2.2.2.1, .long v0.2.2.2.2.2.2.2.2.2.1, .int v0.2.2.2.2.2.2.2.2.2.2.1, .int v0.2.2.2.2.2.2.2.2.2.2.2.1, .int v0.2.2.2.2.2.2.2.2.2.2.2.2.1, .ref a4, .int v0.2.2.2.2.2.2.2.2.2.2.2.2.2.2.1, .int v0.2.2.2.2.2.2.2.2.2.2.2.2.2.2.2.1, .int v0.2.2.2.2.2.2.2.2.2.2.2.2.2.2.2.2.1, .int v0.2.2.2.2.2.2.2.2.2.2.2.2.2.2.2.2.2.1, .int v0.2.2.2.2.2.2.2.2.2.2.2.2.2.2.2.2.2.2.1, .long v0.2.2.2.2.2.2.2.2.2.2.2.2.2.2.2.2.2.2.2.1, .long v0.2.2.2.2.2.2.2.2.2.2.2.2.2.2.2.2.2.2.2.2.1, .ref a5])), (a1, .inl (ca 0, 4725, .inl v0.2.1))] → va_S A s.heap H locs → lv_has ls 4 [(0, .ref a0), (1, .int x1), (2, .int x2), (3, .int x3)] → W p l e ({ frames := 1, cells := 0, slots := 0, locals := 22 } : Room) s m args below meth c H locs 0 0 Q (F0 m 4 ls [])) (x1 : Int32) (x2 : Int32) (x3 : Int32), fl_X12_ofRow_4 v0 k4 x1 x2 x3 = some r → ∀ (H : Heap) (locs : List Loc) (ls : Array Slot), va_P D vwCl [(a0, .inr (12, [.int v0.1, .ref a1, .ref a2, .ref a3, .int v0.2.2.2.2.1, .int v0.2.2.2.2.2.1, .int v0.2.2.2.2.2.2.1, .int v0.2.2.2.2.2.2.2.1, .int v0.2.2.2.2.2.2.2.2.1, .long v0.2.2.2.2.2.2.2.2.2.1, .int v0.2.2.2.2.2.2.2.2.2.2.1, .int v0.2.2.2.2.2.2.2.2.2.2.2.1, .int v0.2.2.2.2.2.2.2.2.2.2.2.2.1, .ref a4, .int v0.2.2.2.2.2.2.2.2.2.2.2.2.2.2.1, .int v0.2.2.2.2.2.2.2.2.2.2.2.2.2.2.2.1, .int v0.2.2.2.2.2.2.2.2.2.2.2.2.2.2.2.2.1, .int v0.2.2.2.2.2.2.2.2.2.2.2.2.2.2.2.2.2.1, .int v0.2.2.2.2.2.2.2.2.2.2.2.2.2.2.2.2.2.2.1, .long v0.2.2.2.2.2.2.2.2.2.2.2.2.2.2.2.2.2.2.2.1, .long v0.2.2.2.2.2.2.2.2.2.2.2.2.2.2.2.2.2.2.2.2.1, .ref a5])), (a1, .inl (ca 0, 4725, .inl v0.2.1))] H → va_D A [(a0, .inr (12, [.int v0.1, .ref a1, .ref a2, .ref a3, .int v0.2.2.2.2.1, .int v0.2.2.2.2.2.1, .int v0.2.2.2.2.2.2.1, .int v0.2.2.2.2.2.2.2.1, .int v0.2.2.2.2.2.2.2.2.1, .long v0.2.2.2.2.2.2.2.2.2.1, .int v0.2.2.2.2.2.2.2.2.2.2.1, .int v0.2.2.2.2.2.2.2.2.2.2.2.1, .int v0.2.2.2.2.2.2.2.2.2.2.2.2.1, .ref a4, .int v0.2.2.2.2.2.2.2.2.2.2.2.2.2.2.1, .int v0.2.2.2.2.2.2.2.2.2.2.2.2.2.2.2.1, .int v0.2.2.2.2.2.2.2.2.2.2.2.2.2.2.2.2.1, .int v0.2.2.2.2.2.2.2.2.2.2.2.2.2.2.2.2.2.1, .int v0.2.2.2.2.2.2.2.2.2.2.2.2.2.2.2.2.2.2.1, .long v0.2.2.2.2.2.2.2.2.2.2.2.2.2.2.2.2.2.2.2.1, .long v0.2.2.2.2.2.2.2.2.2.2.2.2.2.2.2.2.2.2.2.2.1, .ref a5])), (a1, .inl (ca 0, 4725, .inl v0.2.1))] → va_S A s.heap H locs → lv_has ls 4 [(0, .ref a0), (1, .int x1), (2, .int x2), (3, .int x3)] → W p l e ({ frames := 1, cells := 0, slots := 0, locals := 22 } : Room) s m args below meth c H locs 0 0 Q (F0 m 4 ls []) := by
    intro k4 q4 x1 x2 x3 hf H locs ls hP hD hS hl
    unfold fl_X12_ofRow_4 at hf
    refine lv_iload_n hx hb dX12_ofRow_4 rfl (lv_at hl 3 rfl) ?_
    refine lv_bipush (v := 15) hx hb dX12_ofRow_5 rfl ?_
    refine xc_ge (tgt := 27) hx hb dX12_ofRow_7 (by decide) hf (fun hf => ?_) (fun hf => ?_)
    · refine lv_iload_n hx hb dX12_ofRow_27 rfl (lv_at hl 2 rfl) ?_
      refine lv_bipush (v := 15) hx hb dX12_ofRow_28 rfl ?_
      refine lv_iload_n hx hb dX12_ofRow_30 rfl (lv_at hl 2 rfl) ?_
      refine lv_isub hx hb dX12_ofRow_31 ?_
      obtain ⟨r_1, hc1, hf⟩ := bnd1_el hf
      refine xS_I (As := [.int x2, .int ((15 : Int32) - x2)]) (wx := [(a0, .inr (12, [.int v0.1, .ref a1, .ref a2, .ref a3, .int v0.2.2.2.2.1, .int v0.2.2.2.2.2.1, .int v0.2.2.2.2.2.2.1, .int v0.2.2.2.2.2.2.2.1, .int v0.2.2.2.2.2.2.2.2.1, .long v0.2.2.2.2.2.2.2.2.2.1, .int v0.2.2.2.2.2.2.2.2.2.2.1, .int v0.2.2.2.2.2.2.2.2.2.2.2.1, .int v0.2.2.2.2.2.2.2.2.2.2.2.2.1, .ref a4, .int v0.2.2.2.2.2.2.2.2.2.2.2.2.2.2.1, .int v0.2.2.2.2.2.2.2.2.2.2.2.2.2.2.2.1, .int v0.2.2.2.2.2.2.2.2.2.2.2.2.2.2.2.2.1, .int v0.2.2.2.2.2.2.2.2.2.2.2.2.2.2.2.2.2.1, .int v0.2.2.2.2.2.2.2.2.2.2.2.2.2.2.2.2.2.2.1, .long v0.2.2.2.2.2.2.2.2.2.2.2.2.2.2.2.2.2.2.2.1, .long v0.2.2.2.2.2.2.2.2.2.2.2.2.2.2.2.2.2.2.2.2.1, .ref a5])), (a1, .inl (ca 0, 4725, .inl v0.2.1))]) ⟨hx, hb, hml, hown, hts⟩ (c_X12_greater l D ca zz  _ x2 ((15 : Int32) - x2) r_1 hc1) (va_cwS 2 hts (gS gw_6_184 gw_6_185 gw_1_15 gw_6_186) rfl rfl rfl (by decide +kernel) ⟨(Nat.le_of_ble_eq_true rfl), (Nat.le_of_ble_eq_true rfl)⟩) hK hN hZ hA hP hD hS [] [none, none] (by decide +kernel) rfl rfl rfl rfl hl.1 rfl (Nat.le_of_ble_eq_true rfl) dX12_ofRow_32 ⟨Nat.zero_le _, Nat.zero_le _⟩ rfl (fun H locs hP hD hS => ?_)
      have he := Option.some.inj hf
      have e_r := he
      refine rt_I hx hb hr hlocks hK hP hD hS hQ e_r ?_ dX12_ofRow_35
      rfl
    · refine lv_iload_n hx hb dX12_ofRow_10 rfl (lv_at hl 2 rfl) ?_
      refine lv_aload_n hx hb dX12_ofRow_11 rfl (lv_at hl 0 rfl) ?_
      refine lv_iload_n hx hb dX12_ofRow_12 rfl (lv_at hl 1 rfl) ?_
      refine lv_iconst (v := 1) hx hb dX12_ofRow_13 rfl ?_
      refine lv_iload_n hx hb dX12_ofRow_14 rfl (lv_at hl 3 rfl) ?_
      refine lv_iadd hx hb dX12_ofRow_15 ?_
      obtain ⟨r_2, hc2, hf⟩ := bnd1_el hf
      refine xV_I (As := [.int x1, .int ((1 : Int32) + x3)]) (wx := [(a0, .inr (12, [.int v0.1, .ref a1, .ref a2, .ref a3, .int v0.2.2.2.2.1, .int v0.2.2.2.2.2.1, .int v0.2.2.2.2.2.2.1, .int v0.2.2.2.2.2.2.2.1, .int v0.2.2.2.2.2.2.2.2.1, .long v0.2.2.2.2.2.2.2.2.2.1, .int v0.2.2.2.2.2.2.2.2.2.2.1, .int v0.2.2.2.2.2.2.2.2.2.2.2.1, .int v0.2.2.2.2.2.2.2.2.2.2.2.2.1, .ref a4, .int v0.2.2.2.2.2.2.2.2.2.2.2.2.2.2.1, .int v0.2.2.2.2.2.2.2.2.2.2.2.2.2.2.2.1, .int v0.2.2.2.2.2.2.2.2.2.2.2.2.2.2.2.2.1, .int v0.2.2.2.2.2.2.2.2.2.2.2.2.2.2.2.2.2.1, .int v0.2.2.2.2.2.2.2.2.2.2.2.2.2.2.2.2.2.2.1, .long v0.2.2.2.2.2.2.2.2.2.2.2.2.2.2.2.2.2.2.2.1, .long v0.2.2.2.2.2.2.2.2.2.2.2.2.2.2.2.2.2.2.2.2.1, .ref a5])), (a1, .inl (ca 0, 4725, .inl v0.2.1))]) ⟨hx, hb, hml, hown, hts⟩ (c_X12_rowAt l D ca zz a0 a1 a2 a3 a4 a5 _ v0 x1 ((1 : Int32) + x3) r_2 hc2) (cwV 2 hts (gV gw_6_160 gw_6_162 gw_s_4_9 gw_1_15 gw_6_163) rfl rfl rfl (by decide +kernel) ⟨(Nat.le_of_ble_eq_true rfl), (Nat.le_of_ble_eq_true rfl)⟩) hK hN hZ hA hP hD hS [0, 1] [some 0, some 1] (by decide +kernel) rfl rfl rfl rfl 0 rfl rfl hl.1 rfl (Nat.le_of_ble_eq_true rfl) dX12_ofRow_16 ⟨Nat.zero_le _, Nat.zero_le _⟩ rfl (fun H locs hP hD hS => ?_)
      refine lv_iadd hx hb dX12_ofRow_19 ?_
      refine xnm hf (fun x_3 hf => ?_)
      refine lv_istore_n (lv' := [(2, .int x_3), (0, .ref a0), (1, .int x1), (3, .int x3)]) hx hb dX12_ofRow_20 rfl hl (Nat.le_of_ble_eq_true rfl) rfl (fun ls hl => ?_)
      obtain ⟨x_4, ex_4, hf⟩ := bnd_el hf
      refine lv_iinc (v := x_4) (lv' := [(3, .int x_4), (2, .int x_3), (0, .ref a0), (1, .int x1)]) hx hb dX12_ofRow_21 hl (k := 3) rfl (by rw [ex_4]; rfl) (Nat.le_of_ble_eq_true rfl) rfl (fun ls hl => ?_)
      refine lv_goto (tgt := 4) hx hb dX12_ofRow_24 (by decide) ?_
      exact q4 x1 x_3 x_4 hf _ _ _ hP hD hS (lv_sub hl [2, 3, 1, 0] rfl)
  have b4 : ∀ (n : Nat) (x1 : Int32) (x2 : Int32) (x3 : Int32), fb_X12_ofRow_4 v0 n x1 x2 x3 = some r → ∀ (H : Heap) (locs : List Loc) (ls : Array Slot), va_P D vwCl [(a0, .inr (12, [.int v0.1, .ref a1, .ref a2, .ref a3, .int v0.2.2.2.2.1, .int v0.2.2.2.2.2.1, .int v0.2.2.2.2.2.2.1, .int v0.2.2.2.2.2.2.2.1, .int v0.2.2.2.2.2.2.2.2.1, .long v0.2.2.2.2.2.2.2.2.2.1, .int v0.2.2.2.2.2.2.2.2.2.2.1, .int v0.2.2.2.2.2.2.2.2.2.2.2.1, .int v0.2.2.2.2.2.2.2.2.2.2.2.2.1, .ref a4, .int v0.2.2.2.2.2.2.2.2.2.2.2.2.2.2.1, .int v0.2.2.2.2.2.2.2.2.2.2.2.2.2.2.2.1, .int v0.2.2.2.2.2.2.2.2.2.2.2.2.2.2.2.2.1, .int v0.2.2.2.2.2.2.2.2.2.2.2.2.2.2.2.2.2.1, .int v0.2.2.2.2.2.2.2.2.2.2.2.2.2.2.2.2.2.2.1, .long v0.2.2.2.2.2.2.2.2.2.2.2.2.2.2.2.2.2.2.2.1, .long v0.2.2.2.2.2.2.2.2.2.2.2.2.2.2.2.2.2.2.2.2.1, .ref a5])), (a1, .inl (ca 0, 4725, .inl v0.2.1))] H → va_D A [(a0, .inr (12, [.int v0.1, .ref a1, .ref a2, .ref a3, .int v0.2.2.2.2.1, .int v0.2.2.2.2.2.1, .int v0.2.2.2.2.2.2.1, .int v0.2.2.2.2.2.2.2.1, .int v0.2.2.2.2.2.2.2.2.1, .long v0.2.2.2.2.2.2.2.2.2.1, .int v0.2.2.2.2.2.2.2.2.2.2.1, .int v0.2.2.2.2.2.2.2.2.2.2.2.1, .int v0.2.2.2.2.2.2.2.2.2.2.2.2.1, .ref a4, .int v0.2.2.2.2.2.2.2.2.2.2.2.2.2.2.1, .int v0.2.2.2.2.2.2.2.2.2.2.2.2.2.2.2.1, .int v0.2.2.2.2.2.2.2.2.2.2.2.2.2.2.2.2.1, .int v0.2.2.2.2.2.2.2.2.2.2.2.2.2.2.2.2.2.1, .int v0.2.2.2.2.2.2.2.2.2.2.2.2.2.2.2.2.2.2.1, .long v0.2.2.2.2.2.2.2.2.2.2.2.2.2.2.2.2.2.2.2.1, .long v0.2.2.2.2.2.2.2.2.2.2.2.2.2.2.2.2.2.2.2.2.1, .ref a5])), (a1, .inl (ca 0, 4725, .inl v0.2.1))] → va_S A s.heap H locs → lv_has ls 4 [(0, .ref a0), (1, .int x1), (2, .int x2), (3, .int x3)] → W p l e ({ frames := 1, cells := 0, slots := 0, locals := 22 } : Room) s m args below meth c H locs 0 0 Q (F0 m 4 ls []) := by
    intro n
    induction n with
    | zero => intro x1 x2 x3 hf; exact no_el hf
    | succ n ih => exact bl4 (fb_X12_ofRow_4 v0 n) ih
  unfold f_X12_ofRow at hf
  refine lv_iconst (v := 0) hx hb dX12_ofRow_0 rfl ?_
  refine lv_istore_n (lv' := [(2, .int (0 : Int32)), (0, .ref a0), (1, .int p1)]) hx hb dX12_ofRow_1 rfl hl (Nat.le_of_ble_eq_true rfl) rfl (fun ls hl => ?_)
  refine lv_iconst (v := 0) hx hb dX12_ofRow_2 rfl ?_
  refine lv_istore_n (lv' := [(3, .int (0 : Int32)), (2, .int (0 : Int32)), (0, .ref a0), (1, .int p1)]) hx hb dX12_ofRow_3 rfl hl (Nat.le_of_ble_eq_true rfl) rfl (fun ls hl => ?_)
  exact b4 FU p1 (0 : Int32) (0 : Int32) hf _ _ _ hP hD hS (lv_sub hl [2, 3, 1, 0] rfl)
abbrev wq_X12_ofColumn : List Cond := Cond.code yX12_ofColumn cX12_ofColumn 5 (some .int) :: GL
set_option maxHeartbeats 4000000 in
set_option maxRecDepth 100000 in
theorem c_X12_ofColumn (l : Launch) (D : va_G) (ca : Nat → ClassId) (zz : Nat → Nat) (a0 a1 a2 a3 a4 a5 : Nat) (sz : Nat) (v0 : V12) (p1 : Int32) (p2 : Int32) (r : Int32) (hf : f_X12_ofColumn v0 p1 p2 = some r) : Met l yX12_ofColumn wq_X12_ofColumn ({ frames := 2, cells := 0, slots := 0, locals := 43 } : Room) (PR D ca zz [.ref a0, .int p1, .int p2] sz [(a0, .inr (12, [.int v0.1, .ref a1, .ref a2, .ref a3, .int v0.2.2.2.2.1, .int v0.2.2.2.2.2.1, .int v0.2.2.2.2.2.2.1, .int v0.2.2.2.2.2.2.2.1, .int v0.2.2.2.2.2.2.2.2.1, .long v0.2.2.2.2.2.2.2.2.2.1, .int v0.2.2.2.2.2.2.2.2.2.2.1, .int v0.2.2.2.2.2.2.2.2.2.2.2.1, .int v0.2.2.2.2.2.2.2.2.2.2.2.2.1, .ref a4, .int v0.2.2.2.2.2.2.2.2.2.2.2.2.2.2.1, .int v0.2.2.2.2.2.2.2.2.2.2.2.2.2.2.2.1, .int v0.2.2.2.2.2.2.2.2.2.2.2.2.2.2.2.2.1, .int v0.2.2.2.2.2.2.2.2.2.2.2.2.2.2.2.2.2.1, .int v0.2.2.2.2.2.2.2.2.2.2.2.2.2.2.2.2.2.2.1, .long v0.2.2.2.2.2.2.2.2.2.2.2.2.2.2.2.2.2.2.2.1, .long v0.2.2.2.2.2.2.2.2.2.2.2.2.2.2.2.2.2.2.2.2.1, .ref a5])), (a1, .inl (ca 0, 4725, .inl v0.2.1))]) (QI D ca r [(a0, .inr (12, [.int v0.1, .ref a1, .ref a2, .ref a3, .int v0.2.2.2.2.1, .int v0.2.2.2.2.2.1, .int v0.2.2.2.2.2.2.1, .int v0.2.2.2.2.2.2.2.1, .int v0.2.2.2.2.2.2.2.2.1, .long v0.2.2.2.2.2.2.2.2.2.1, .int v0.2.2.2.2.2.2.2.2.2.2.1, .int v0.2.2.2.2.2.2.2.2.2.2.2.1, .int v0.2.2.2.2.2.2.2.2.2.2.2.2.1, .ref a4, .int v0.2.2.2.2.2.2.2.2.2.2.2.2.2.2.1, .int v0.2.2.2.2.2.2.2.2.2.2.2.2.2.2.2.1, .int v0.2.2.2.2.2.2.2.2.2.2.2.2.2.2.2.2.1, .int v0.2.2.2.2.2.2.2.2.2.2.2.2.2.2.2.2.2.1, .int v0.2.2.2.2.2.2.2.2.2.2.2.2.2.2.2.2.2.2.1, .long v0.2.2.2.2.2.2.2.2.2.2.2.2.2.2.2.2.2.2.2.1, .long v0.2.2.2.2.2.2.2.2.2.2.2.2.2.2.2.2.2.2.2.2.1, .ref a5])), (a1, .inl (ca 0, 4725, .inl v0.2.1))] (va_A [(a0, .inr (12, [.int v0.1, .ref a1, .ref a2, .ref a3, .int v0.2.2.2.2.1, .int v0.2.2.2.2.2.1, .int v0.2.2.2.2.2.2.1, .int v0.2.2.2.2.2.2.2.1, .int v0.2.2.2.2.2.2.2.2.1, .long v0.2.2.2.2.2.2.2.2.2.1, .int v0.2.2.2.2.2.2.2.2.2.2.1, .int v0.2.2.2.2.2.2.2.2.2.2.2.1, .int v0.2.2.2.2.2.2.2.2.2.2.2.2.1, .ref a4, .int v0.2.2.2.2.2.2.2.2.2.2.2.2.2.2.1, .int v0.2.2.2.2.2.2.2.2.2.2.2.2.2.2.2.1, .int v0.2.2.2.2.2.2.2.2.2.2.2.2.2.2.2.2.1, .int v0.2.2.2.2.2.2.2.2.2.2.2.2.2.2.2.2.2.1, .int v0.2.2.2.2.2.2.2.2.2.2.2.2.2.2.2.2.2.2.1, .long v0.2.2.2.2.2.2.2.2.2.2.2.2.2.2.2.2.2.2.2.1, .long v0.2.2.2.2.2.2.2.2.2.2.2.2.2.2.2.2.2.2.2.2.1, .ref a5])), (a1, .inl (ca 0, 4725, .inl v0.2.1))] sz)) 0 0 (va_A [(a0, .inr (12, [.int v0.1, .ref a1, .ref a2, .ref a3, .int v0.2.2.2.2.1, .int v0.2.2.2.2.2.1, .int v0.2.2.2.2.2.2.1, .int v0.2.2.2.2.2.2.2.1, .int v0.2.2.2.2.2.2.2.2.1, .long v0.2.2.2.2.2.2.2.2.2.1, .int v0.2.2.2.2.2.2.2.2.2.2.1, .int v0.2.2.2.2.2.2.2.2.2.2.2.1, .int v0.2.2.2.2.2.2.2.2.2.2.2.2.1, .ref a4, .int v0.2.2.2.2.2.2.2.2.2.2.2.2.2.2.1, .int v0.2.2.2.2.2.2.2.2.2.2.2.2.2.2.2.1, .int v0.2.2.2.2.2.2.2.2.2.2.2.2.2.2.2.2.1, .int v0.2.2.2.2.2.2.2.2.2.2.2.2.2.2.2.2.2.1, .int v0.2.2.2.2.2.2.2.2.2.2.2.2.2.2.2.2.2.2.1, .long v0.2.2.2.2.2.2.2.2.2.2.2.2.2.2.2.2.2.2.2.1, .long v0.2.2.2.2.2.2.2.2.2.2.2.2.2.2.2.2.2.2.2.2.1, .ref a5])), (a1, .inl (ca 0, 4725, .inl v0.2.1))] sz) := by
  refine en (y := yX12_ofColumn) (wsm := wq_X12_ofColumn) (av := [.ref a0, .int p1, .int p2]) (cc := cX12_ofColumn) (maxL := 5) (ret := (some .int)) (Qf := fun A => (QI D ca r [(a0, .inr (12, [.int v0.1, .ref a1, .ref a2, .ref a3, .int v0.2.2.2.2.1, .int v0.2.2.2.2.2.1, .int v0.2.2.2.2.2.2.1, .int v0.2.2.2.2.2.2.2.1, .int v0.2.2.2.2.2.2.2.2.1, .long v0.2.2.2.2.2.2.2.2.2.1, .int v0.2.2.2.2.2.2.2.2.2.2.1, .int v0.2.2.2.2.2.2.2.2.2.2.2.1, .int v0.2.2.2.2.2.2.2.2.2.2.2.2.1, .ref a4, .int v0.2.2.2.2.2.2.2.2.2.2.2.2.2.2.1, .int v0.2.2.2.2.2.2.2.2.2.2.2.2.2.2.2.1, .int v0.2.2.2.2.2.2.2.2.2.2.2.2.2.2.2.2.1, .int v0.2.2.2.2.2.2.2.2.2.2.2.2.2.2.2.2.2.1, .int v0.2.2.2.2.2.2.2.2.2.2.2.2.2.2.2.2.2.2.1, .long v0.2.2.2.2.2.2.2.2.2.2.2.2.2.2.2.2.2.2.2.1, .long v0.2.2.2.2.2.2.2.2.2.2.2.2.2.2.2.2.2.2.2.2.1, .ref a5])), (a1, .inl (ca 0, 4725, .inl v0.2.1))] A)) (by decide) rfl (Nat.le_of_ble_eq_true rfl) ?_
  intro p e s m args below meth c A Q ls hx hb hr hml hown hts hlocks hnm hA hN hZ hK hQ hP hD hS hl
  have w0 := hts _ (List.mem_cons_of_mem _ gw_5_116)
  have i12 : ∀ w ∈ u_ws RX12 TX12 22, w ∈ wq_X12_ofColumn := fun w h => List.mem_cons_of_mem _ (inX12 w h)
  have bl5 : ∀ (k5 : Int32 → Int32 → Int32 → Int32 → Option (Int32)) (q5 : ∀ (x1 : Int32) (x2 : Int32) (x3 : Int32) (x4 : Int32), k5 x1 x2 x3 x4 = some r → ∀ (H : Heap) (locs : List Loc) (ls : Array Slot), va_P D vwCl [(a0, .inr (12, [.int v0.1, .ref a1, .ref a2, .ref a3, .int v0.2.2.2.2.1, .int v0.2.2.2.2.2.1, .int v0.2.2.2.2.2.2.1, .int v0.2.2.2.2.2.2.2.1, .int v0.2.2.2.2.2.2.2.2.1, .long v0.2.2.2.2.2.2.2.2.2.1, .int v0.2.2.2.2.2.2.2.2.2.2.1, .int v0.2.2.2.2.2.2.2.2.2.2.2.1, .int v0.2.2.2.2.2.2.2.2.2.2.2.2.1, .ref a4, .int v0.2.2.2.2.2.2.2.2.2.2.2.2.2.2.1, .int v0.2.2.2.2.2.2.2.2.2.2.2.2.2.2.2.1, .int v0.2.2.2.2.2.2.2.2.2.2.2.2.2.2.2.2.1, .int v0.2.2.2.2.2.2.2.2.2.2.2.2.2.2.2.2.2.1, .int v0.2.2.2.2.2.2.2.2.2.2.2.2.2.2.2.2.2.2.1, .long v0.2.2.2.2.2.2.2.2.2.2.2.2.2.2.2.2.2.2.2.1, .long v0.2.2.2.2.2.2.2.2.2.2.2.2.2.2.2.2.2.2.2.2.1, .ref a5])), (a1, .inl (ca 0, 4725, .inl v0.2.1))] H → va_D A [(a0, .inr (12, [.int v0.1, .ref a1, .ref a2, .ref a3, .int v0.2.2.2.2.1, .int v0.2.2.2.2.2.1, .int v0.2.2.2.2.2.2.1, .int v0.2.2.2.2.2.2.2.1, .int v0.2.2.2.2.2.2.2.2.1, .long v0.2.2.2.2.2.2.2.2.2.1, .int v0.2.2.2.2.2.2.2.2.2.2.1, .int v0.2.2.2.2.2.2.2.2.2.2.2.1, .int v0.2.2.2.2.2.2.2.2.2.2.2.2.1, .ref a4, .int v0.2.2.2.2.2.2.2.2.2.2.2.2.2.2.1, .int v0.2.2.2.2.2.2.2.2.2.2.2.2.2.2.2.1, .int v0.2.2.2.2.2.2.2.2.2.2.2.2.2.2.2.2.1, .int v0.2.2.2.2.2.2.2.2.2.2.2.2.2.2.2.2.2.1, .int v0.2.2.2.2.2.2.2.2.2.2.2.2.2.2.2.2.2.2.1, .long v0.2.2.2.2.2.2.2.2.2.2.2.2.2.2.2.2.2.2.2.1, .long v0.2.2.2.2.2.2.2.2.2.2.2.2.2.2.2.2.2.2.2.2.1, .ref a5])), (a1, .inl (ca 0, 4725, .inl v0.2.1))] → va_S A s.heap H locs → lv_has ls 5 [(0, .ref a0), (1, .int x1), (2, .int x2), (3, .int x3), (4, .int x4)] → W p l e ({ frames := 2, cells := 0, slots := 0, locals := 43 } : Room) s m args below meth c H locs 0 0 Q (F0 m 5 ls [])) (x1 : Int32) (x2 : Int32) (x3 : Int32) (x4 : Int32), fl_X12_ofColumn_5 v0 k5 x1 x2 x3 x4 = some r → ∀ (H : Heap) (locs : List Loc) (ls : Array Slot), va_P D vwCl [(a0, .inr (12, [.int v0.1, .ref a1, .ref a2, .ref a3, .int v0.2.2.2.2.1, .int v0.2.2.2.2.2.1, .int v0.2.2.2.2.2.2.1, .int v0.2.2.2.2.2.2.2.1, .int v0.2.2.2.2.2.2.2.2.1, .long v0.2.2.2.2.2.2.2.2.2.1, .int v0.2.2.2.2.2.2.2.2.2.2.1, .int v0.2.2.2.2.2.2.2.2.2.2.2.1, .int v0.2.2.2.2.2.2.2.2.2.2.2.2.1, .ref a4, .int v0.2.2.2.2.2.2.2.2.2.2.2.2.2.2.1, .int v0.2.2.2.2.2.2.2.2.2.2.2.2.2.2.2.1, .int v0.2.2.2.2.2.2.2.2.2.2.2.2.2.2.2.2.1, .int v0.2.2.2.2.2.2.2.2.2.2.2.2.2.2.2.2.2.1, .int v0.2.2.2.2.2.2.2.2.2.2.2.2.2.2.2.2.2.2.1, .long v0.2.2.2.2.2.2.2.2.2.2.2.2.2.2.2.2.2.2.2.1, .long v0.2.2.2.2.2.2.2.2.2.2.2.2.2.2.2.2.2.2.2.2.1, .ref a5])), (a1, .inl (ca 0, 4725, .inl v0.2.1))] H → va_D A [(a0, .inr (12, [.int v0.1, .ref a1, .ref a2, .ref a3, .int v0.2.2.2.2.1, .int v0.2.2.2.2.2.1, .int v0.2.2.2.2.2.2.1, .int v0.2.2.2.2.2.2.2.1, .int v0.2.2.2.2.2.2.2.2.1, .long v0.2.2.2.2.2.2.2.2.2.1, .int v0.2.2.2.2.2.2.2.2.2.2.1, .int v0.2.2.2.2.2.2.2.2.2.2.2.1, .int v0.2.2.2.2.2.2.2.2.2.2.2.2.1, .ref a4, .int v0.2.2.2.2.2.2.2.2.2.2.2.2.2.2.1, .int v0.2.2.2.2.2.2.2.2.2.2.2.2.2.2.2.1, .int v0.2.2.2.2.2.2.2.2.2.2.2.2.2.2.2.2.1, .int v0.2.2.2.2.2.2.2.2.2.2.2.2.2.2.2.2.2.1, .int v0.2.2.2.2.2.2.2.2.2.2.2.2.2.2.2.2.2.2.1, .long v0.2.2.2.2.2.2.2.2.2.2.2.2.2.2.2.2.2.2.2.1, .long v0.2.2.2.2.2.2.2.2.2.2.2.2.2.2.2.2.2.2.2.2.1, .ref a5])), (a1, .inl (ca 0, 4725, .inl v0.2.1))] → va_S A s.heap H locs → lv_has ls 5 [(0, .ref a0), (1, .int x1), (2, .int x2), (3, .int x3), (4, .int x4)] → W p l e ({ frames := 2, cells := 0, slots := 0, locals := 43 } : Room) s m args below meth c H locs 0 0 Q (F0 m 5 ls []) := by
    intro k5 q5 x1 x2 x3 x4 hf H locs ls hP hD hS hl
    unfold fl_X12_ofColumn_5 at hf
    refine lv_iload hx hb dX12_ofColumn_5 (lv_at hl 4 rfl) ?_
    refine lv_aload_n hx hb dX12_ofColumn_7 rfl (lv_at hl 0 rfl) ?_
    refine va_get (C := RX12) (T := TX12) (N := 22) hx hb hts i12 hown hK hP 0 rfl rfl 1 (Nat.le_of_ble_eq_true rfl) w0 (fun _ h9 => h9) rfl dX12_ofColumn_8 ?_
    refine lv_sipush (v := 701) hx hb dX12_ofColumn_11 rfl ?_
    refine xiald hx hb hK hP 1 rfl hf dX12_ofColumn_14 (fun hf => ?_)
    refine xc_ge (tgt := 49) hx hb dX12_ofColumn_15 (by decide) hf (fun hf => ?_) (fun hf => ?_)
    · refine lv_iload_n hx hb dX12_ofColumn_49 rfl (lv_at hl 3 rfl) ?_
      refine lv_iload_n hx hb dX12_ofColumn_50 rfl (lv_at hl 2 rfl) ?_
      refine lv_iload_n hx hb dX12_ofColumn_51 rfl (lv_at hl 3 rfl) ?_
      refine lv_isub hx hb dX12_ofColumn_52 ?_
      obtain ⟨r_1, hc1, hf⟩ := bnd1_el hf
      refine xS_I (As := [.int x3, .int (x2 - x3)]) (wx := [(a0, .inr (12, [.int v0.1, .ref a1, .ref a2, .ref a3, .int v0.2.2.2.2.1, .int v0.2.2.2.2.2.1, .int v0.2.2.2.2.2.2.1, .int v0.2.2.2.2.2.2.2.1, .int v0.2.2.2.2.2.2.2.2.1, .long v0.2.2.2.2.2.2.2.2.2.1, .int v0.2.2.2.2.2.2.2.2.2.2.1, .int v0.2.2.2.2.2.2.2.2.2.2.2.1, .int v0.2.2.2.2.2.2.2.2.2.2.2.2.1, .ref a4, .int v0.2.2.2.2.2.2.2.2.2.2.2.2.2.2.1, .int v0.2.2.2.2.2.2.2.2.2.2.2.2.2.2.2.1, .int v0.2.2.2.2.2.2.2.2.2.2.2.2.2.2.2.2.1, .int v0.2.2.2.2.2.2.2.2.2.2.2.2.2.2.2.2.2.1, .int v0.2.2.2.2.2.2.2.2.2.2.2.2.2.2.2.2.2.2.1, .long v0.2.2.2.2.2.2.2.2.2.2.2.2.2.2.2.2.2.2.2.1, .long v0.2.2.2.2.2.2.2.2.2.2.2.2.2.2.2.2.2.2.2.2.1, .ref a5])), (a1, .inl (ca 0, 4725, .inl v0.2.1))]) ⟨hx, hb, hml, hown, hts⟩ (c_X12_greater l D ca zz  _ x3 (x2 - x3) r_1 hc1) (va_cwS 2 hts (gS gw_6_184 gw_6_185 gw_1_15 gw_6_186) rfl rfl rfl (by decide +kernel) ⟨(Nat.le_of_ble_eq_true rfl), (Nat.le_of_ble_eq_true rfl)⟩) hK hN hZ hA hP hD hS [] [none, none] (by decide +kernel) rfl rfl rfl rfl hl.1 rfl (Nat.le_of_ble_eq_true rfl) dX12_ofColumn_53 ⟨Nat.zero_le _, Nat.zero_le _⟩ rfl (fun H locs hP hD hS => ?_)
      have he := Option.some.inj hf
      have e_r := he
      refine rt_I hx hb hr hlocks hK hP hD hS hQ e_r ?_ dX12_ofColumn_56
      rfl
    · refine lv_iload_n hx hb dX12_ofColumn_18 rfl (lv_at hl 3 rfl) ?_
      refine lv_aload_n hx hb dX12_ofColumn_19 rfl (lv_at hl 0 rfl) ?_
      refine lv_iload hx hb dX12_ofColumn_20 (lv_at hl 4 rfl) ?_
      obtain ⟨r_2, hc2, hf⟩ := bnd1_el hf
      refine xV_I (As := [.int x4]) (wx := [(a0, .inr (12, [.int v0.1, .ref a1, .ref a2, .ref a3, .int v0.2.2.2.2.1, .int v0.2.2.2.2.2.1, .int v0.2.2.2.2.2.2.1, .int v0.2.2.2.2.2.2.2.1, .int v0.2.2.2.2.2.2.2.2.1, .long v0.2.2.2.2.2.2.2.2.2.1, .int v0.2.2.2.2.2.2.2.2.2.2.1, .int v0.2.2.2.2.2.2.2.2.2.2.2.1, .int v0.2.2.2.2.2.2.2.2.2.2.2.2.1, .ref a4, .int v0.2.2.2.2.2.2.2.2.2.2.2.2.2.2.1, .int v0.2.2.2.2.2.2.2.2.2.2.2.2.2.2.2.1, .int v0.2.2.2.2.2.2.2.2.2.2.2.2.2.2.2.2.1, .int v0.2.2.2.2.2.2.2.2.2.2.2.2.2.2.2.2.2.1, .int v0.2.2.2.2.2.2.2.2.2.2.2.2.2.2.2.2.2.2.1, .long v0.2.2.2.2.2.2.2.2.2.2.2.2.2.2.2.2.2.2.2.1, .long v0.2.2.2.2.2.2.2.2.2.2.2.2.2.2.2.2.2.2.2.2.1, .ref a5])), (a1, .inl (ca 0, 4725, .inl v0.2.1))]) ⟨hx, hb, hml, hown, hts⟩ (c_X12_isWhole l D ca zz a0 a1 a2 a3 a4 a5 _ v0 x4 r_2 hc2) (cwV 1 hts (gV gw_7_9 gw_7_11 gw_s_5_6 gw_1_15 gw_7_12) rfl rfl rfl (by decide +kernel) ⟨(Nat.le_of_ble_eq_true rfl), (Nat.le_of_ble_eq_true rfl)⟩) hK hN hZ hA hP hD hS [0, 1] [some 0, some 1] (by decide +kernel) rfl rfl rfl rfl 0 rfl rfl hl.1 rfl (Nat.le_of_ble_eq_true rfl) dX12_ofColumn_22 ⟨Nat.zero_le _, Nat.zero_le _⟩ rfl (fun H locs hP hD hS => ?_)
      refine xi_eq (tgt := 40) hx hb dX12_ofColumn_25 (by decide) hf (fun hf => ?_) (fun hf => ?_)
      · refine lv_iconst (v := 0) hx hb dX12_ofColumn_40 rfl ?_
        refine lv_iadd hx hb dX12_ofColumn_41 ?_
        refine xnm hf (fun x_3 hf => ?_)
        refine lv_istore_n (lv' := [(3, .int x_3), (0, .ref a0), (1, .int x1), (2, .int x2), (4, .int x4)]) hx hb dX12_ofColumn_42 rfl hl (Nat.le_of_ble_eq_true rfl) rfl (fun ls hl => ?_)
        obtain ⟨x_4, ex_4, hf⟩ := bnd_el hf
        refine lv_iinc (v := x_4) (lv' := [(4, .int x_4), (3, .int x_3), (0, .ref a0), (1, .int x1), (2, .int x2)]) hx hb dX12_ofColumn_43 hl (k := 4) rfl (by rw [ex_4]; rfl) (Nat.le_of_ble_eq_true rfl) rfl (fun ls hl => ?_)
        refine lv_goto (tgt := 5) hx hb dX12_ofColumn_46 (by decide) ?_
        exact q5 x1 x2 x_3 x_4 hf _ _ _ hP hD hS (lv_sub hl [2, 3, 4, 1, 0] rfl)
      · refine lv_aload_n hx hb dX12_ofColumn_28 rfl (lv_at hl 0 rfl) ?_
        refine lv_iload hx hb dX12_ofColumn_29 (lv_at hl 4 rfl) ?_
        refine lv_iconst (v := 1) hx hb dX12_ofColumn_31 rfl ?_
        refine lv_iload_n hx hb dX12_ofColumn_32 rfl (lv_at hl 1 rfl) ?_
        refine lv_iadd hx hb dX12_ofColumn_33 ?_
        obtain ⟨r_5, hc5, hf⟩ := bnd1_el hf
        refine xV_I (As := [.int x4, .int ((1 : Int32) + x1)]) (wx := [(a0, .inr (12, [.int v0.1, .ref a1, .ref a2, .ref a3, .int v0.2.2.2.2.1, .int v0.2.2.2.2.2.1, .int v0.2.2.2.2.2.2.1, .int v0.2.2.2.2.2.2.2.1, .int v0.2.2.2.2.2.2.2.2.1, .long v0.2.2.2.2.2.2.2.2.2.1, .int v0.2.2.2.2.2.2.2.2.2.2.1, .int v0.2.2.2.2.2.2.2.2.2.2.2.1, .int v0.2.2.2.2.2.2.2.2.2.2.2.2.1, .ref a4, .int v0.2.2.2.2.2.2.2.2.2.2.2.2.2.2.1, .int v0.2.2.2.2.2.2.2.2.2.2.2.2.2.2.2.1, .int v0.2.2.2.2.2.2.2.2.2.2.2.2.2.2.2.2.1, .int v0.2.2.2.2.2.2.2.2.2.2.2.2.2.2.2.2.2.1, .int v0.2.2.2.2.2.2.2.2.2.2.2.2.2.2.2.2.2.2.1, .long v0.2.2.2.2.2.2.2.2.2.2.2.2.2.2.2.2.2.2.2.1, .long v0.2.2.2.2.2.2.2.2.2.2.2.2.2.2.2.2.2.2.2.2.1, .ref a5])), (a1, .inl (ca 0, 4725, .inl v0.2.1))]) ⟨hx, hb, hml, hown, hts⟩ (c_X12_rowAt l D ca zz a0 a1 a2 a3 a4 a5 _ v0 x4 ((1 : Int32) + x1) r_5 hc5) (cwV 2 hts (gV gw_6_160 gw_6_162 gw_s_4_9 gw_1_15 gw_6_163) rfl rfl rfl (by decide +kernel) ⟨(Nat.le_of_ble_eq_true rfl), (Nat.le_of_ble_eq_true rfl)⟩) hK hN hZ hA hP hD hS [0, 1] [some 0, some 1] (by decide +kernel) rfl rfl rfl rfl 0 rfl rfl hl.1 rfl (Nat.le_of_ble_eq_true rfl) dX12_ofColumn_34 ⟨Nat.zero_le _, Nat.zero_le _⟩ rfl (fun H locs hP hD hS => ?_)
        refine lv_goto (tgt := 41) hx hb dX12_ofColumn_37 (by decide) ?_
        refine lv_iadd hx hb dX12_ofColumn_41 ?_
        refine xnm hf (fun x_6 hf => ?_)
        refine lv_istore_n (lv' := [(3, .int x_6), (0, .ref a0), (1, .int x1), (2, .int x2), (4, .int x4)]) hx hb dX12_ofColumn_42 rfl hl (Nat.le_of_ble_eq_true rfl) rfl (fun ls hl => ?_)
        obtain ⟨x_7, ex_7, hf⟩ := bnd_el hf
        refine lv_iinc (v := x_7) (lv' := [(4, .int x_7), (3, .int x_6), (0, .ref a0), (1, .int x1), (2, .int x2)]) hx hb dX12_ofColumn_43 hl (k := 4) rfl (by rw [ex_7]; rfl) (Nat.le_of_ble_eq_true rfl) rfl (fun ls hl => ?_)
        refine lv_goto (tgt := 5) hx hb dX12_ofColumn_46 (by decide) ?_
        exact q5 x1 x2 x_6 x_7 hf _ _ _ hP hD hS (lv_sub hl [2, 3, 4, 1, 0] rfl)
  have b5 : ∀ (n : Nat) (x1 : Int32) (x2 : Int32) (x3 : Int32) (x4 : Int32), fb_X12_ofColumn_5 v0 n x1 x2 x3 x4 = some r → ∀ (H : Heap) (locs : List Loc) (ls : Array Slot), va_P D vwCl [(a0, .inr (12, [.int v0.1, .ref a1, .ref a2, .ref a3, .int v0.2.2.2.2.1, .int v0.2.2.2.2.2.1, .int v0.2.2.2.2.2.2.1, .int v0.2.2.2.2.2.2.2.1, .int v0.2.2.2.2.2.2.2.2.1, .long v0.2.2.2.2.2.2.2.2.2.1, .int v0.2.2.2.2.2.2.2.2.2.2.1, .int v0.2.2.2.2.2.2.2.2.2.2.2.1, .int v0.2.2.2.2.2.2.2.2.2.2.2.2.1, .ref a4, .int v0.2.2.2.2.2.2.2.2.2.2.2.2.2.2.1, .int v0.2.2.2.2.2.2.2.2.2.2.2.2.2.2.2.1, .int v0.2.2.2.2.2.2.2.2.2.2.2.2.2.2.2.2.1, .int v0.2.2.2.2.2.2.2.2.2.2.2.2.2.2.2.2.2.1, .int v0.2.2.2.2.2.2.2.2.2.2.2.2.2.2.2.2.2.2.1, .long v0.2.2.2.2.2.2.2.2.2.2.2.2.2.2.2.2.2.2.2.1, .long v0.2.2.2.2.2.2.2.2.2.2.2.2.2.2.2.2.2.2.2.2.1, .ref a5])), (a1, .inl (ca 0, 4725, .inl v0.2.1))] H → va_D A [(a0, .inr (12, [.int v0.1, .ref a1, .ref a2, .ref a3, .int v0.2.2.2.2.1, .int v0.2.2.2.2.2.1, .int v0.2.2.2.2.2.2.1, .int v0.2.2.2.2.2.2.2.1, .int v0.2.2.2.2.2.2.2.2.1, .long v0.2.2.2.2.2.2.2.2.2.1, .int v0.2.2.2.2.2.2.2.2.2.2.1, .int v0.2.2.2.2.2.2.2.2.2.2.2.1, .int v0.2.2.2.2.2.2.2.2.2.2.2.2.1, .ref a4, .int v0.2.2.2.2.2.2.2.2.2.2.2.2.2.2.1, .int v0.2.2.2.2.2.2.2.2.2.2.2.2.2.2.2.1, .int v0.2.2.2.2.2.2.2.2.2.2.2.2.2.2.2.2.1, .int v0.2.2.2.2.2.2.2.2.2.2.2.2.2.2.2.2.2.1, .int v0.2.2.2.2.2.2.2.2.2.2.2.2.2.2.2.2.2.2.1, .long v0.2.2.2.2.2.2.2.2.2.2.2.2.2.2.2.2.2.2.2.1, .long v0.2.2.2.2.2.2.2.2.2.2.2.2.2.2.2.2.2.2.2.2.1, .ref a5])), (a1, .inl (ca 0, 4725, .inl v0.2.1))] → va_S A s.heap H locs → lv_has ls 5 [(0, .ref a0), (1, .int x1), (2, .int x2), (3, .int x3), (4, .int x4)] → W p l e ({ frames := 2, cells := 0, slots := 0, locals := 43 } : Room) s m args below meth c H locs 0 0 Q (F0 m 5 ls []) := by
    intro n
    induction n with
    | zero => intro x1 x2 x3 x4 hf; exact no_el hf
    | succ n ih => exact bl5 (fb_X12_ofColumn_5 v0 n) ih
  unfold f_X12_ofColumn at hf
  refine lv_iconst (v := 0) hx hb dX12_ofColumn_0 rfl ?_
  refine lv_istore_n (lv' := [(3, .int (0 : Int32)), (0, .ref a0), (1, .int p1), (2, .int p2)]) hx hb dX12_ofColumn_1 rfl hl (Nat.le_of_ble_eq_true rfl) rfl (fun ls hl => ?_)
  refine lv_iconst (v := 0) hx hb dX12_ofColumn_2 rfl ?_
  refine lv_istore (lv' := [(4, .int (0 : Int32)), (3, .int (0 : Int32)), (0, .ref a0), (1, .int p1), (2, .int p2)]) hx hb dX12_ofColumn_3 hl (Nat.le_of_ble_eq_true rfl) rfl (fun ls hl => ?_)
  exact b5 FU p1 p2 (0 : Int32) (0 : Int32) hf _ _ _ hP hD hS (lv_sub hl [2, 3, 4, 1, 0] rfl)
abbrev wq_X12_compared : List Cond := Cond.code yX12_compared cX12_compared 8 (some .int) :: GL
set_option maxHeartbeats 4000000 in
set_option maxRecDepth 100000 in
theorem c_X12_compared (l : Launch) (D : va_G) (ca : Nat → ClassId) (zz : Nat → Nat) (a0 a1 a2 a3 a4 a5 : Nat) (sz : Nat) (v0 : V12) (p1 : Int32) (r : Int32) (v0' : V12) (hf : f_X12_compared v0 p1 = some (r, v0')) : Met l yX12_compared wq_X12_compared ({ frames := 3, cells := 0, slots := 0, locals := 71 } : Room) (PR D ca zz [.ref a0, .int p1] sz [(a0, .inr (12, [.int v0.1, .ref a1, .ref a2, .ref a3, .int v0.2.2.2.2.1, .int v0.2.2.2.2.2.1, .int v0.2.2.2.2.2.2.1, .int v0.2.2.2.2.2.2.2.1, .int v0.2.2.2.2.2.2.2.2.1, .long v0.2.2.2.2.2.2.2.2.2.1, .int v0.2.2.2.2.2.2.2.2.2.2.1, .int v0.2.2.2.2.2.2.2.2.2.2.2.1, .int v0.2.2.2.2.2.2.2.2.2.2.2.2.1, .ref a4, .int v0.2.2.2.2.2.2.2.2.2.2.2.2.2.2.1, .int v0.2.2.2.2.2.2.2.2.2.2.2.2.2.2.2.1, .int v0.2.2.2.2.2.2.2.2.2.2.2.2.2.2.2.2.1, .int v0.2.2.2.2.2.2.2.2.2.2.2.2.2.2.2.2.2.1, .int v0.2.2.2.2.2.2.2.2.2.2.2.2.2.2.2.2.2.2.1, .long v0.2.2.2.2.2.2.2.2.2.2.2.2.2.2.2.2.2.2.2.1, .long v0.2.2.2.2.2.2.2.2.2.2.2.2.2.2.2.2.2.2.2.2.1, .ref a5])), (a1, .inl (ca 0, 4725, .inl v0.2.1)), (a2, .inl (ca 2, 1500, .inl v0.2.2.1)), (a3, .inl (ca 3, 3, .inl v0.2.2.2.1)), (a4, .inl (ca 0, 22, .inl v0.2.2.2.2.2.2.2.2.2.2.2.2.2.1)), (a5, .inl (ca 0, 256, .inl v0.2.2.2.2.2.2.2.2.2.2.2.2.2.2.2.2.2.2.2.2.2))]) (QI D ca r [(a0, .inr (12, [.int v0'.1, .ref a1, .ref a2, .ref a3, .int v0'.2.2.2.2.1, .int v0'.2.2.2.2.2.1, .int v0'.2.2.2.2.2.2.1, .int v0'.2.2.2.2.2.2.2.1, .int v0'.2.2.2.2.2.2.2.2.1, .long v0'.2.2.2.2.2.2.2.2.2.1, .int v0'.2.2.2.2.2.2.2.2.2.2.1, .int v0'.2.2.2.2.2.2.2.2.2.2.2.1, .int v0'.2.2.2.2.2.2.2.2.2.2.2.2.1, .ref a4, .int v0'.2.2.2.2.2.2.2.2.2.2.2.2.2.2.1, .int v0'.2.2.2.2.2.2.2.2.2.2.2.2.2.2.2.1, .int v0'.2.2.2.2.2.2.2.2.2.2.2.2.2.2.2.2.1, .int v0'.2.2.2.2.2.2.2.2.2.2.2.2.2.2.2.2.2.1, .int v0'.2.2.2.2.2.2.2.2.2.2.2.2.2.2.2.2.2.2.1, .long v0'.2.2.2.2.2.2.2.2.2.2.2.2.2.2.2.2.2.2.2.1, .long v0'.2.2.2.2.2.2.2.2.2.2.2.2.2.2.2.2.2.2.2.2.1, .ref a5])), (a1, .inl (ca 0, 4725, .inl v0'.2.1)), (a2, .inl (ca 2, 1500, .inl v0'.2.2.1)), (a3, .inl (ca 3, 3, .inl v0'.2.2.2.1)), (a4, .inl (ca 0, 22, .inl v0'.2.2.2.2.2.2.2.2.2.2.2.2.2.1)), (a5, .inl (ca 0, 256, .inl v0'.2.2.2.2.2.2.2.2.2.2.2.2.2.2.2.2.2.2.2.2.2))] (va_A [(a0, .inr (12, [.int v0.1, .ref a1, .ref a2, .ref a3, .int v0.2.2.2.2.1, .int v0.2.2.2.2.2.1, .int v0.2.2.2.2.2.2.1, .int v0.2.2.2.2.2.2.2.1, .int v0.2.2.2.2.2.2.2.2.1, .long v0.2.2.2.2.2.2.2.2.2.1, .int v0.2.2.2.2.2.2.2.2.2.2.1, .int v0.2.2.2.2.2.2.2.2.2.2.2.1, .int v0.2.2.2.2.2.2.2.2.2.2.2.2.1, .ref a4, .int v0.2.2.2.2.2.2.2.2.2.2.2.2.2.2.1, .int v0.2.2.2.2.2.2.2.2.2.2.2.2.2.2.2.1, .int v0.2.2.2.2.2.2.2.2.2.2.2.2.2.2.2.2.1, .int v0.2.2.2.2.2.2.2.2.2.2.2.2.2.2.2.2.2.1, .int v0.2.2.2.2.2.2.2.2.2.2.2.2.2.2.2.2.2.2.1, .long v0.2.2.2.2.2.2.2.2.2.2.2.2.2.2.2.2.2.2.2.1, .long v0.2.2.2.2.2.2.2.2.2.2.2.2.2.2.2.2.2.2.2.2.1, .ref a5])), (a1, .inl (ca 0, 4725, .inl v0.2.1)), (a2, .inl (ca 2, 1500, .inl v0.2.2.1)), (a3, .inl (ca 3, 3, .inl v0.2.2.2.1)), (a4, .inl (ca 0, 22, .inl v0.2.2.2.2.2.2.2.2.2.2.2.2.2.1)), (a5, .inl (ca 0, 256, .inl v0.2.2.2.2.2.2.2.2.2.2.2.2.2.2.2.2.2.2.2.2.2))] sz)) 0 0 (va_A [(a0, .inr (12, [.int v0.1, .ref a1, .ref a2, .ref a3, .int v0.2.2.2.2.1, .int v0.2.2.2.2.2.1, .int v0.2.2.2.2.2.2.1, .int v0.2.2.2.2.2.2.2.1, .int v0.2.2.2.2.2.2.2.2.1, .long v0.2.2.2.2.2.2.2.2.2.1, .int v0.2.2.2.2.2.2.2.2.2.2.1, .int v0.2.2.2.2.2.2.2.2.2.2.2.1, .int v0.2.2.2.2.2.2.2.2.2.2.2.2.1, .ref a4, .int v0.2.2.2.2.2.2.2.2.2.2.2.2.2.2.1, .int v0.2.2.2.2.2.2.2.2.2.2.2.2.2.2.2.1, .int v0.2.2.2.2.2.2.2.2.2.2.2.2.2.2.2.2.1, .int v0.2.2.2.2.2.2.2.2.2.2.2.2.2.2.2.2.2.1, .int v0.2.2.2.2.2.2.2.2.2.2.2.2.2.2.2.2.2.2.1, .long v0.2.2.2.2.2.2.2.2.2.2.2.2.2.2.2.2.2.2.2.1, .long v0.2.2.2.2.2.2.2.2.2.2.2.2.2.2.2.2.2.2.2.2.1, .ref a5])), (a1, .inl (ca 0, 4725, .inl v0.2.1)), (a2, .inl (ca 2, 1500, .inl v0.2.2.1)), (a3, .inl (ca 3, 3, .inl v0.2.2.2.1)), (a4, .inl (ca 0, 22, .inl v0.2.2.2.2.2.2.2.2.2.2.2.2.2.1)), (a5, .inl (ca 0, 256, .inl v0.2.2.2.2.2.2.2.2.2.2.2.2.2.2.2.2.2.2.2.2.2))] sz) := by
  refine en (y := yX12_compared) (wsm := wq_X12_compared) (av := [.ref a0, .int p1]) (cc := cX12_compared) (maxL := 8) (ret := (some .int)) (Qf := fun A => (QI D ca r [(a0, .inr (12, [.int v0'.1, .ref a1, .ref a2, .ref a3, .int v0'.2.2.2.2.1, .int v0'.2.2.2.2.2.1, .int v0'.2.2.2.2.2.2.1, .int v0'.2.2.2.2.2.2.2.1, .int v0'.2.2.2.2.2.2.2.2.1, .long v0'.2.2.2.2.2.2.2.2.2.1, .int v0'.2.2.2.2.2.2.2.2.2.2.1, .int v0'.2.2.2.2.2.2.2.2.2.2.2.1, .int v0'.2.2.2.2.2.2.2.2.2.2.2.2.1, .ref a4, .int v0'.2.2.2.2.2.2.2.2.2.2.2.2.2.2.1, .int v0'.2.2.2.2.2.2.2.2.2.2.2.2.2.2.2.1, .int v0'.2.2.2.2.2.2.2.2.2.2.2.2.2.2.2.2.1, .int v0'.2.2.2.2.2.2.2.2.2.2.2.2.2.2.2.2.2.1, .int v0'.2.2.2.2.2.2.2.2.2.2.2.2.2.2.2.2.2.2.1, .long v0'.2.2.2.2.2.2.2.2.2.2.2.2.2.2.2.2.2.2.2.1, .long v0'.2.2.2.2.2.2.2.2.2.2.2.2.2.2.2.2.2.2.2.2.1, .ref a5])), (a1, .inl (ca 0, 4725, .inl v0'.2.1)), (a2, .inl (ca 2, 1500, .inl v0'.2.2.1)), (a3, .inl (ca 3, 3, .inl v0'.2.2.2.1)), (a4, .inl (ca 0, 22, .inl v0'.2.2.2.2.2.2.2.2.2.2.2.2.2.1)), (a5, .inl (ca 0, 256, .inl v0'.2.2.2.2.2.2.2.2.2.2.2.2.2.2.2.2.2.2.2.2.2))] A)) (by decide) rfl (Nat.le_of_ble_eq_true rfl) ?_
  intro p e s m args below meth c A Q ls hx hb hr hml hown hts hlocks hnm hA hN hZ hK hQ hP hD hS hl
  have w0 := hts _ (List.mem_cons_of_mem _ gw_5_115)
  have w1 := hts _ (List.mem_cons_of_mem _ gw_5_116)
  have i12 : ∀ w ∈ u_ws RX12 TX12 22, w ∈ wq_X12_compared := fun w h => List.mem_cons_of_mem _ (inX12 w h)
  have b188 : ∀ (v0 : V12) (x1 : Int32) (x2 : Int32) (x3 : Int32) (x4 : Int32), fc_X12_compared_188 v0 x1 x2 x3 x4 = some (r, v0') → ∀ (H : Heap) (locs : List Loc) (ls : Array Slot), va_P D vwCl [(a0, .inr (12, [.int v0.1, .ref a1, .ref a2, .ref a3, .int v0.2.2.2.2.1, .int v0.2.2.2.2.2.1, .int v0.2.2.2.2.2.2.1, .int v0.2.2.2.2.2.2.2.1, .int v0.2.2.2.2.2.2.2.2.1, .long v0.2.2.2.2.2.2.2.2.2.1, .int v0.2.2.2.2.2.2.2.2.2.2.1, .int v0.2.2.2.2.2.2.2.2.2.2.2.1, .int v0.2.2.2.2.2.2.2.2.2.2.2.2.1, .ref a4, .int v0.2.2.2.2.2.2.2.2.2.2.2.2.2.2.1, .int v0.2.2.2.2.2.2.2.2.2.2.2.2.2.2.2.1, .int v0.2.2.2.2.2.2.2.2.2.2.2.2.2.2.2.2.1, .int v0.2.2.2.2.2.2.2.2.2.2.2.2.2.2.2.2.2.1, .int v0.2.2.2.2.2.2.2.2.2.2.2.2.2.2.2.2.2.2.1, .long v0.2.2.2.2.2.2.2.2.2.2.2.2.2.2.2.2.2.2.2.1, .long v0.2.2.2.2.2.2.2.2.2.2.2.2.2.2.2.2.2.2.2.2.1, .ref a5])), (a1, .inl (ca 0, 4725, .inl v0.2.1)), (a2, .inl (ca 2, 1500, .inl v0.2.2.1)), (a3, .inl (ca 3, 3, .inl v0.2.2.2.1)), (a4, .inl (ca 0, 22, .inl v0.2.2.2.2.2.2.2.2.2.2.2.2.2.1)), (a5, .inl (ca 0, 256, .inl v0.2.2.2.2.2.2.2.2.2.2.2.2.2.2.2.2.2.2.2.2.2))] H → va_D A [(a0, .inr (12, [.int v0.1, .ref a1, .ref a2, .ref a3, .int v0.2.2.2.2.1, .int v0.2.2.2.2.2.1, .int v0.2.2.2.2.2.2.1, .int v0.2.2.2.2.2.2.2.1, .int v0.2.2.2.2.2.2.2.2.1, .long v0.2.2.2.2.2.2.2.2.2.1, .int v0.2.2.2.2.2.2.2.2.2.2.1, .int v0.2.2.2.2.2.2.2.2.2.2.2.1, .int v0.2.2.2.2.2.2.2.2.2.2.2.2.1, .ref a4, .int v0.2.2.2.2.2.2.2.2.2.2.2.2.2.2.1, .int v0.2.2.2.2.2.2.2.2.2.2.2.2.2.2.2.1, .int v0.2.2.2.2.2.2.2.2.2.2.2.2.2.2.2.2.1, .int v0.2.2.2.2.2.2.2.2.2.2.2.2.2.2.2.2.2.1, .int v0.2.2.2.2.2.2.2.2.2.2.2.2.2.2.2.2.2.2.1, .long v0.2.2.2.2.2.2.2.2.2.2.2.2.2.2.2.2.2.2.2.1, .long v0.2.2.2.2.2.2.2.2.2.2.2.2.2.2.2.2.2.2.2.2.1, .ref a5])), (a1, .inl (ca 0, 4725, .inl v0.2.1)), (a2, .inl (ca 2, 1500, .inl v0.2.2.1)), (a3, .inl (ca 3, 3, .inl v0.2.2.2.1)), (a4, .inl (ca 0, 22, .inl v0.2.2.2.2.2.2.2.2.2.2.2.2.2.1)), (a5, .inl (ca 0, 256, .inl v0.2.2.2.2.2.2.2.2.2.2.2.2.2.2.2.2.2.2.2.2.2))] → va_S A s.heap H locs → lv_has ls 8 [(1, .int x1), (2, .int x2), (3, .int x3), (4, .int x4)] → W p l e ({ frames := 3, cells := 0, slots := 0, locals := 71 } : Room) s m args below meth c H locs 0 0 Q (F0 m 188 ls []) := by
    intro v0 x1 x2 x3 x4 hf H locs ls hP hD hS hl
    unfold fc_X12_compared_188 at hf
    refine lv_iload_n hx hb dX12_compared_188 rfl (lv_at hl 0 rfl) ?_
    refine xi_ne (tgt := 196) hx hb dX12_compared_189 (by decide) hf (fun hf => ?_) (fun hf => ?_)
    · refine lv_iload_n hx hb dX12_compared_196 rfl (lv_at hl 0 rfl) ?_
      refine lv_iconst (v := 3) hx hb dX12_compared_197 rfl ?_
      refine xc_ge (tgt := 205) hx hb dX12_compared_198 (by decide) hf (fun hf => ?_) (fun hf => ?_)
      · refine lv_iload hx hb dX12_compared_205 (lv_at hl 3 rfl) ?_
        have he := Option.some.inj hf
        obtain ⟨e_r, he⟩ := Prod.mk.inj he
        have e_v0 := he
        refine rt_I hx hb hr hlocks hK hP hD hS hQ e_r ?_ dX12_compared_207
        simp only [← e_v0]
      · refine lv_iload_n hx hb dX12_compared_201 rfl (lv_at hl 2 rfl) ?_
        refine lv_goto (tgt := 207) hx hb dX12_compared_202 (by decide) ?_
        have he := Option.some.inj hf
        obtain ⟨e_r, he⟩ := Prod.mk.inj he
        have e_v0 := he
        refine rt_I hx hb hr hlocks hK hP hD hS hQ e_r ?_ dX12_compared_207
        simp only [← e_v0]
    · refine lv_iload_n hx hb dX12_compared_192 rfl (lv_at hl 1 rfl) ?_
      refine lv_goto (tgt := 207) hx hb dX12_compared_193 (by decide) ?_
      have he := Option.some.inj hf
      obtain ⟨e_r, he⟩ := Prod.mk.inj he
      have e_v0 := he
      refine rt_I hx hb hr hlocks hK hP hD hS hQ e_r ?_ dX12_compared_207
      simp only [← e_v0]
  have b146 : ∀ (k124 : V12 → Int32 → Int32 → Int32 → Int32 → Int32 → Int32 → Option (Int32 × V12)) (q124 : ∀ (v0 : V12) (x1 : Int32) (x2 : Int32) (x3 : Int32) (x4 : Int32) (x5 : Int32) (x6 : Int32), k124 v0 x1 x2 x3 x4 x5 x6 = some (r, v0') → ∀ (H : Heap) (locs : List Loc) (ls : Array Slot), va_P D vwCl [(a0, .inr (12, [.int v0.1, .ref a1, .ref a2, .ref a3, .int v0.2.2.2.2.1, .int v0.2.2.2.2.2.1, .int v0.2.2.2.2.2.2.1, .int v0.2.2.2.2.2.2.2.1, .int v0.2.2.2.2.2.2.2.2.1, .long v0.2.2.2.2.2.2.2.2.2.1, .int v0.2.2.2.2.2.2.2.2.2.2.1, .int v0.2.2.2.2.2.2.2.2.2.2.2.1, .int v0.2.2.2.2.2.2.2.2.2.2.2.2.1, .ref a4, .int v0.2.2.2.2.2.2.2.2.2.2.2.2.2.2.1, .int v0.2.2.2.2.2.2.2.2.2.2.2.2.2.2.2.1, .int v0.2.2.2.2.2.2.2.2.2.2.2.2.2.2.2.2.1, .int v0.2.2.2.2.2.2.2.2.2.2.2.2.2.2.2.2.2.1, .int v0.2.2.2.2.2.2.2.2.2.2.2.2.2.2.2.2.2.2.1, .long v0.2.2.2.2.2.2.2.2.2.2.2.2.2.2.2.2.2.2.2.1, .long v0.2.2.2.2.2.2.2.2.2.2.2.2.2.2.2.2.2.2.2.2.1, .ref a5])), (a1, .inl (ca 0, 4725, .inl v0.2.1)), (a2, .inl (ca 2, 1500, .inl v0.2.2.1)), (a3, .inl (ca 3, 3, .inl v0.2.2.2.1)), (a4, .inl (ca 0, 22, .inl v0.2.2.2.2.2.2.2.2.2.2.2.2.2.1)), (a5, .inl (ca 0, 256, .inl v0.2.2.2.2.2.2.2.2.2.2.2.2.2.2.2.2.2.2.2.2.2))] H → va_D A [(a0, .inr (12, [.int v0.1, .ref a1, .ref a2, .ref a3, .int v0.2.2.2.2.1, .int v0.2.2.2.2.2.1, .int v0.2.2.2.2.2.2.1, .int v0.2.2.2.2.2.2.2.1, .int v0.2.2.2.2.2.2.2.2.1, .long v0.2.2.2.2.2.2.2.2.2.1, .int v0.2.2.2.2.2.2.2.2.2.2.1, .int v0.2.2.2.2.2.2.2.2.2.2.2.1, .int v0.2.2.2.2.2.2.2.2.2.2.2.2.1, .ref a4, .int v0.2.2.2.2.2.2.2.2.2.2.2.2.2.2.1, .int v0.2.2.2.2.2.2.2.2.2.2.2.2.2.2.2.1, .int v0.2.2.2.2.2.2.2.2.2.2.2.2.2.2.2.2.1, .int v0.2.2.2.2.2.2.2.2.2.2.2.2.2.2.2.2.2.1, .int v0.2.2.2.2.2.2.2.2.2.2.2.2.2.2.2.2.2.2.1, .long v0.2.2.2.2.2.2.2.2.2.2.2.2.2.2.2.2.2.2.2.1, .long v0.2.2.2.2.2.2.2.2.2.2.2.2.2.2.2.2.2.2.2.2.1, .ref a5])), (a1, .inl (ca 0, 4725, .inl v0.2.1)), (a2, .inl (ca 2, 1500, .inl v0.2.2.1)), (a3, .inl (ca 3, 3, .inl v0.2.2.2.1)), (a4, .inl (ca 0, 22, .inl v0.2.2.2.2.2.2.2.2.2.2.2.2.2.1)), (a5, .inl (ca 0, 256, .inl v0.2.2.2.2.2.2.2.2.2.2.2.2.2.2.2.2.2.2.2.2.2))] → va_S A s.heap H locs → lv_has ls 8 [(0, .ref a0), (1, .int x1), (2, .int x2), (3, .int x3), (4, .int x4), (5, .int x5), (6, .int x6)] → W p l e ({ frames := 3, cells := 0, slots := 0, locals := 71 } : Room) s m args below meth c H locs 0 0 Q (F0 m 124 ls [])) (v0 : V12) (x1 : Int32) (x2 : Int32) (x3 : Int32) (x4 : Int32) (x5 : Int32) (x6 : Int32), fc_X12_compared_146 k124 v0 x1 x2 x3 x4 x5 x6 = some (r, v0') → ∀ (H : Heap) (locs : List Loc) (ls : Array Slot), va_P D vwCl [(a0, .inr (12, [.int v0.1, .ref a1, .ref a2, .ref a3, .int v0.2.2.2.2.1, .int v0.2.2.2.2.2.1, .int v0.2.2.2.2.2.2.1, .int v0.2.2.2.2.2.2.2.1, .int v0.2.2.2.2.2.2.2.2.1, .long v0.2.2.2.2.2.2.2.2.2.1, .int v0.2.2.2.2.2.2.2.2.2.2.1, .int v0.2.2.2.2.2.2.2.2.2.2.2.1, .int v0.2.2.2.2.2.2.2.2.2.2.2.2.1, .ref a4, .int v0.2.2.2.2.2.2.2.2.2.2.2.2.2.2.1, .int v0.2.2.2.2.2.2.2.2.2.2.2.2.2.2.2.1, .int v0.2.2.2.2.2.2.2.2.2.2.2.2.2.2.2.2.1, .int v0.2.2.2.2.2.2.2.2.2.2.2.2.2.2.2.2.2.1, .int v0.2.2.2.2.2.2.2.2.2.2.2.2.2.2.2.2.2.2.1, .long v0.2.2.2.2.2.2.2.2.2.2.2.2.2.2.2.2.2.2.2.1, .long v0.2.2.2.2.2.2.2.2.2.2.2.2.2.2.2.2.2.2.2.2.1, .ref a5])), (a1, .inl (ca 0, 4725, .inl v0.2.1)), (a2, .inl (ca 2, 1500, .inl v0.2.2.1)), (a3, .inl (ca 3, 3, .inl v0.2.2.2.1)), (a4, .inl (ca 0, 22, .inl v0.2.2.2.2.2.2.2.2.2.2.2.2.2.1)), (a5, .inl (ca 0, 256, .inl v0.2.2.2.2.2.2.2.2.2.2.2.2.2.2.2.2.2.2.2.2.2))] H → va_D A [(a0, .inr (12, [.int v0.1, .ref a1, .ref a2, .ref a3, .int v0.2.2.2.2.1, .int v0.2.2.2.2.2.1, .int v0.2.2.2.2.2.2.1, .int v0.2.2.2.2.2.2.2.1, .int v0.2.2.2.2.2.2.2.2.1, .long v0.2.2.2.2.2.2.2.2.2.1, .int v0.2.2.2.2.2.2.2.2.2.2.1, .int v0.2.2.2.2.2.2.2.2.2.2.2.1, .int v0.2.2.2.2.2.2.2.2.2.2.2.2.1, .ref a4, .int v0.2.2.2.2.2.2.2.2.2.2.2.2.2.2.1, .int v0.2.2.2.2.2.2.2.2.2.2.2.2.2.2.2.1, .int v0.2.2.2.2.2.2.2.2.2.2.2.2.2.2.2.2.1, .int v0.2.2.2.2.2.2.2.2.2.2.2.2.2.2.2.2.2.1, .int v0.2.2.2.2.2.2.2.2.2.2.2.2.2.2.2.2.2.2.1, .long v0.2.2.2.2.2.2.2.2.2.2.2.2.2.2.2.2.2.2.2.1, .long v0.2.2.2.2.2.2.2.2.2.2.2.2.2.2.2.2.2.2.2.2.1, .ref a5])), (a1, .inl (ca 0, 4725, .inl v0.2.1)), (a2, .inl (ca 2, 1500, .inl v0.2.2.1)), (a3, .inl (ca 3, 3, .inl v0.2.2.2.1)), (a4, .inl (ca 0, 22, .inl v0.2.2.2.2.2.2.2.2.2.2.2.2.2.1)), (a5, .inl (ca 0, 256, .inl v0.2.2.2.2.2.2.2.2.2.2.2.2.2.2.2.2.2.2.2.2.2))] → va_S A s.heap H locs → lv_has ls 8 [(0, .ref a0), (1, .int x1), (2, .int x2), (3, .int x3), (4, .int x4), (5, .int x5), (6, .int x6)] → W p l e ({ frames := 3, cells := 0, slots := 0, locals := 71 } : Room) s m args below meth c H locs 0 0 Q (F0 m 146 ls []) := by
    intro k124 q124 v0 x1 x2 x3 x4 x5 x6 hf H locs ls hP hD hS hl
    unfold fc_X12_compared_146 at hf
    refine lv_aload_n hx hb dX12_compared_146 rfl (lv_at hl 0 rfl) ?_
    refine lv_iload hx hb dX12_compared_147 (lv_at hl 6 rfl) ?_
    refine lv_iload_n hx hb dX12_compared_149 rfl (lv_at hl 2 rfl) ?_
    obtain ⟨r_5, hc5, hf⟩ := bnd1_el hf
    refine xV_I (As := [.int x6, .int x2]) (wx := [(a0, .inr (12, [.int v0.1, .ref a1, .ref a2, .ref a3, .int v0.2.2.2.2.1, .int v0.2.2.2.2.2.1, .int v0.2.2.2.2.2.2.1, .int v0.2.2.2.2.2.2.2.1, .int v0.2.2.2.2.2.2.2.2.1, .long v0.2.2.2.2.2.2.2.2.2.1, .int v0.2.2.2.2.2.2.2.2.2.2.1, .int v0.2.2.2.2.2.2.2.2.2.2.2.1, .int v0.2.2.2.2.2.2.2.2.2.2.2.2.1, .ref a4, .int v0.2.2.2.2.2.2.2.2.2.2.2.2.2.2.1, .int v0.2.2.2.2.2.2.2.2.2.2.2.2.2.2.2.1, .int v0.2.2.2.2.2.2.2.2.2.2.2.2.2.2.2.2.1, .int v0.2.2.2.2.2.2.2.2.2.2.2.2.2.2.2.2.2.1, .int v0.2.2.2.2.2.2.2.2.2.2.2.2.2.2.2.2.2.2.1, .long v0.2.2.2.2.2.2.2.2.2.2.2.2.2.2.2.2.2.2.2.1, .long v0.2.2.2.2.2.2.2.2.2.2.2.2.2.2.2.2.2.2.2.2.1, .ref a5])), (a1, .inl (ca 0, 4725, .inl v0.2.1)), (a2, .inl (ca 2, 1500, .inl v0.2.2.1)), (a3, .inl (ca 3, 3, .inl v0.2.2.2.1)), (a4, .inl (ca 0, 22, .inl v0.2.2.2.2.2.2.2.2.2.2.2.2.2.1)), (a5, .inl (ca 0, 256, .inl v0.2.2.2.2.2.2.2.2.2.2.2.2.2.2.2.2.2.2.2.2.2))]) ⟨hx, hb, hml, hown, hts⟩ (c_X12_ofColumn l D ca zz a0 a1 a2 a3 a4 a5 _ v0 x6 x2 r_5 hc5) (cwV 2 hts (gV gw_7_17 gw_7_19 gw_s_5_8 gw_1_15 gw_7_20) rfl rfl rfl (by decide +kernel) ⟨(Nat.le_of_ble_eq_true rfl), (Nat.le_of_ble_eq_true rfl)⟩) hK hN hZ hA hP hD hS [0, 1] [some 0, some 1, none, none, none, none] (by decide +kernel) rfl rfl rfl rfl 0 rfl rfl hl.1 rfl (Nat.le_of_ble_eq_true rfl) dX12_compared_150 ⟨Nat.zero_le _, Nat.zero_le _⟩ rfl (fun H locs hP hD hS => ?_)
    refine lv_istore (lv' := [(7, .int r_5), (0, .ref a0), (1, .int x1), (2, .int x2), (3, .int x3), (4, .int x4), (5, .int x5), (6, .int x6)]) hx hb dX12_compared_153 hl (Nat.le_of_ble_eq_true rfl) rfl (fun ls hl => ?_)
    refine lv_iload_n hx hb dX12_compared_155 rfl (lv_at hl 4 rfl) ?_
    refine lv_iload hx hb dX12_compared_156 (lv_at hl 0 rfl) ?_
    obtain ⟨r_6, hc6, hf⟩ := bnd1_el hf
    refine xS_I (As := [.int x3, .int r_5]) (wx := [(a0, .inr (12, [.int v0.1, .ref a1, .ref a2, .ref a3, .int v0.2.2.2.2.1, .int v0.2.2.2.2.2.1, .int v0.2.2.2.2.2.2.1, .int v0.2.2.2.2.2.2.2.1, .int v0.2.2.2.2.2.2.2.2.1, .long v0.2.2.2.2.2.2.2.2.2.1, .int v0.2.2.2.2.2.2.2.2.2.2.1, .int v0.2.2.2.2.2.2.2.2.2.2.2.1, .int v0.2.2.2.2.2.2.2.2.2.2.2.2.1, .ref a4, .int v0.2.2.2.2.2.2.2.2.2.2.2.2.2.2.1, .int v0.2.2.2.2.2.2.2.2.2.2.2.2.2.2.2.1, .int v0.2.2.2.2.2.2.2.2.2.2.2.2.2.2.2.2.1, .int v0.2.2.2.2.2.2.2.2.2.2.2.2.2.2.2.2.2.1, .int v0.2.2.2.2.2.2.2.2.2.2.2.2.2.2.2.2.2.2.1, .long v0.2.2.2.2.2.2.2.2.2.2.2.2.2.2.2.2.2.2.2.1, .long v0.2.2.2.2.2.2.2.2.2.2.2.2.2.2.2.2.2.2.2.2.1, .ref a5])), (a1, .inl (ca 0, 4725, .inl v0.2.1)), (a2, .inl (ca 2, 1500, .inl v0.2.2.1)), (a3, .inl (ca 3, 3, .inl v0.2.2.2.1)), (a4, .inl (ca 0, 22, .inl v0.2.2.2.2.2.2.2.2.2.2.2.2.2.1)), (a5, .inl (ca 0, 256, .inl v0.2.2.2.2.2.2.2.2.2.2.2.2.2.2.2.2.2.2.2.2.2))]) ⟨hx, hb, hml, hown, hts⟩ (c_X12_greater l D ca zz  _ x3 r_5 r_6 hc6) (va_cwS 2 hts (gS gw_6_184 gw_6_185 gw_1_15 gw_6_186) rfl rfl rfl (by decide +kernel) ⟨(Nat.le_of_ble_eq_true rfl), (Nat.le_of_ble_eq_true rfl)⟩) hK hN hZ hA hP hD hS [] [none, none, none, none, none, none] (by decide +kernel) rfl rfl rfl rfl hl.1 rfl (Nat.le_of_ble_eq_true rfl) dX12_compared_158 ⟨Nat.zero_le _, Nat.zero_le _⟩ rfl (fun H locs hP hD hS => ?_)
    refine lv_istore_n (lv' := [(3, .int r_6), (7, .int r_5), (0, .ref a0), (1, .int x1), (2, .int x2), (4, .int x4), (5, .int x5), (6, .int x6)]) hx hb dX12_compared_161 rfl hl (Nat.le_of_ble_eq_true rfl) rfl (fun ls hl => ?_)
    refine lv_iload hx hb dX12_compared_162 (lv_at hl 5 rfl) ?_
    refine lv_iload hx hb dX12_compared_164 (lv_at hl 1 rfl) ?_
    refine lv_iload hx hb dX12_compared_166 (lv_at hl 6 rfl) ?_
    refine xc_le (tgt := 178) hx hb dX12_compared_168 (by decide) hf (fun hf => ?_) (fun hf => ?_)
    · refine lv_iconst (v := 0) hx hb dX12_compared_178 rfl ?_
      refine lv_ior hx hb dX12_compared_179 ?_
      refine xnm hf (fun x_7 hf => ?_)
      refine lv_istore (lv' := [(4, .int x_7), (3, .int r_6), (7, .int r_5), (0, .ref a0), (1, .int x1), (2, .int x2), (5, .int x5), (6, .int x6)]) hx hb dX12_compared_180 hl (Nat.le_of_ble_eq_true rfl) rfl (fun ls hl => ?_)
      obtain ⟨x_8, ex_8, hf⟩ := bnd_el hf
      refine lv_iinc (v := x_8) (lv' := [(6, .int x_8), (4, .int x_7), (3, .int r_6), (7, .int r_5), (0, .ref a0), (1, .int x1), (2, .int x2), (5, .int x5)]) hx hb dX12_compared_182 hl (k := 7) rfl (by rw [ex_8]; rfl) (Nat.le_of_ble_eq_true rfl) rfl (fun ls hl => ?_)
      refine lv_goto (tgt := 124) hx hb dX12_compared_185 (by decide) ?_
      exact q124 v0 x1 x2 r_6 x_7 x5 x_8 hf _ _ _ hP hD hS (lv_sub hl [4, 5, 6, 2, 1, 7, 0] rfl)
    · refine lv_iconst (v := 1) hx hb dX12_compared_171 rfl ?_
      refine lv_iload hx hb dX12_compared_172 (lv_at hl 7 rfl) ?_
      refine lv_ishl hx hb dX12_compared_174 ?_
      refine lv_goto (tgt := 179) hx hb dX12_compared_175 (by decide) ?_
      refine lv_ior hx hb dX12_compared_179 ?_
      refine xnm hf (fun x_9 hf => ?_)
      refine lv_istore (lv' := [(4, .int x_9), (3, .int r_6), (7, .int r_5), (0, .ref a0), (1, .int x1), (2, .int x2), (5, .int x5), (6, .int x6)]) hx hb dX12_compared_180 hl (Nat.le_of_ble_eq_true rfl) rfl (fun ls hl => ?_)
      obtain ⟨x_10, ex_10, hf⟩ := bnd_el hf
      refine lv_iinc (v := x_10) (lv' := [(6, .int x_10), (4, .int x_9), (3, .int r_6), (7, .int r_5), (0, .ref a0), (1, .int x1), (2, .int x2), (5, .int x5)]) hx hb dX12_compared_182 hl (k := 7) rfl (by rw [ex_10]; rfl) (Nat.le_of_ble_eq_true rfl) rfl (fun ls hl => ?_)
      refine lv_goto (tgt := 124) hx hb dX12_compared_185 (by decide) ?_
      exact q124 v0 x1 x2 r_6 x_9 x5 x_10 hf _ _ _ hP hD hS (lv_sub hl [4, 5, 6, 2, 1, 7, 0] rfl)
  have bl124 : ∀ (k124 : V12 → Int32 → Int32 → Int32 → Int32 → Int32 → Int32 → Option (Int32 × V12)) (q124 : ∀ (v0 : V12) (x1 : Int32) (x2 : Int32) (x3 : Int32) (x4 : Int32) (x5 : Int32) (x6 : Int32), k124 v0 x1 x2 x3 x4 x5 x6 = some (r, v0') → ∀ (H : Heap) (locs : List Loc) (ls : Array Slot), va_P D vwCl [(a0, .inr (12, [.int v0.1, .ref a1, .ref a2, .ref a3, .int v0.2.2.2.2.1, .int v0.2.2.2.2.2.1, .int v0.2.2.2.2.2.2.1, .int v0.2.2.2.2.2.2.2.1, .int v0.2.2.2.2.2.2.2.2.1, .long v0.2.2.2.2.2.2.2.2.2.1, .int v0.2.2.2.2.2.2.2.2.2.2.1, .int v0.2.2.2.2.2.2.2.2.2.2.2.1, .int v0.2.2.2.2.2.2.2.2.2.2.2.2.1, .ref a4, .int v0.2.2.2.2.2.2.2.2.2.2.2.2.2.2.1, .int v0.2.2.2.2.2.2.2.2.2.2.2.2.2.2.2.1, .int v0.2.2.2.2.2.2.2.2.2.2.2.2.2.2.2.2.1, .int v0.2.2.2.2.2.2.2.2.2.2.2.2.2.2.2.2.2.1, .int v0.2.2.2.2.2.2.2.2.2.2.2.2.2.2.2.2.2.2.1, .long v0.2.2.2.2.2.2.2.2.2.2.2.2.2.2.2.2.2.2.2.1, .long v0.2.2.2.2.2.2.2.2.2.2.2.2.2.2.2.2.2.2.2.2.1, .ref a5])), (a1, .inl (ca 0, 4725, .inl v0.2.1)), (a2, .inl (ca 2, 1500, .inl v0.2.2.1)), (a3, .inl (ca 3, 3, .inl v0.2.2.2.1)), (a4, .inl (ca 0, 22, .inl v0.2.2.2.2.2.2.2.2.2.2.2.2.2.1)), (a5, .inl (ca 0, 256, .inl v0.2.2.2.2.2.2.2.2.2.2.2.2.2.2.2.2.2.2.2.2.2))] H → va_D A [(a0, .inr (12, [.int v0.1, .ref a1, .ref a2, .ref a3, .int v0.2.2.2.2.1, .int v0.2.2.2.2.2.1, .int v0.2.2.2.2.2.2.1, .int v0.2.2.2.2.2.2.2.1, .int v0.2.2.2.2.2.2.2.2.1, .long v0.2.2.2.2.2.2.2.2.2.1, .int v0.2.2.2.2.2.2.2.2.2.2.1, .int v0.2.2.2.2.2.2.2.2.2.2.2.1, .int v0.2.2.2.2.2.2.2.2.2.2.2.2.1, .ref a4, .int v0.2.2.2.2.2.2.2.2.2.2.2.2.2.2.1, .int v0.2.2.2.2.2.2.2.2.2.2.2.2.2.2.2.1, .int v0.2.2.2.2.2.2.2.2.2.2.2.2.2.2.2.2.1, .int v0.2.2.2.2.2.2.2.2.2.2.2.2.2.2.2.2.2.1, .int v0.2.2.2.2.2.2.2.2.2.2.2.2.2.2.2.2.2.2.1, .long v0.2.2.2.2.2.2.2.2.2.2.2.2.2.2.2.2.2.2.2.1, .long v0.2.2.2.2.2.2.2.2.2.2.2.2.2.2.2.2.2.2.2.2.1, .ref a5])), (a1, .inl (ca 0, 4725, .inl v0.2.1)), (a2, .inl (ca 2, 1500, .inl v0.2.2.1)), (a3, .inl (ca 3, 3, .inl v0.2.2.2.1)), (a4, .inl (ca 0, 22, .inl v0.2.2.2.2.2.2.2.2.2.2.2.2.2.1)), (a5, .inl (ca 0, 256, .inl v0.2.2.2.2.2.2.2.2.2.2.2.2.2.2.2.2.2.2.2.2.2))] → va_S A s.heap H locs → lv_has ls 8 [(0, .ref a0), (1, .int x1), (2, .int x2), (3, .int x3), (4, .int x4), (5, .int x5), (6, .int x6)] → W p l e ({ frames := 3, cells := 0, slots := 0, locals := 71 } : Room) s m args below meth c H locs 0 0 Q (F0 m 124 ls [])) (v0 : V12) (x1 : Int32) (x2 : Int32) (x3 : Int32) (x4 : Int32) (x5 : Int32) (x6 : Int32), fl_X12_compared_124 k124 v0 x1 x2 x3 x4 x5 x6 = some (r, v0') → ∀ (H : Heap) (locs : List Loc) (ls : Array Slot), va_P D vwCl [(a0, .inr (12, [.int v0.1, .ref a1, .ref a2, .ref a3, .int v0.2.2.2.2.1, .int v0.2.2.2.2.2.1, .int v0.2.2.2.2.2.2.1, .int v0.2.2.2.2.2.2.2.1, .int v0.2.2.2.2.2.2.2.2.1, .long v0.2.2.2.2.2.2.2.2.2.1, .int v0.2.2.2.2.2.2.2.2.2.2.1, .int v0.2.2.2.2.2.2.2.2.2.2.2.1, .int v0.2.2.2.2.2.2.2.2.2.2.2.2.1, .ref a4, .int v0.2.2.2.2.2.2.2.2.2.2.2.2.2.2.1, .int v0.2.2.2.2.2.2.2.2.2.2.2.2.2.2.2.1, .int v0.2.2.2.2.2.2.2.2.2.2.2.2.2.2.2.2.1, .int v0.2.2.2.2.2.2.2.2.2.2.2.2.2.2.2.2.2.1, .int v0.2.2.2.2.2.2.2.2.2.2.2.2.2.2.2.2.2.2.1, .long v0.2.2.2.2.2.2.2.2.2.2.2.2.2.2.2.2.2.2.2.1, .long v0.2.2.2.2.2.2.2.2.2.2.2.2.2.2.2.2.2.2.2.2.1, .ref a5])), (a1, .inl (ca 0, 4725, .inl v0.2.1)), (a2, .inl (ca 2, 1500, .inl v0.2.2.1)), (a3, .inl (ca 3, 3, .inl v0.2.2.2.1)), (a4, .inl (ca 0, 22, .inl v0.2.2.2.2.2.2.2.2.2.2.2.2.2.1)), (a5, .inl (ca 0, 256, .inl v0.2.2.2.2.2.2.2.2.2.2.2.2.2.2.2.2.2.2.2.2.2))] H → va_D A [(a0, .inr (12, [.int v0.1, .ref a1, .ref a2, .ref a3, .int v0.2.2.2.2.1, .int v0.2.2.2.2.2.1, .int v0.2.2.2.2.2.2.1, .int v0.2.2.2.2.2.2.2.1, .int v0.2.2.2.2.2.2.2.2.1, .long v0.2.2.2.2.2.2.2.2.2.1, .int v0.2.2.2.2.2.2.2.2.2.2.1, .int v0.2.2.2.2.2.2.2.2.2.2.2.1, .int v0.2.2.2.2.2.2.2.2.2.2.2.2.1, .ref a4, .int v0.2.2.2.2.2.2.2.2.2.2.2.2.2.2.1, .int v0.2.2.2.2.2.2.2.2.2.2.2.2.2.2.2.1, .int v0.2.2.2.2.2.2.2.2.2.2.2.2.2.2.2.2.1, .int v0.2.2.2.2.2.2.2.2.2.2.2.2.2.2.2.2.2.1, .int v0.2.2.2.2.2.2.2.2.2.2.2.2.2.2.2.2.2.2.1, .long v0.2.2.2.2.2.2.2.2.2.2.2.2.2.2.2.2.2.2.2.1, .long v0.2.2.2.2.2.2.2.2.2.2.2.2.2.2.2.2.2.2.2.2.1, .ref a5])), (a1, .inl (ca 0, 4725, .inl v0.2.1)), (a2, .inl (ca 2, 1500, .inl v0.2.2.1)), (a3, .inl (ca 3, 3, .inl v0.2.2.2.1)), (a4, .inl (ca 0, 22, .inl v0.2.2.2.2.2.2.2.2.2.2.2.2.2.1)), (a5, .inl (ca 0, 256, .inl v0.2.2.2.2.2.2.2.2.2.2.2.2.2.2.2.2.2.2.2.2.2))] → va_S A s.heap H locs → lv_has ls 8 [(0, .ref a0), (1, .int x1), (2, .int x2), (3, .int x3), (4, .int x4), (5, .int x5), (6, .int x6)] → W p l e ({ frames := 3, cells := 0, slots := 0, locals := 71 } : Room) s m args below meth c H locs 0 0 Q (F0 m 124 ls []) := by
    intro k124 q124 v0 x1 x2 x3 x4 x5 x6 hf H locs ls hP hD hS hl
    unfold fl_X12_compared_124 at hf
    refine lv_iload hx hb dX12_compared_124 (lv_at hl 6 rfl) ?_
    refine lv_bipush (v := 15) hx hb dX12_compared_126 rfl ?_
    refine xc_ge (tgt := 188) hx hb dX12_compared_128 (by decide) hf (fun hf => ?_) (fun hf => ?_)
    · exact b188 v0 x1 x2 x3 x4 hf _ _ _ hP hD hS (lv_sub hl [1, 2, 3, 4] rfl)
    · refine lv_iload_n hx hb dX12_compared_131 rfl (lv_at hl 2 rfl) ?_
      refine lv_iconst (v := 1) hx hb dX12_compared_132 rfl ?_
      refine xc_le (tgt := 188) hx hb dX12_compared_133 (by decide) hf (fun hf => ?_) (fun hf => ?_)
      · exact b188 v0 x1 x2 x3 x4 hf _ _ _ hP hD hS (lv_sub hl [1, 2, 3, 4] rfl)
      · refine lv_iload_n hx hb dX12_compared_136 rfl (lv_at hl 1 rfl) ?_
        refine lv_iconst (v := 2) hx hb dX12_compared_137 rfl ?_
        refine xc_eq (tgt := 146) hx hb dX12_compared_138 (by decide) hf (fun hf => ?_) (fun hf => ?_)
        · exact b146 k124 q124 v0 x1 x2 x3 x4 x5 x6 hf _ _ _ hP hD hS (lv_sub hl [0, 1, 2, 3, 4, 5, 6] rfl)
        · refine lv_iload_n hx hb dX12_compared_141 rfl (lv_at hl 1 rfl) ?_
          refine lv_iconst (v := 4) hx hb dX12_compared_142 rfl ?_
          refine xc_ne (tgt := 188) hx hb dX12_compared_143 (by decide) hf (fun hf => ?_) (fun hf => ?_)
          · exact b188 v0 x1 x2 x3 x4 hf _ _ _ hP hD hS (lv_sub hl [1, 2, 3, 4] rfl)
          · exact b146 k124 q124 v0 x1 x2 x3 x4 x5 x6 hf _ _ _ hP hD hS (lv_sub hl [0, 1, 2, 3, 4, 5, 6] rfl)
  have b124 : ∀ (n : Nat) (v0 : V12) (x1 : Int32) (x2 : Int32) (x3 : Int32) (x4 : Int32) (x5 : Int32) (x6 : Int32), fb_X12_compared_124 n v0 x1 x2 x3 x4 x5 x6 = some (r, v0') → ∀ (H : Heap) (locs : List Loc) (ls : Array Slot), va_P D vwCl [(a0, .inr (12, [.int v0.1, .ref a1, .ref a2, .ref a3, .int v0.2.2.2.2.1, .int v0.2.2.2.2.2.1, .int v0.2.2.2.2.2.2.1, .int v0.2.2.2.2.2.2.2.1, .int v0.2.2.2.2.2.2.2.2.1, .long v0.2.2.2.2.2.2.2.2.2.1, .int v0.2.2.2.2.2.2.2.2.2.2.1, .int v0.2.2.2.2.2.2.2.2.2.2.2.1, .int v0.2.2.2.2.2.2.2.2.2.2.2.2.1, .ref a4, .int v0.2.2.2.2.2.2.2.2.2.2.2.2.2.2.1, .int v0.2.2.2.2.2.2.2.2.2.2.2.2.2.2.2.1, .int v0.2.2.2.2.2.2.2.2.2.2.2.2.2.2.2.2.1, .int v0.2.2.2.2.2.2.2.2.2.2.2.2.2.2.2.2.2.1, .int v0.2.2.2.2.2.2.2.2.2.2.2.2.2.2.2.2.2.2.1, .long v0.2.2.2.2.2.2.2.2.2.2.2.2.2.2.2.2.2.2.2.1, .long v0.2.2.2.2.2.2.2.2.2.2.2.2.2.2.2.2.2.2.2.2.1, .ref a5])), (a1, .inl (ca 0, 4725, .inl v0.2.1)), (a2, .inl (ca 2, 1500, .inl v0.2.2.1)), (a3, .inl (ca 3, 3, .inl v0.2.2.2.1)), (a4, .inl (ca 0, 22, .inl v0.2.2.2.2.2.2.2.2.2.2.2.2.2.1)), (a5, .inl (ca 0, 256, .inl v0.2.2.2.2.2.2.2.2.2.2.2.2.2.2.2.2.2.2.2.2.2))] H → va_D A [(a0, .inr (12, [.int v0.1, .ref a1, .ref a2, .ref a3, .int v0.2.2.2.2.1, .int v0.2.2.2.2.2.1, .int v0.2.2.2.2.2.2.1, .int v0.2.2.2.2.2.2.2.1, .int v0.2.2.2.2.2.2.2.2.1, .long v0.2.2.2.2.2.2.2.2.2.1, .int v0.2.2.2.2.2.2.2.2.2.2.1, .int v0.2.2.2.2.2.2.2.2.2.2.2.1, .int v0.2.2.2.2.2.2.2.2.2.2.2.2.1, .ref a4, .int v0.2.2.2.2.2.2.2.2.2.2.2.2.2.2.1, .int v0.2.2.2.2.2.2.2.2.2.2.2.2.2.2.2.1, .int v0.2.2.2.2.2.2.2.2.2.2.2.2.2.2.2.2.1, .int v0.2.2.2.2.2.2.2.2.2.2.2.2.2.2.2.2.2.1, .int v0.2.2.2.2.2.2.2.2.2.2.2.2.2.2.2.2.2.2.1, .long v0.2.2.2.2.2.2.2.2.2.2.2.2.2.2.2.2.2.2.2.1, .long v0.2.2.2.2.2.2.2.2.2.2.2.2.2.2.2.2.2.2.2.2.1, .ref a5])), (a1, .inl (ca 0, 4725, .inl v0.2.1)), (a2, .inl (ca 2, 1500, .inl v0.2.2.1)), (a3, .inl (ca 3, 3, .inl v0.2.2.2.1)), (a4, .inl (ca 0, 22, .inl v0.2.2.2.2.2.2.2.2.2.2.2.2.2.1)), (a5, .inl (ca 0, 256, .inl v0.2.2.2.2.2.2.2.2.2.2.2.2.2.2.2.2.2.2.2.2.2))] → va_S A s.heap H locs → lv_has ls 8 [(0, .ref a0), (1, .int x1), (2, .int x2), (3, .int x3), (4, .int x4), (5, .int x5), (6, .int x6)] → W p l e ({ frames := 3, cells := 0, slots := 0, locals := 71 } : Room) s m args below meth c H locs 0 0 Q (F0 m 124 ls []) := by
    intro n
    induction n with
    | zero => intro v0 x1 x2 x3 x4 x5 x6 hf; exact no_el hf
    | succ n ih => exact bl124 (fb_X12_compared_124 n) ih
  have b114 : ∀ (v0 : V12) (x1 : Int32) (x2 : Int32) (x3 : Int32) (x4 : Int32), fc_X12_compared_114 v0 x1 x2 x3 x4 = some (r, v0') → ∀ (H : Heap) (locs : List Loc) (ls : Array Slot), va_P D vwCl [(a0, .inr (12, [.int v0.1, .ref a1, .ref a2, .ref a3, .int v0.2.2.2.2.1, .int v0.2.2.2.2.2.1, .int v0.2.2.2.2.2.2.1, .int v0.2.2.2.2.2.2.2.1, .int v0.2.2.2.2.2.2.2.2.1, .long v0.2.2.2.2.2.2.2.2.2.1, .int v0.2.2.2.2.2.2.2.2.2.2.1, .int v0.2.2.2.2.2.2.2.2.2.2.2.1, .int v0.2.2.2.2.2.2.2.2.2.2.2.2.1, .ref a4, .int v0.2.2.2.2.2.2.2.2.2.2.2.2.2.2.1, .int v0.2.2.2.2.2.2.2.2.2.2.2.2.2.2.2.1, .int v0.2.2.2.2.2.2.2.2.2.2.2.2.2.2.2.2.1, .int v0.2.2.2.2.2.2.2.2.2.2.2.2.2.2.2.2.2.1, .int v0.2.2.2.2.2.2.2.2.2.2.2.2.2.2.2.2.2.2.1, .long v0.2.2.2.2.2.2.2.2.2.2.2.2.2.2.2.2.2.2.2.1, .long v0.2.2.2.2.2.2.2.2.2.2.2.2.2.2.2.2.2.2.2.2.1, .ref a5])), (a1, .inl (ca 0, 4725, .inl v0.2.1)), (a2, .inl (ca 2, 1500, .inl v0.2.2.1)), (a3, .inl (ca 3, 3, .inl v0.2.2.2.1)), (a4, .inl (ca 0, 22, .inl v0.2.2.2.2.2.2.2.2.2.2.2.2.2.1)), (a5, .inl (ca 0, 256, .inl v0.2.2.2.2.2.2.2.2.2.2.2.2.2.2.2.2.2.2.2.2.2))] H → va_D A [(a0, .inr (12, [.int v0.1, .ref a1, .ref a2, .ref a3, .int v0.2.2.2.2.1, .int v0.2.2.2.2.2.1, .int v0.2.2.2.2.2.2.1, .int v0.2.2.2.2.2.2.2.1, .int v0.2.2.2.2.2.2.2.2.1, .long v0.2.2.2.2.2.2.2.2.2.1, .int v0.2.2.2.2.2.2.2.2.2.2.1, .int v0.2.2.2.2.2.2.2.2.2.2.2.1, .int v0.2.2.2.2.2.2.2.2.2.2.2.2.1, .ref a4, .int v0.2.2.2.2.2.2.2.2.2.2.2.2.2.2.1, .int v0.2.2.2.2.2.2.2.2.2.2.2.2.2.2.2.1, .int v0.2.2.2.2.2.2.2.2.2.2.2.2.2.2.2.2.1, .int v0.2.2.2.2.2.2.2.2.2.2.2.2.2.2.2.2.2.1, .int v0.2.2.2.2.2.2.2.2.2.2.2.2.2.2.2.2.2.2.1, .long v0.2.2.2.2.2.2.2.2.2.2.2.2.2.2.2.2.2.2.2.1, .long v0.2.2.2.2.2.2.2.2.2.2.2.2.2.2.2.2.2.2.2.2.1, .ref a5])), (a1, .inl (ca 0, 4725, .inl v0.2.1)), (a2, .inl (ca 2, 1500, .inl v0.2.2.1)), (a3, .inl (ca 3, 3, .inl v0.2.2.2.1)), (a4, .inl (ca 0, 22, .inl v0.2.2.2.2.2.2.2.2.2.2.2.2.2.1)), (a5, .inl (ca 0, 256, .inl v0.2.2.2.2.2.2.2.2.2.2.2.2.2.2.2.2.2.2.2.2.2))] → va_S A s.heap H locs → lv_has ls 8 [(0, .ref a0), (1, .int x1), (2, .int x2), (3, .int x3), (4, .int x4)] → W p l e ({ frames := 3, cells := 0, slots := 0, locals := 71 } : Room) s m args below meth c H locs 0 0 Q (F0 m 114 ls []) := by
    intro v0 x1 x2 x3 x4 hf H locs ls hP hD hS hl
    unfold fc_X12_compared_114 at hf
    refine lv_aload_n hx hb dX12_compared_114 rfl (lv_at hl 0 rfl) ?_
    refine lv_iload_n hx hb dX12_compared_115 rfl (lv_at hl 2 rfl) ?_
    obtain ⟨r_4, hc4, hf⟩ := bnd1_el hf
    refine xV_I (As := [.int x2]) (wx := [(a0, .inr (12, [.int v0.1, .ref a1, .ref a2, .ref a3, .int v0.2.2.2.2.1, .int v0.2.2.2.2.2.1, .int v0.2.2.2.2.2.2.1, .int v0.2.2.2.2.2.2.2.1, .int v0.2.2.2.2.2.2.2.2.1, .long v0.2.2.2.2.2.2.2.2.2.1, .int v0.2.2.2.2.2.2.2.2.2.2.1, .int v0.2.2.2.2.2.2.2.2.2.2.2.1, .int v0.2.2.2.2.2.2.2.2.2.2.2.2.1, .ref a4, .int v0.2.2.2.2.2.2.2.2.2.2.2.2.2.2.1, .int v0.2.2.2.2.2.2.2.2.2.2.2.2.2.2.2.1, .int v0.2.2.2.2.2.2.2.2.2.2.2.2.2.2.2.2.1, .int v0.2.2.2.2.2.2.2.2.2.2.2.2.2.2.2.2.2.1, .int v0.2.2.2.2.2.2.2.2.2.2.2.2.2.2.2.2.2.2.1, .long v0.2.2.2.2.2.2.2.2.2.2.2.2.2.2.2.2.2.2.2.1, .long v0.2.2.2.2.2.2.2.2.2.2.2.2.2.2.2.2.2.2.2.2.1, .ref a5])), (a1, .inl (ca 0, 4725, .inl v0.2.1)), (a2, .inl (ca 2, 1500, .inl v0.2.2.1)), (a3, .inl (ca 3, 3, .inl v0.2.2.2.1)), (a4, .inl (ca 0, 22, .inl v0.2.2.2.2.2.2.2.2.2.2.2.2.2.1)), (a5, .inl (ca 0, 256, .inl v0.2.2.2.2.2.2.2.2.2.2.2.2.2.2.2.2.2.2.2.2.2))]) ⟨hx, hb, hml, hown, hts⟩ (c_X12_rowsLimit l D ca zz a0 a1 a2 a3 a4 a5 _ v0 x2 r_4 hc4) (cwV 1 hts (gV gw_6_54 gw_6_56 gw_s_3_10 gw_1_15 gw_6_57) rfl rfl rfl (by decide +kernel) ⟨(Nat.le_of_ble_eq_true rfl), (Nat.le_of_ble_eq_true rfl)⟩) hK hN hZ hA hP hD hS [0, 1] [some 0, some 1, none, none, none, none] (by decide +kernel) rfl rfl rfl rfl 0 rfl rfl hl.1 rfl (Nat.le_of_ble_eq_true rfl) dX12_compared_116 ⟨Nat.zero_le _, Nat.zero_le _⟩ rfl (fun H locs hP hD hS => ?_)
    refine lv_istore (lv' := [(5, .int r_4), (0, .ref a0), (1, .int x1), (2, .int x2), (3, .int x3), (4, .int x4)]) hx hb dX12_compared_119 hl (Nat.le_of_ble_eq_true rfl) rfl (fun ls hl => ?_)
    refine lv_iconst (v := 0) hx hb dX12_compared_121 rfl ?_
    refine lv_istore (lv' := [(6, .int (0 : Int32)), (5, .int r_4), (0, .ref a0), (1, .int x1), (2, .int x2), (3, .int x3), (4, .int x4)]) hx hb dX12_compared_122 hl (Nat.le_of_ble_eq_true rfl) rfl (fun ls hl => ?_)
    exact b124 FU v0 x1 x2 x3 x4 r_4 (0 : Int32) hf _ _ _ hP hD hS (lv_sub hl [2, 3, 4, 5, 6, 1, 0] rfl)
  have b79 : ∀ (k37 : V12 → Int32 → Int32 → Int32 → Int32 → Int32 → Int32 → Option (Int32 × V12)) (q37 : ∀ (v0 : V12) (x1 : Int32) (x2 : Int32) (x3 : Int32) (x4 : Int32) (x5 : Int32) (x6 : Int32), k37 v0 x1 x2 x3 x4 x5 x6 = some (r, v0') → ∀ (H : Heap) (locs : List Loc) (ls : Array Slot), va_P D vwCl [(a0, .inr (12, [.int v0.1, .ref a1, .ref a2, .ref a3, .int v0.2.2.2.2.1, .int v0.2.2.2.2.2.1, .int v0.2.2.2.2.2.2.1, .int v0.2.2.2.2.2.2.2.1, .int v0.2.2.2.2.2.2.2.2.1, .long v0.2.2.2.2.2.2.2.2.2.1, .int v0.2.2.2.2.2.2.2.2.2.2.1, .int v0.2.2.2.2.2.2.2.2.2.2.2.1, .int v0.2.2.2.2.2.2.2.2.2.2.2.2.1, .ref a4, .int v0.2.2.2.2.2.2.2.2.2.2.2.2.2.2.1, .int v0.2.2.2.2.2.2.2.2.2.2.2.2.2.2.2.1, .int v0.2.2.2.2.2.2.2.2.2.2.2.2.2.2.2.2.1, .int v0.2.2.2.2.2.2.2.2.2.2.2.2.2.2.2.2.2.1, .int v0.2.2.2.2.2.2.2.2.2.2.2.2.2.2.2.2.2.2.1, .long v0.2.2.2.2.2.2.2.2.2.2.2.2.2.2.2.2.2.2.2.1, .long v0.2.2.2.2.2.2.2.2.2.2.2.2.2.2.2.2.2.2.2.2.1, .ref a5])), (a1, .inl (ca 0, 4725, .inl v0.2.1)), (a2, .inl (ca 2, 1500, .inl v0.2.2.1)), (a3, .inl (ca 3, 3, .inl v0.2.2.2.1)), (a4, .inl (ca 0, 22, .inl v0.2.2.2.2.2.2.2.2.2.2.2.2.2.1)), (a5, .inl (ca 0, 256, .inl v0.2.2.2.2.2.2.2.2.2.2.2.2.2.2.2.2.2.2.2.2.2))] H → va_D A [(a0, .inr (12, [.int v0.1, .ref a1, .ref a2, .ref a3, .int v0.2.2.2.2.1, .int v0.2.2.2.2.2.1, .int v0.2.2.2.2.2.2.1, .int v0.2.2.2.2.2.2.2.1, .int v0.2.2.2.2.2.2.2.2.1, .long v0.2.2.2.2.2.2.2.2.2.1, .int v0.2.2.2.2.2.2.2.2.2.2.1, .int v0.2.2.2.2.2.2.2.2.2.2.2.1, .int v0.2.2.2.2.2.2.2.2.2.2.2.2.1, .ref a4, .int v0.2.2.2.2.2.2.2.2.2.2.2.2.2.2.1, .int v0.2.2.2.2.2.2.2.2.2.2.2.2.2.2.2.1, .int v0.2.2.2.2.2.2.2.2.2.2.2.2.2.2.2.2.1, .int v0.2.2.2.2.2.2.2.2.2.2.2.2.2.2.2.2.2.1, .int v0.2.2.2.2.2.2.2.2.2.2.2.2.2.2.2.2.2.2.1, .long v0.2.2.2.2.2.2.2.2.2.2.2.2.2.2.2.2.2.2.2.1, .long v0.2.2.2.2.2.2.2.2.2.2.2.2.2.2.2.2.2.2.2.2.1, .ref a5])), (a1, .inl (ca 0, 4725, .inl v0.2.1)), (a2, .inl (ca 2, 1500, .inl v0.2.2.1)), (a3, .inl (ca 3, 3, .inl v0.2.2.2.1)), (a4, .inl (ca 0, 22, .inl v0.2.2.2.2.2.2.2.2.2.2.2.2.2.1)), (a5, .inl (ca 0, 256, .inl v0.2.2.2.2.2.2.2.2.2.2.2.2.2.2.2.2.2.2.2.2.2))] → va_S A s.heap H locs → lv_has ls 8 [(0, .ref a0), (1, .int x1), (2, .int x2), (3, .int x3), (4, .int x4), (5, .int x5), (6, .int x6)] → W p l e ({ frames := 3, cells := 0, slots := 0, locals := 71 } : Room) s m args below meth c H locs 0 0 Q (F0 m 37 ls [])) (v0 : V12) (x1 : Int32) (x2 : Int32) (x3 : Int32) (x4 : Int32) (x5 : Int32) (x6 : Int32) (t0 : Int32), fc_X12_compared_79 k37 v0 x1 x2 x3 x4 x5 x6 t0 = some (r, v0') → ∀ (H : Heap) (locs : List Loc) (ls : Array Slot), va_P D vwCl [(a0, .inr (12, [.int v0.1, .ref a1, .ref a2, .ref a3, .int v0.2.2.2.2.1, .int v0.2.2.2.2.2.1, .int v0.2.2.2.2.2.2.1, .int v0.2.2.2.2.2.2.2.1, .int v0.2.2.2.2.2.2.2.2.1, .long v0.2.2.2.2.2.2.2.2.2.1, .int v0.2.2.2.2.2.2.2.2.2.2.1, .int v0.2.2.2.2.2.2.2.2.2.2.2.1, .int v0.2.2.2.2.2.2.2.2.2.2.2.2.1, .ref a4, .int v0.2.2.2.2.2.2.2.2.2.2.2.2.2.2.1, .int v0.2.2.2.2.2.2.2.2.2.2.2.2.2.2.2.1, .int v0.2.2.2.2.2.2.2.2.2.2.2.2.2.2.2.2.1, .int v0.2.2.2.2.2.2.2.2.2.2.2.2.2.2.2.2.2.1, .int v0.2.2.2.2.2.2.2.2.2.2.2.2.2.2.2.2.2.2.1, .long v0.2.2.2.2.2.2.2.2.2.2.2.2.2.2.2.2.2.2.2.1, .long v0.2.2.2.2.2.2.2.2.2.2.2.2.2.2.2.2.2.2.2.2.1, .ref a5])), (a1, .inl (ca 0, 4725, .inl v0.2.1)), (a2, .inl (ca 2, 1500, .inl v0.2.2.1)), (a3, .inl (ca 3, 3, .inl v0.2.2.2.1)), (a4, .inl (ca 0, 22, .inl v0.2.2.2.2.2.2.2.2.2.2.2.2.2.1)), (a5, .inl (ca 0, 256, .inl v0.2.2.2.2.2.2.2.2.2.2.2.2.2.2.2.2.2.2.2.2.2))] H → va_D A [(a0, .inr (12, [.int v0.1, .ref a1, .ref a2, .ref a3, .int v0.2.2.2.2.1, .int v0.2.2.2.2.2.1, .int v0.2.2.2.2.2.2.1, .int v0.2.2.2.2.2.2.2.1, .int v0.2.2.2.2.2.2.2.2.1, .long v0.2.2.2.2.2.2.2.2.2.1, .int v0.2.2.2.2.2.2.2.2.2.2.1, .int v0.2.2.2.2.2.2.2.2.2.2.2.1, .int v0.2.2.2.2.2.2.2.2.2.2.2.2.1, .ref a4, .int v0.2.2.2.2.2.2.2.2.2.2.2.2.2.2.1, .int v0.2.2.2.2.2.2.2.2.2.2.2.2.2.2.2.1, .int v0.2.2.2.2.2.2.2.2.2.2.2.2.2.2.2.2.1, .int v0.2.2.2.2.2.2.2.2.2.2.2.2.2.2.2.2.2.1, .int v0.2.2.2.2.2.2.2.2.2.2.2.2.2.2.2.2.2.2.1, .long v0.2.2.2.2.2.2.2.2.2.2.2.2.2.2.2.2.2.2.2.1, .long v0.2.2.2.2.2.2.2.2.2.2.2.2.2.2.2.2.2.2.2.2.1, .ref a5])), (a1, .inl (ca 0, 4725, .inl v0.2.1)), (a2, .inl (ca 2, 1500, .inl v0.2.2.1)), (a3, .inl (ca 3, 3, .inl v0.2.2.2.1)), (a4, .inl (ca 0, 22, .inl v0.2.2.2.2.2.2.2.2.2.2.2.2.2.1)), (a5, .inl (ca 0, 256, .inl v0.2.2.2.2.2.2.2.2.2.2.2.2.2.2.2.2.2.2.2.2.2))] → va_S A s.heap H locs → lv_has ls 8 [(0, .ref a0), (1, .int x1), (2, .int x2), (3, .int x3), (4, .int x4), (5, .int x5), (6, .int x6)] → W p l e ({ frames := 3, cells := 0, slots := 0, locals := 71 } : Room) s m args below meth c H locs 0 0 Q (F0 m 79 ls [.int t0]) := by
    intro k37 q37 v0 x1 x2 x3 x4 x5 x6 t0 hf H locs ls hP hD hS hl
    unfold fc_X12_compared_79 at hf
    refine lv_istore (lv' := [(7, .int t0), (0, .ref a0), (1, .int x1), (2, .int x2), (3, .int x3), (4, .int x4), (5, .int x5), (6, .int x6)]) hx hb dX12_compared_79 hl (Nat.le_of_ble_eq_true rfl) rfl (fun ls hl => ?_)
    refine lv_iload_n hx hb dX12_compared_81 rfl (lv_at hl 4 rfl) ?_
    refine lv_iload hx hb dX12_compared_82 (lv_at hl 0 rfl) ?_
    obtain ⟨r_12, hc12, hf⟩ := bnd1_el hf
    refine xS_I (As := [.int x3, .int t0]) (wx := [(a0, .inr (12, [.int v0.1, .ref a1, .ref a2, .ref a3, .int v0.2.2.2.2.1, .int v0.2.2.2.2.2.1, .int v0.2.2.2.2.2.2.1, .int v0.2.2.2.2.2.2.2.1, .int v0.2.2.2.2.2.2.2.2.1, .long v0.2.2.2.2.2.2.2.2.2.1, .int v0.2.2.2.2.2.2.2.2.2.2.1, .int v0.2.2.2.2.2.2.2.2.2.2.2.1, .int v0.2.2.2.2.2.2.2.2.2.2.2.2.1, .ref a4, .int v0.2.2.2.2.2.2.2.2.2.2.2.2.2.2.1, .int v0.2.2.2.2.2.2.2.2.2.2.2.2.2.2.2.1, .int v0.2.2.2.2.2.2.2.2.2.2.2.2.2.2.2.2.1, .int v0.2.2.2.2.2.2.2.2.2.2.2.2.2.2.2.2.2.1, .int v0.2.2.2.2.2.2.2.2.2.2.2.2.2.2.2.2.2.2.1, .long v0.2.2.2.2.2.2.2.2.2.2.2.2.2.2.2.2.2.2.2.1, .long v0.2.2.2.2.2.2.2.2.2.2.2.2.2.2.2.2.2.2.2.2.1, .ref a5])), (a1, .inl (ca 0, 4725, .inl v0.2.1)), (a2, .inl (ca 2, 1500, .inl v0.2.2.1)), (a3, .inl (ca 3, 3, .inl v0.2.2.2.1)), (a4, .inl (ca 0, 22, .inl v0.2.2.2.2.2.2.2.2.2.2.2.2.2.1)), (a5, .inl (ca 0, 256, .inl v0.2.2.2.2.2.2.2.2.2.2.2.2.2.2.2.2.2.2.2.2.2))]) ⟨hx, hb, hml, hown, hts⟩ (c_X12_greater l D ca zz  _ x3 t0 r_12 hc12) (va_cwS 2 hts (gS gw_6_184 gw_6_185 gw_1_15 gw_6_186) rfl rfl rfl (by decide +kernel) ⟨(Nat.le_of_ble_eq_true rfl), (Nat.le_of_ble_eq_true rfl)⟩) hK hN hZ hA hP hD hS [] [none, none, none, none, none, none] (by decide +kernel) rfl rfl rfl rfl hl.1 rfl (Nat.le_of_ble_eq_true rfl) dX12_compared_84 ⟨Nat.zero_le _, Nat.zero_le _⟩ rfl (fun H locs hP hD hS => ?_)
    refine lv_istore_n (lv' := [(3, .int r_12), (7, .int t0), (0, .ref a0), (1, .int x1), (2, .int x2), (4, .int x4), (5, .int x5), (6, .int x6)]) hx hb dX12_compared_87 rfl hl (Nat.le_of_ble_eq_true rfl) rfl (fun ls hl => ?_)
    refine lv_iload hx hb dX12_compared_88 (lv_at hl 5 rfl) ?_
    refine lv_iload hx hb dX12_compared_90 (lv_at hl 1 rfl) ?_
    refine lv_iload hx hb dX12_compared_92 (lv_at hl 6 rfl) ?_
    refine xc_le (tgt := 104) hx hb dX12_compared_94 (by decide) hf (fun hf => ?_) (fun hf => ?_)
    · refine lv_iconst (v := 0) hx hb dX12_compared_104 rfl ?_
      refine lv_ior hx hb dX12_compared_105 ?_
      refine xnm hf (fun x_13 hf => ?_)
      refine lv_istore (lv' := [(4, .int x_13), (3, .int r_12), (7, .int t0), (0, .ref a0), (1, .int x1), (2, .int x2), (5, .int x5), (6, .int x6)]) hx hb dX12_compared_106 hl (Nat.le_of_ble_eq_true rfl) rfl (fun ls hl => ?_)
      obtain ⟨x_14, ex_14, hf⟩ := bnd_el hf
      refine lv_iinc (v := x_14) (lv' := [(6, .int x_14), (4, .int x_13), (3, .int r_12), (7, .int t0), (0, .ref a0), (1, .int x1), (2, .int x2), (5, .int x5)]) hx hb dX12_compared_108 hl (k := 7) rfl (by rw [ex_14]; rfl) (Nat.le_of_ble_eq_true rfl) rfl (fun ls hl => ?_)
      refine lv_goto (tgt := 37) hx hb dX12_compared_111 (by decide) ?_
      exact q37 v0 x1 x2 r_12 x_13 x5 x_14 hf _ _ _ hP hD hS (lv_sub hl [4, 5, 6, 2, 1, 7, 0] rfl)
    · refine lv_iconst (v := 1) hx hb dX12_compared_97 rfl ?_
      refine lv_iload hx hb dX12_compared_98 (lv_at hl 7 rfl) ?_
      refine lv_ishl hx hb dX12_compared_100 ?_
      refine lv_goto (tgt := 105) hx hb dX12_compared_101 (by decide) ?_
      refine lv_ior hx hb dX12_compared_105 ?_
      refine xnm hf (fun x_15 hf => ?_)
      refine lv_istore (lv' := [(4, .int x_15), (3, .int r_12), (7, .int t0), (0, .ref a0), (1, .int x1), (2, .int x2), (5, .int x5), (6, .int x6)]) hx hb dX12_compared_106 hl (Nat.le_of_ble_eq_true rfl) rfl (fun ls hl => ?_)
      obtain ⟨x_16, ex_16, hf⟩ := bnd_el hf
      refine lv_iinc (v := x_16) (lv' := [(6, .int x_16), (4, .int x_15), (3, .int r_12), (7, .int t0), (0, .ref a0), (1, .int x1), (2, .int x2), (5, .int x5)]) hx hb dX12_compared_108 hl (k := 7) rfl (by rw [ex_16]; rfl) (Nat.le_of_ble_eq_true rfl) rfl (fun ls hl => ?_)
      refine lv_goto (tgt := 37) hx hb dX12_compared_111 (by decide) ?_
      exact q37 v0 x1 x2 r_12 x_15 x5 x_16 hf _ _ _ hP hD hS (lv_sub hl [4, 5, 6, 2, 1, 7, 0] rfl)
  have b60 : ∀ (k37 : V12 → Int32 → Int32 → Int32 → Int32 → Int32 → Int32 → Option (Int32 × V12)) (q37 : ∀ (v0 : V12) (x1 : Int32) (x2 : Int32) (x3 : Int32) (x4 : Int32) (x5 : Int32) (x6 : Int32), k37 v0 x1 x2 x3 x4 x5 x6 = some (r, v0') → ∀ (H : Heap) (locs : List Loc) (ls : Array Slot), va_P D vwCl [(a0, .inr (12, [.int v0.1, .ref a1, .ref a2, .ref a3, .int v0.2.2.2.2.1, .int v0.2.2.2.2.2.1, .int v0.2.2.2.2.2.2.1, .int v0.2.2.2.2.2.2.2.1, .int v0.2.2.2.2.2.2.2.2.1, .long v0.2.2.2.2.2.2.2.2.2.1, .int v0.2.2.2.2.2.2.2.2.2.2.1, .int v0.2.2.2.2.2.2.2.2.2.2.2.1, .int v0.2.2.2.2.2.2.2.2.2.2.2.2.1, .ref a4, .int v0.2.2.2.2.2.2.2.2.2.2.2.2.2.2.1, .int v0.2.2.2.2.2.2.2.2.2.2.2.2.2.2.2.1, .int v0.2.2.2.2.2.2.2.2.2.2.2.2.2.2.2.2.1, .int v0.2.2.2.2.2.2.2.2.2.2.2.2.2.2.2.2.2.1, .int v0.2.2.2.2.2.2.2.2.2.2.2.2.2.2.2.2.2.2.1, .long v0.2.2.2.2.2.2.2.2.2.2.2.2.2.2.2.2.2.2.2.1, .long v0.2.2.2.2.2.2.2.2.2.2.2.2.2.2.2.2.2.2.2.2.1, .ref a5])), (a1, .inl (ca 0, 4725, .inl v0.2.1)), (a2, .inl (ca 2, 1500, .inl v0.2.2.1)), (a3, .inl (ca 3, 3, .inl v0.2.2.2.1)), (a4, .inl (ca 0, 22, .inl v0.2.2.2.2.2.2.2.2.2.2.2.2.2.1)), (a5, .inl (ca 0, 256, .inl v0.2.2.2.2.2.2.2.2.2.2.2.2.2.2.2.2.2.2.2.2.2))] H → va_D A [(a0, .inr (12, [.int v0.1, .ref a1, .ref a2, .ref a3, .int v0.2.2.2.2.1, .int v0.2.2.2.2.2.1, .int v0.2.2.2.2.2.2.1, .int v0.2.2.2.2.2.2.2.1, .int v0.2.2.2.2.2.2.2.2.1, .long v0.2.2.2.2.2.2.2.2.2.1, .int v0.2.2.2.2.2.2.2.2.2.2.1, .int v0.2.2.2.2.2.2.2.2.2.2.2.1, .int v0.2.2.2.2.2.2.2.2.2.2.2.2.1, .ref a4, .int v0.2.2.2.2.2.2.2.2.2.2.2.2.2.2.1, .int v0.2.2.2.2.2.2.2.2.2.2.2.2.2.2.2.1, .int v0.2.2.2.2.2.2.2.2.2.2.2.2.2.2.2.2.1, .int v0.2.2.2.2.2.2.2.2.2.2.2.2.2.2.2.2.2.1, .int v0.2.2.2.2.2.2.2.2.2.2.2.2.2.2.2.2.2.2.1, .long v0.2.2.2.2.2.2.2.2.2.2.2.2.2.2.2.2.2.2.2.1, .long v0.2.2.2.2.2.2.2.2.2.2.2.2.2.2.2.2.2.2.2.2.1, .ref a5])), (a1, .inl (ca 0, 4725, .inl v0.2.1)), (a2, .inl (ca 2, 1500, .inl v0.2.2.1)), (a3, .inl (ca 3, 3, .inl v0.2.2.2.1)), (a4, .inl (ca 0, 22, .inl v0.2.2.2.2.2.2.2.2.2.2.2.2.2.1)), (a5, .inl (ca 0, 256, .inl v0.2.2.2.2.2.2.2.2.2.2.2.2.2.2.2.2.2.2.2.2.2))] → va_S A s.heap H locs → lv_has ls 8 [(0, .ref a0), (1, .int x1), (2, .int x2), (3, .int x3), (4, .int x4), (5, .int x5), (6, .int x6)] → W p l e ({ frames := 3, cells := 0, slots := 0, locals := 71 } : Room) s m args below meth c H locs 0 0 Q (F0 m 37 ls [])) (v0 : V12) (x1 : Int32) (x2 : Int32) (x3 : Int32) (x4 : Int32) (x5 : Int32) (x6 : Int32), fc_X12_compared_60 k37 v0 x1 x2 x3 x4 x5 x6 = some (r, v0') → ∀ (H : Heap) (locs : List Loc) (ls : Array Slot), va_P D vwCl [(a0, .inr (12, [.int v0.1, .ref a1, .ref a2, .ref a3, .int v0.2.2.2.2.1, .int v0.2.2.2.2.2.1, .int v0.2.2.2.2.2.2.1, .int v0.2.2.2.2.2.2.2.1, .int v0.2.2.2.2.2.2.2.2.1, .long v0.2.2.2.2.2.2.2.2.2.1, .int v0.2.2.2.2.2.2.2.2.2.2.1, .int v0.2.2.2.2.2.2.2.2.2.2.2.1, .int v0.2.2.2.2.2.2.2.2.2.2.2.2.1, .ref a4, .int v0.2.2.2.2.2.2.2.2.2.2.2.2.2.2.1, .int v0.2.2.2.2.2.2.2.2.2.2.2.2.2.2.2.1, .int v0.2.2.2.2.2.2.2.2.2.2.2.2.2.2.2.2.1, .int v0.2.2.2.2.2.2.2.2.2.2.2.2.2.2.2.2.2.1, .int v0.2.2.2.2.2.2.2.2.2.2.2.2.2.2.2.2.2.2.1, .long v0.2.2.2.2.2.2.2.2.2.2.2.2.2.2.2.2.2.2.2.1, .long v0.2.2.2.2.2.2.2.2.2.2.2.2.2.2.2.2.2.2.2.2.1, .ref a5])), (a1, .inl (ca 0, 4725, .inl v0.2.1)), (a2, .inl (ca 2, 1500, .inl v0.2.2.1)), (a3, .inl (ca 3, 3, .inl v0.2.2.2.1)), (a4, .inl (ca 0, 22, .inl v0.2.2.2.2.2.2.2.2.2.2.2.2.2.1)), (a5, .inl (ca 0, 256, .inl v0.2.2.2.2.2.2.2.2.2.2.2.2.2.2.2.2.2.2.2.2.2))] H → va_D A [(a0, .inr (12, [.int v0.1, .ref a1, .ref a2, .ref a3, .int v0.2.2.2.2.1, .int v0.2.2.2.2.2.1, .int v0.2.2.2.2.2.2.1, .int v0.2.2.2.2.2.2.2.1, .int v0.2.2.2.2.2.2.2.2.1, .long v0.2.2.2.2.2.2.2.2.2.1, .int v0.2.2.2.2.2.2.2.2.2.2.1, .int v0.2.2.2.2.2.2.2.2.2.2.2.1, .int v0.2.2.2.2.2.2.2.2.2.2.2.2.1, .ref a4, .int v0.2.2.2.2.2.2.2.2.2.2.2.2.2.2.1, .int v0.2.2.2.2.2.2.2.2.2.2.2.2.2.2.2.1, .int v0.2.2.2.2.2.2.2.2.2.2.2.2.2.2.2.2.1, .int v0.2.2.2.2.2.2.2.2.2.2.2.2.2.2.2.2.2.1, .int v0.2.2.2.2.2.2.2.2.2.2.2.2.2.2.2.2.2.2.1, .long v0.2.2.2.2.2.2.2.2.2.2.2.2.2.2.2.2.2.2.2.1, .long v0.2.2.2.2.2.2.2.2.2.2.2.2.2.2.2.2.2.2.2.2.1, .ref a5])), (a1, .inl (ca 0, 4725, .inl v0.2.1)), (a2, .inl (ca 2, 1500, .inl v0.2.2.1)), (a3, .inl (ca 3, 3, .inl v0.2.2.2.1)), (a4, .inl (ca 0, 22, .inl v0.2.2.2.2.2.2.2.2.2.2.2.2.2.1)), (a5, .inl (ca 0, 256, .inl v0.2.2.2.2.2.2.2.2.2.2.2.2.2.2.2.2.2.2.2.2.2))] → va_S A s.heap H locs → lv_has ls 8 [(0, .ref a0), (1, .int x1), (2, .int x2), (3, .int x3), (4, .int x4), (5, .int x5), (6, .int x6)] → W p l e ({ frames := 3, cells := 0, slots := 0, locals := 71 } : Room) s m args below meth c H locs 0 0 Q (F0 m 60 ls []) := by
    intro k37 q37 v0 x1 x2 x3 x4 x5 x6 hf H locs ls hP hD hS hl
    unfold fc_X12_compared_60 at hf
    refine lv_aload_n hx hb dX12_compared_60 rfl (lv_at hl 0 rfl) ?_
    refine lv_iload hx hb dX12_compared_61 (lv_at hl 6 rfl) ?_
    obtain ⟨r_11, hc11, hf⟩ := bnd1_el hf
    refine xV_I (As := [.int x6]) (wx := [(a0, .inr (12, [.int v0.1, .ref a1, .ref a2, .ref a3, .int v0.2.2.2.2.1, .int v0.2.2.2.2.2.1, .int v0.2.2.2.2.2.2.1, .int v0.2.2.2.2.2.2.2.1, .int v0.2.2.2.2.2.2.2.2.1, .long v0.2.2.2.2.2.2.2.2.2.1, .int v0.2.2.2.2.2.2.2.2.2.2.1, .int v0.2.2.2.2.2.2.2.2.2.2.2.1, .int v0.2.2.2.2.2.2.2.2.2.2.2.2.1, .ref a4, .int v0.2.2.2.2.2.2.2.2.2.2.2.2.2.2.1, .int v0.2.2.2.2.2.2.2.2.2.2.2.2.2.2.2.1, .int v0.2.2.2.2.2.2.2.2.2.2.2.2.2.2.2.2.1, .int v0.2.2.2.2.2.2.2.2.2.2.2.2.2.2.2.2.2.1, .int v0.2.2.2.2.2.2.2.2.2.2.2.2.2.2.2.2.2.2.1, .long v0.2.2.2.2.2.2.2.2.2.2.2.2.2.2.2.2.2.2.2.1, .long v0.2.2.2.2.2.2.2.2.2.2.2.2.2.2.2.2.2.2.2.2.1, .ref a5])), (a1, .inl (ca 0, 4725, .inl v0.2.1)), (a2, .inl (ca 2, 1500, .inl v0.2.2.1)), (a3, .inl (ca 3, 3, .inl v0.2.2.2.1)), (a4, .inl (ca 0, 22, .inl v0.2.2.2.2.2.2.2.2.2.2.2.2.2.1)), (a5, .inl (ca 0, 256, .inl v0.2.2.2.2.2.2.2.2.2.2.2.2.2.2.2.2.2.2.2.2.2))]) ⟨hx, hb, hml, hown, hts⟩ (c_X12_isWhole l D ca zz a0 a1 a2 a3 a4 a5 _ v0 x6 r_11 hc11) (cwV 1 hts (gV gw_7_9 gw_7_11 gw_s_5_6 gw_1_15 gw_7_12) rfl rfl rfl (by decide +kernel) ⟨(Nat.le_of_ble_eq_true rfl), (Nat.le_of_ble_eq_true rfl)⟩) hK hN hZ hA hP hD hS [0, 1] [some 0, some 1, none, none, none, none] (by decide +kernel) rfl rfl rfl rfl 0 rfl rfl hl.1 rfl (Nat.le_of_ble_eq_true rfl) dX12_compared_63 ⟨Nat.zero_le _, Nat.zero_le _⟩ rfl (fun H locs hP hD hS => ?_)
    refine xi_eq (tgt := 78) hx hb dX12_compared_66 (by decide) hf (fun hf => ?_) (fun hf => ?_)
    · refine lv_iconst (v := 0) hx hb dX12_compared_78 rfl ?_
      exact b79 k37 q37 v0 x1 x2 x3 x4 x5 x6 (0 : Int32) hf _ _ _ hP hD hS (lv_sub hl [0, 1, 2, 3, 4, 5, 6] rfl)
    · refine lv_aload_n hx hb dX12_compared_69 rfl (lv_at hl 0 rfl) ?_
      refine lv_iload hx hb dX12_compared_70 (lv_at hl 6 rfl) ?_
      obtain ⟨r_17, hc17, hf⟩ := bnd1_el hf
      refine xV_I (As := [.int x6]) (wx := [(a0, .inr (12, [.int v0.1, .ref a1, .ref a2, .ref a3, .int v0.2.2.2.2.1, .int v0.2.2.2.2.2.1, .int v0.2.2.2.2.2.2.1, .int v0.2.2.2.2.2.2.2.1, .int v0.2.2.2.2.2.2.2.2.1, .long v0.2.2.2.2.2.2.2.2.2.1, .int v0.2.2.2.2.2.2.2.2.2.2.1, .int v0.2.2.2.2.2.2.2.2.2.2.2.1, .int v0.2.2.2.2.2.2.2.2.2.2.2.2.1, .ref a4, .int v0.2.2.2.2.2.2.2.2.2.2.2.2.2.2.1, .int v0.2.2.2.2.2.2.2.2.2.2.2.2.2.2.2.1, .int v0.2.2.2.2.2.2.2.2.2.2.2.2.2.2.2.2.1, .int v0.2.2.2.2.2.2.2.2.2.2.2.2.2.2.2.2.2.1, .int v0.2.2.2.2.2.2.2.2.2.2.2.2.2.2.2.2.2.2.1, .long v0.2.2.2.2.2.2.2.2.2.2.2.2.2.2.2.2.2.2.2.1, .long v0.2.2.2.2.2.2.2.2.2.2.2.2.2.2.2.2.2.2.2.2.1, .ref a5])), (a1, .inl (ca 0, 4725, .inl v0.2.1)), (a2, .inl (ca 2, 1500, .inl v0.2.2.1)), (a3, .inl (ca 3, 3, .inl v0.2.2.2.1)), (a4, .inl (ca 0, 22, .inl v0.2.2.2.2.2.2.2.2.2.2.2.2.2.1)), (a5, .inl (ca 0, 256, .inl v0.2.2.2.2.2.2.2.2.2.2.2.2.2.2.2.2.2.2.2.2.2))]) ⟨hx, hb, hml, hown, hts⟩ (c_X12_ofRow l D ca zz a0 a1 a2 a3 a4 a5 _ v0 x6 r_17 hc17) (cwV 1 hts (gV gw_7_13 gw_7_15 gw_s_5_7 gw_1_15 gw_7_16) rfl rfl rfl (by decide +kernel) ⟨(Nat.le_of_ble_eq_true rfl), (Nat.le_of_ble_eq_true rfl)⟩) hK hN hZ hA hP hD hS [0, 1] [some 0, some 1, none, none, none, none] (by decide +kernel) rfl rfl rfl rfl 0 rfl rfl hl.1 rfl (Nat.le_of_ble_eq_true rfl) dX12_compared_72 ⟨Nat.zero_le _, Nat.zero_le _⟩ rfl (fun H locs hP hD hS => ?_)
      refine lv_goto (tgt := 79) hx hb dX12_compared_75 (by decide) ?_
      exact b79 k37 q37 v0 x1 x2 x3 x4 x5 x6 r_17 hf _ _ _ hP hD hS (lv_sub hl [0, 1, 2, 3, 4, 5, 6] rfl)
  have bl37 : ∀ (k37 : V12 → Int32 → Int32 → Int32 → Int32 → Int32 → Int32 → Option (Int32 × V12)) (q37 : ∀ (v0 : V12) (x1 : Int32) (x2 : Int32) (x3 : Int32) (x4 : Int32) (x5 : Int32) (x6 : Int32), k37 v0 x1 x2 x3 x4 x5 x6 = some (r, v0') → ∀ (H : Heap) (locs : List Loc) (ls : Array Slot), va_P D vwCl [(a0, .inr (12, [.int v0.1, .ref a1, .ref a2, .ref a3, .int v0.2.2.2.2.1, .int v0.2.2.2.2.2.1, .int v0.2.2.2.2.2.2.1, .int v0.2.2.2.2.2.2.2.1, .int v0.2.2.2.2.2.2.2.2.1, .long v0.2.2.2.2.2.2.2.2.2.1, .int v0.2.2.2.2.2.2.2.2.2.2.1, .int v0.2.2.2.2.2.2.2.2.2.2.2.1, .int v0.2.2.2.2.2.2.2.2.2.2.2.2.1, .ref a4, .int v0.2.2.2.2.2.2.2.2.2.2.2.2.2.2.1, .int v0.2.2.2.2.2.2.2.2.2.2.2.2.2.2.2.1, .int v0.2.2.2.2.2.2.2.2.2.2.2.2.2.2.2.2.1, .int v0.2.2.2.2.2.2.2.2.2.2.2.2.2.2.2.2.2.1, .int v0.2.2.2.2.2.2.2.2.2.2.2.2.2.2.2.2.2.2.1, .long v0.2.2.2.2.2.2.2.2.2.2.2.2.2.2.2.2.2.2.2.1, .long v0.2.2.2.2.2.2.2.2.2.2.2.2.2.2.2.2.2.2.2.2.1, .ref a5])), (a1, .inl (ca 0, 4725, .inl v0.2.1)), (a2, .inl (ca 2, 1500, .inl v0.2.2.1)), (a3, .inl (ca 3, 3, .inl v0.2.2.2.1)), (a4, .inl (ca 0, 22, .inl v0.2.2.2.2.2.2.2.2.2.2.2.2.2.1)), (a5, .inl (ca 0, 256, .inl v0.2.2.2.2.2.2.2.2.2.2.2.2.2.2.2.2.2.2.2.2.2))] H → va_D A [(a0, .inr (12, [.int v0.1, .ref a1, .ref a2, .ref a3, .int v0.2.2.2.2.1, .int v0.2.2.2.2.2.1, .int v0.2.2.2.2.2.2.1, .int v0.2.2.2.2.2.2.2.1, .int v0.2.2.2.2.2.2.2.2.1, .long v0.2.2.2.2.2.2.2.2.2.1, .int v0.2.2.2.2.2.2.2.2.2.2.1, .int v0.2.2.2.2.2.2.2.2.2.2.2.1, .int v0.2.2.2.2.2.2.2.2.2.2.2.2.1, .ref a4, .int v0.2.2.2.2.2.2.2.2.2.2.2.2.2.2.1, .int v0.2.2.2.2.2.2.2.2.2.2.2.2.2.2.2.1, .int v0.2.2.2.2.2.2.2.2.2.2.2.2.2.2.2.2.1, .int v0.2.2.2.2.2.2.2.2.2.2.2.2.2.2.2.2.2.1, .int v0.2.2.2.2.2.2.2.2.2.2.2.2.2.2.2.2.2.2.1, .long v0.2.2.2.2.2.2.2.2.2.2.2.2.2.2.2.2.2.2.2.1, .long v0.2.2.2.2.2.2.2.2.2.2.2.2.2.2.2.2.2.2.2.2.1, .ref a5])), (a1, .inl (ca 0, 4725, .inl v0.2.1)), (a2, .inl (ca 2, 1500, .inl v0.2.2.1)), (a3, .inl (ca 3, 3, .inl v0.2.2.2.1)), (a4, .inl (ca 0, 22, .inl v0.2.2.2.2.2.2.2.2.2.2.2.2.2.1)), (a5, .inl (ca 0, 256, .inl v0.2.2.2.2.2.2.2.2.2.2.2.2.2.2.2.2.2.2.2.2.2))] → va_S A s.heap H locs → lv_has ls 8 [(0, .ref a0), (1, .int x1), (2, .int x2), (3, .int x3), (4, .int x4), (5, .int x5), (6, .int x6)] → W p l e ({ frames := 3, cells := 0, slots := 0, locals := 71 } : Room) s m args below meth c H locs 0 0 Q (F0 m 37 ls [])) (v0 : V12) (x1 : Int32) (x2 : Int32) (x3 : Int32) (x4 : Int32) (x5 : Int32) (x6 : Int32), fl_X12_compared_37 k37 v0 x1 x2 x3 x4 x5 x6 = some (r, v0') → ∀ (H : Heap) (locs : List Loc) (ls : Array Slot), va_P D vwCl [(a0, .inr (12, [.int v0.1, .ref a1, .ref a2, .ref a3, .int v0.2.2.2.2.1, .int v0.2.2.2.2.2.1, .int v0.2.2.2.2.2.2.1, .int v0.2.2.2.2.2.2.2.1, .int v0.2.2.2.2.2.2.2.2.1, .long v0.2.2.2.2.2.2.2.2.2.1, .int v0.2.2.2.2.2.2.2.2.2.2.1, .int v0.2.2.2.2.2.2.2.2.2.2.2.1, .int v0.2.2.2.2.2.2.2.2.2.2.2.2.1, .ref a4, .int v0.2.2.2.2.2.2.2.2.2.2.2.2.2.2.1, .int v0.2.2.2.2.2.2.2.2.2.2.2.2.2.2.2.1, .int v0.2.2.2.2.2.2.2.2.2.2.2.2.2.2.2.2.1, .int v0.2.2.2.2.2.2.2.2.2.2.2.2.2.2.2.2.2.1, .int v0.2.2.2.2.2.2.2.2.2.2.2.2.2.2.2.2.2.2.1, .long v0.2.2.2.2.2.2.2.2.2.2.2.2.2.2.2.2.2.2.2.1, .long v0.2.2.2.2.2.2.2.2.2.2.2.2.2.2.2.2.2.2.2.2.1, .ref a5])), (a1, .inl (ca 0, 4725, .inl v0.2.1)), (a2, .inl (ca 2, 1500, .inl v0.2.2.1)), (a3, .inl (ca 3, 3, .inl v0.2.2.2.1)), (a4, .inl (ca 0, 22, .inl v0.2.2.2.2.2.2.2.2.2.2.2.2.2.1)), (a5, .inl (ca 0, 256, .inl v0.2.2.2.2.2.2.2.2.2.2.2.2.2.2.2.2.2.2.2.2.2))] H → va_D A [(a0, .inr (12, [.int v0.1, .ref a1, .ref a2, .ref a3, .int v0.2.2.2.2.1, .int v0.2.2.2.2.2.1, .int v0.2.2.2.2.2.2.1, .int v0.2.2.2.2.2.2.2.1, .int v0.2.2.2.2.2.2.2.2.1, .long v0.2.2.2.2.2.2.2.2.2.1, .int v0.2.2.2.2.2.2.2.2.2.2.1, .int v0.2.2.2.2.2.2.2.2.2.2.2.1, .int v0.2.2.2.2.2.2.2.2.2.2.2.2.1, .ref a4, .int v0.2.2.2.2.2.2.2.2.2.2.2.2.2.2.1, .int v0.2.2.2.2.2.2.2.2.2.2.2.2.2.2.2.1, .int v0.2.2.2.2.2.2.2.2.2.2.2.2.2.2.2.2.1, .int v0.2.2.2.2.2.2.2.2.2.2.2.2.2.2.2.2.2.1, .int v0.2.2.2.2.2.2.2.2.2.2.2.2.2.2.2.2.2.2.1, .long v0.2.2.2.2.2.2.2.2.2.2.2.2.2.2.2.2.2.2.2.1, .long v0.2.2.2.2.2.2.2.2.2.2.2.2.2.2.2.2.2.2.2.2.1, .ref a5])), (a1, .inl (ca 0, 4725, .inl v0.2.1)), (a2, .inl (ca 2, 1500, .inl v0.2.2.1)), (a3, .inl (ca 3, 3, .inl v0.2.2.2.1)), (a4, .inl (ca 0, 22, .inl v0.2.2.2.2.2.2.2.2.2.2.2.2.2.1)), (a5, .inl (ca 0, 256, .inl v0.2.2.2.2.2.2.2.2.2.2.2.2.2.2.2.2.2.2.2.2.2))] → va_S A s.heap H locs → lv_has ls 8 [(0, .ref a0), (1, .int x1), (2, .int x2), (3, .int x3), (4, .int x4), (5, .int x5), (6, .int x6)] → W p l e ({ frames := 3, cells := 0, slots := 0, locals := 71 } : Room) s m args below meth c H locs 0 0 Q (F0 m 37 ls []) := by
    intro k37 q37 v0 x1 x2 x3 x4 x5 x6 hf H locs ls hP hD hS hl
    unfold fl_X12_compared_37 at hf
    refine lv_iload hx hb dX12_compared_37 (lv_at hl 6 rfl) ?_
    refine lv_aload_n hx hb dX12_compared_39 rfl (lv_at hl 0 rfl) ?_
    refine va_get (C := RX12) (T := TX12) (N := 22) hx hb hts i12 hown hK hP 0 rfl rfl 1 (Nat.le_of_ble_eq_true rfl) w1 (fun _ h9 => h9) rfl dX12_compared_40 ?_
    refine lv_sipush (v := 701) hx hb dX12_compared_43 rfl ?_
    refine xiald hx hb hK hP 1 rfl hf dX12_compared_46 (fun hf => ?_)
    refine xc_ge (tgt := 114) hx hb dX12_compared_47 (by decide) hf (fun hf => ?_) (fun hf => ?_)
    · exact b114 v0 x1 x2 x3 x4 hf _ _ _ hP hD hS (lv_sub hl [0, 1, 2, 3, 4] rfl)
    · refine lv_iload_n hx hb dX12_compared_50 rfl (lv_at hl 1 rfl) ?_
      refine lv_iconst (v := 1) hx hb dX12_compared_51 rfl ?_
      refine xc_eq (tgt := 60) hx hb dX12_compared_52 (by decide) hf (fun hf => ?_) (fun hf => ?_)
      · exact b60 k37 q37 v0 x1 x2 x3 x4 x5 x6 hf _ _ _ hP hD hS (lv_sub hl [0, 1, 2, 3, 4, 5, 6] rfl)
      · refine lv_iload_n hx hb dX12_compared_55 rfl (lv_at hl 1 rfl) ?_
        refine lv_iconst (v := 3) hx hb dX12_compared_56 rfl ?_
        refine xc_ne (tgt := 114) hx hb dX12_compared_57 (by decide) hf (fun hf => ?_) (fun hf => ?_)
        · exact b114 v0 x1 x2 x3 x4 hf _ _ _ hP hD hS (lv_sub hl [0, 1, 2, 3, 4] rfl)
        · exact b60 k37 q37 v0 x1 x2 x3 x4 x5 x6 hf _ _ _ hP hD hS (lv_sub hl [0, 1, 2, 3, 4, 5, 6] rfl)
  have b37 : ∀ (n : Nat) (v0 : V12) (x1 : Int32) (x2 : Int32) (x3 : Int32) (x4 : Int32) (x5 : Int32) (x6 : Int32), fb_X12_compared_37 n v0 x1 x2 x3 x4 x5 x6 = some (r, v0') → ∀ (H : Heap) (locs : List Loc) (ls : Array Slot), va_P D vwCl [(a0, .inr (12, [.int v0.1, .ref a1, .ref a2, .ref a3, .int v0.2.2.2.2.1, .int v0.2.2.2.2.2.1, .int v0.2.2.2.2.2.2.1, .int v0.2.2.2.2.2.2.2.1, .int v0.2.2.2.2.2.2.2.2.1, .long v0.2.2.2.2.2.2.2.2.2.1, .int v0.2.2.2.2.2.2.2.2.2.2.1, .int v0.2.2.2.2.2.2.2.2.2.2.2.1, .int v0.2.2.2.2.2.2.2.2.2.2.2.2.1, .ref a4, .int v0.2.2.2.2.2.2.2.2.2.2.2.2.2.2.1, .int v0.2.2.2.2.2.2.2.2.2.2.2.2.2.2.2.1, .int v0.2.2.2.2.2.2.2.2.2.2.2.2.2.2.2.2.1, .int v0.2.2.2.2.2.2.2.2.2.2.2.2.2.2.2.2.2.1, .int v0.2.2.2.2.2.2.2.2.2.2.2.2.2.2.2.2.2.2.1, .long v0.2.2.2.2.2.2.2.2.2.2.2.2.2.2.2.2.2.2.2.1, .long v0.2.2.2.2.2.2.2.2.2.2.2.2.2.2.2.2.2.2.2.2.1, .ref a5])), (a1, .inl (ca 0, 4725, .inl v0.2.1)), (a2, .inl (ca 2, 1500, .inl v0.2.2.1)), (a3, .inl (ca 3, 3, .inl v0.2.2.2.1)), (a4, .inl (ca 0, 22, .inl v0.2.2.2.2.2.2.2.2.2.2.2.2.2.1)), (a5, .inl (ca 0, 256, .inl v0.2.2.2.2.2.2.2.2.2.2.2.2.2.2.2.2.2.2.2.2.2))] H → va_D A [(a0, .inr (12, [.int v0.1, .ref a1, .ref a2, .ref a3, .int v0.2.2.2.2.1, .int v0.2.2.2.2.2.1, .int v0.2.2.2.2.2.2.1, .int v0.2.2.2.2.2.2.2.1, .int v0.2.2.2.2.2.2.2.2.1, .long v0.2.2.2.2.2.2.2.2.2.1, .int v0.2.2.2.2.2.2.2.2.2.2.1, .int v0.2.2.2.2.2.2.2.2.2.2.2.1, .int v0.2.2.2.2.2.2.2.2.2.2.2.2.1, .ref a4, .int v0.2.2.2.2.2.2.2.2.2.2.2.2.2.2.1, .int v0.2.2.2.2.2.2.2.2.2.2.2.2.2.2.2.1, .int v0.2.2.2.2.2.2.2.2.2.2.2.2.2.2.2.2.1, .int v0.2.2.2.2.2.2.2.2.2.2.2.2.2.2.2.2.2.1, .int v0.2.2.2.2.2.2.2.2.2.2.2.2.2.2.2.2.2.2.1, .long v0.2.2.2.2.2.2.2.2.2.2.2.2.2.2.2.2.2.2.2.1, .long v0.2.2.2.2.2.2.2.2.2.2.2.2.2.2.2.2.2.2.2.2.1, .ref a5])), (a1, .inl (ca 0, 4725, .inl v0.2.1)), (a2, .inl (ca 2, 1500, .inl v0.2.2.1)), (a3, .inl (ca 3, 3, .inl v0.2.2.2.1)), (a4, .inl (ca 0, 22, .inl v0.2.2.2.2.2.2.2.2.2.2.2.2.2.1)), (a5, .inl (ca 0, 256, .inl v0.2.2.2.2.2.2.2.2.2.2.2.2.2.2.2.2.2.2.2.2.2))] → va_S A s.heap H locs → lv_has ls 8 [(0, .ref a0), (1, .int x1), (2, .int x2), (3, .int x3), (4, .int x4), (5, .int x5), (6, .int x6)] → W p l e ({ frames := 3, cells := 0, slots := 0, locals := 71 } : Room) s m args below meth c H locs 0 0 Q (F0 m 37 ls []) := by
    intro n
    induction n with
    | zero => intro v0 x1 x2 x3 x4 x5 x6 hf; exact no_el hf
    | succ n ih => exact bl37 (fb_X12_compared_37 n) ih
  unfold f_X12_compared at hf
  refine lv_aload_n hx hb dX12_compared_0 rfl (lv_at hl 0 rfl) ?_
  refine lv_iconst (v := 0) hx hb dX12_compared_1 rfl ?_
  refine xput (C := RX12) (T := TX12) (N := 22) (wx := [(a0, .inr (12, [.int (0 : Int32), .ref a1, .ref a2, .ref a3, .int v0.2.2.2.2.1, .int v0.2.2.2.2.2.1, .int v0.2.2.2.2.2.2.1, .int v0.2.2.2.2.2.2.2.1, .int v0.2.2.2.2.2.2.2.2.1, .long v0.2.2.2.2.2.2.2.2.2.1, .int v0.2.2.2.2.2.2.2.2.2.2.1, .int v0.2.2.2.2.2.2.2.2.2.2.2.1, .int v0.2.2.2.2.2.2.2.2.2.2.2.2.1, .ref a4, .int v0.2.2.2.2.2.2.2.2.2.2.2.2.2.2.1, .int v0.2.2.2.2.2.2.2.2.2.2.2.2.2.2.2.1, .int v0.2.2.2.2.2.2.2.2.2.2.2.2.2.2.2.2.1, .int v0.2.2.2.2.2.2.2.2.2.2.2.2.2.2.2.2.2.1, .int v0.2.2.2.2.2.2.2.2.2.2.2.2.2.2.2.2.2.2.1, .long v0.2.2.2.2.2.2.2.2.2.2.2.2.2.2.2.2.2.2.2.1, .long v0.2.2.2.2.2.2.2.2.2.2.2.2.2.2.2.2.2.2.2.2.1, .ref a5])), (a1, .inl (ca 0, 4725, .inl v0.2.1)), (a2, .inl (ca 2, 1500, .inl v0.2.2.1)), (a3, .inl (ca 3, 3, .inl v0.2.2.2.1)), (a4, .inl (ca 0, 22, .inl v0.2.2.2.2.2.2.2.2.2.2.2.2.2.1)), (a5, .inl (ca 0, 256, .inl v0.2.2.2.2.2.2.2.2.2.2.2.2.2.2.2.2.2.2.2.2.2))]) hx hb hts i12 tyX12 tyX12_ok nmX12 hown hK hP hD hS 0 rfl rfl 0 (Nat.le_of_ble_eq_true rfl) w0 (fun _ h9 => h9) rfl rfl rfl rfl (Nat.le_of_ble_eq_true rfl) dX12_compared_2 rfl (fun H locs hP hD hS => ?_)
  refine lv_iload_n hx hb dX12_compared_5 rfl (lv_at hl 1 rfl) ?_
  refine lv_iconst (v := 0) hx hb dX12_compared_6 rfl ?_
  refine lv_iconst (v := 4) hx hb dX12_compared_7 rfl ?_
  obtain ⟨r_1, hc1, hf⟩ := bnd1_el hf
  refine xS_I (As := [.int p1, .int (0 : Int32), .int (4 : Int32)]) (wx := [(a0, .inr (12, [.int (0 : Int32), .ref a1, .ref a2, .ref a3, .int v0.2.2.2.2.1, .int v0.2.2.2.2.2.1, .int v0.2.2.2.2.2.2.1, .int v0.2.2.2.2.2.2.2.1, .int v0.2.2.2.2.2.2.2.2.1, .long v0.2.2.2.2.2.2.2.2.2.1, .int v0.2.2.2.2.2.2.2.2.2.2.1, .int v0.2.2.2.2.2.2.2.2.2.2.2.1, .int v0.2.2.2.2.2.2.2.2.2.2.2.2.1, .ref a4, .int v0.2.2.2.2.2.2.2.2.2.2.2.2.2.2.1, .int v0.2.2.2.2.2.2.2.2.2.2.2.2.2.2.2.1, .int v0.2.2.2.2.2.2.2.2.2.2.2.2.2.2.2.2.1, .int v0.2.2.2.2.2.2.2.2.2.2.2.2.2.2.2.2.2.1, .int v0.2.2.2.2.2.2.2.2.2.2.2.2.2.2.2.2.2.2.1, .long v0.2.2.2.2.2.2.2.2.2.2.2.2.2.2.2.2.2.2.2.1, .long v0.2.2.2.2.2.2.2.2.2.2.2.2.2.2.2.2.2.2.2.2.1, .ref a5])), (a1, .inl (ca 0, 4725, .inl v0.2.1)), (a2, .inl (ca 2, 1500, .inl v0.2.2.1)), (a3, .inl (ca 3, 3, .inl v0.2.2.2.1)), (a4, .inl (ca 0, 22, .inl v0.2.2.2.2.2.2.2.2.2.2.2.2.2.1)), (a5, .inl (ca 0, 256, .inl v0.2.2.2.2.2.2.2.2.2.2.2.2.2.2.2.2.2.2.2.2.2))]) ⟨hx, hb, hml, hown, hts⟩ (c_X12_in l D ca zz  _ p1 (0 : Int32) (4 : Int32) r_1 hc1) (va_cwS 3 hts (gS gw_5_204 gw_5_205 gw_1_15 gw_5_206) rfl rfl rfl (by decide +kernel) ⟨(Nat.le_of_ble_eq_true rfl), (Nat.le_of_ble_eq_true rfl)⟩) hK hN hZ hA hP hD hS [] [none, none, none, none, none, none] (by decide +kernel) rfl rfl rfl rfl hl.1 rfl (Nat.le_of_ble_eq_true rfl) dX12_compared_8 ⟨Nat.zero_le _, Nat.zero_le _⟩ rfl (fun H locs hP hD hS => ?_)
  refine xi_ne (tgt := 16) hx hb dX12_compared_11 (by decide) hf (fun hf => ?_) (fun hf => ?_)
  · refine lv_aload_n hx hb dX12_compared_16 rfl (lv_at hl 0 rfl) ?_
    obtain ⟨r_2, hc2, hf⟩ := bnd1_el hf
    have hMhc2 := fun sz => c_X12_wholeRows l D ca zz a0 a1 a2 a3 a4 a5 sz (((0 : Int32), v0.2)) r_2 hc2
    dsimp only at hMhc2
    refine xV_I (As := []) (wx := [(a0, .inr (12, [.int (0 : Int32), .ref a1, .ref a2, .ref a3, .int v0.2.2.2.2.1, .int v0.2.2.2.2.2.1, .int v0.2.2.2.2.2.2.1, .int v0.2.2.2.2.2.2.2.1, .int v0.2.2.2.2.2.2.2.2.1, .long v0.2.2.2.2.2.2.2.2.2.1, .int v0.2.2.2.2.2.2.2.2.2.2.1, .int v0.2.2.2.2.2.2.2.2.2.2.2.1, .int v0.2.2.2.2.2.2.2.2.2.2.2.2.1, .ref a4, .int v0.2.2.2.2.2.2.2.2.2.2.2.2.2.2.1, .int v0.2.2.2.2.2.2.2.2.2.2.2.2.2.2.2.1, .int v0.2.2.2.2.2.2.2.2.2.2.2.2.2.2.2.2.1, .int v0.2.2.2.2.2.2.2.2.2.2.2.2.2.2.2.2.2.1, .int v0.2.2.2.2.2.2.2.2.2.2.2.2.2.2.2.2.2.2.1, .long v0.2.2.2.2.2.2.2.2.2.2.2.2.2.2.2.2.2.2.2.1, .long v0.2.2.2.2.2.2.2.2.2.2.2.2.2.2.2.2.2.2.2.2.1, .ref a5])), (a1, .inl (ca 0, 4725, .inl v0.2.1)), (a2, .inl (ca 2, 1500, .inl v0.2.2.1)), (a3, .inl (ca 3, 3, .inl v0.2.2.2.1)), (a4, .inl (ca 0, 22, .inl v0.2.2.2.2.2.2.2.2.2.2.2.2.2.1)), (a5, .inl (ca 0, 256, .inl v0.2.2.2.2.2.2.2.2.2.2.2.2.2.2.2.2.2.2.2.2.2))]) ⟨hx, hb, hml, hown, hts⟩ (hMhc2 _) (cwV 0 hts (gV gw_7_5 gw_7_7 gw_s_5_5 gw_1_15 gw_7_8) rfl rfl rfl (by decide +kernel) ⟨(Nat.le_of_ble_eq_true rfl), (Nat.le_of_ble_eq_true rfl)⟩) hK hN hZ hA hP hD hS [0, 1] [some 0, some 1, none, none, none, none] (by decide +kernel) rfl rfl rfl rfl 0 rfl rfl hl.1 rfl (Nat.le_of_ble_eq_true rfl) dX12_compared_17 ⟨Nat.zero_le _, Nat.zero_le _⟩ rfl (fun H locs hP hD hS => ?_)
    refine lv_istore_n (lv' := [(2, .int r_2), (0, .ref a0), (1, .int p1)]) hx hb dX12_compared_20 rfl hl (Nat.le_of_ble_eq_true rfl) rfl (fun ls hl => ?_)
    refine lv_iconst (v := 0) hx hb dX12_compared_21 rfl ?_
    refine lv_istore_n (lv' := [(3, .int (0 : Int32)), (2, .int r_2), (0, .ref a0), (1, .int p1)]) hx hb dX12_compared_22 rfl hl (Nat.le_of_ble_eq_true rfl) rfl (fun ls hl => ?_)
    refine lv_iconst (v := 0) hx hb dX12_compared_23 rfl ?_
    refine lv_istore (lv' := [(4, .int (0 : Int32)), (3, .int (0 : Int32)), (2, .int r_2), (0, .ref a0), (1, .int p1)]) hx hb dX12_compared_24 hl (Nat.le_of_ble_eq_true rfl) rfl (fun ls hl => ?_)
    refine lv_aload_n hx hb dX12_compared_26 rfl (lv_at hl 3 rfl) ?_
    refine lv_bipush (v := 15) hx hb dX12_compared_27 rfl ?_
    obtain ⟨r_3, hc3, hf⟩ := bnd1_el hf
    have hMhc3 := fun sz => c_X12_rowsLimit l D ca zz a0 a1 a2 a3 a4 a5 sz (((0 : Int32), v0.2)) (15 : Int32) r_3 hc3
    dsimp only at hMhc3
    refine xV_I (As := [.int (15 : Int32)]) (wx := [(a0, .inr (12, [.int (0 : Int32), .ref a1, .ref a2, .ref a3, .int v0.2.2.2.2.1, .int v0.2.2.2.2.2.1, .int v0.2.2.2.2.2.2.1, .int v0.2.2.2.2.2.2.2.1, .int v0.2.2.2.2.2.2.2.2.1, .long v0.2.2.2.2.2.2.2.2.2.1, .int v0.2.2.2.2.2.2.2.2.2.2.1, .int v0.2.2.2.2.2.2.2.2.2.2.2.1, .int v0.2.2.2.2.2.2.2.2.2.2.2.2.1, .ref a4, .int v0.2.2.2.2.2.2.2.2.2.2.2.2.2.2.1, .int v0.2.2.2.2.2.2.2.2.2.2.2.2.2.2.2.1, .int v0.2.2.2.2.2.2.2.2.2.2.2.2.2.2.2.2.1, .int v0.2.2.2.2.2.2.2.2.2.2.2.2.2.2.2.2.2.1, .int v0.2.2.2.2.2.2.2.2.2.2.2.2.2.2.2.2.2.2.1, .long v0.2.2.2.2.2.2.2.2.2.2.2.2.2.2.2.2.2.2.2.1, .long v0.2.2.2.2.2.2.2.2.2.2.2.2.2.2.2.2.2.2.2.2.1, .ref a5])), (a1, .inl (ca 0, 4725, .inl v0.2.1)), (a2, .inl (ca 2, 1500, .inl v0.2.2.1)), (a3, .inl (ca 3, 3, .inl v0.2.2.2.1)), (a4, .inl (ca 0, 22, .inl v0.2.2.2.2.2.2.2.2.2.2.2.2.2.1)), (a5, .inl (ca 0, 256, .inl v0.2.2.2.2.2.2.2.2.2.2.2.2.2.2.2.2.2.2.2.2.2))]) ⟨hx, hb, hml, hown, hts⟩ (hMhc3 _) (cwV 1 hts (gV gw_6_54 gw_6_56 gw_s_3_10 gw_1_15 gw_6_57) rfl rfl rfl (by decide +kernel) ⟨(Nat.le_of_ble_eq_true rfl), (Nat.le_of_ble_eq_true rfl)⟩) hK hN hZ hA hP hD hS [0, 1] [some 0, some 1, none, none, none, none] (by decide +kernel) rfl rfl rfl rfl 0 rfl rfl hl.1 rfl (Nat.le_of_ble_eq_true rfl) dX12_compared_29 ⟨Nat.zero_le _, Nat.zero_le _⟩ rfl (fun H locs hP hD hS => ?_)
    refine lv_istore (lv' := [(5, .int r_3), (4, .int (0 : Int32)), (3, .int (0 : Int32)), (2, .int r_2), (0, .ref a0), (1, .int p1)]) hx hb dX12_compared_32 hl (Nat.le_of_ble_eq_true rfl) rfl (fun ls hl => ?_)
    refine lv_iconst (v := 0) hx hb dX12_compared_34 rfl ?_
    refine lv_istore (lv' := [(6, .int (0 : Int32)), (5, .int r_3), (4, .int (0 : Int32)), (3, .int (0 : Int32)), (2, .int r_2), (0, .ref a0), (1, .int p1)]) hx hb dX12_compared_35 hl (Nat.le_of_ble_eq_true rfl) rfl (fun ls hl => ?_)
    have jb := b37 FU (((0 : Int32), v0.2)) p1 r_2 (0 : Int32) (0 : Int32) r_3 (0 : Int32)
    dsimp only at jb
    exact jb hf _ _ _ hP hD hS (lv_sub hl [5, 6, 4, 3, 2, 1, 0] rfl)
  · refine lv_iconst (v := -1) hx hb dX12_compared_14 rfl ?_
    have he := Option.some.inj hf
    obtain ⟨e_r, he⟩ := Prod.mk.inj he
    have e_v0 := he
    refine rt_I hx hb hr hlocks hK hP hD hS hQ e_r ?_ dX12_compared_15
    simp only [← e_v0]
end mp_14_cM16
section mp_14_cM17
abbrev wq_X12_longest : List Cond := Cond.code yX12_longest cX12_longest 7 (some .int) :: GL
set_option maxHeartbeats 4000000 in
set_option maxRecDepth 100000 in
theorem c_X12_longest (l : Launch) (D : va_G) (ca : Nat → ClassId) (zz : Nat → Nat) (a0 a1 a2 a3 a4 a5 : Nat) (sz : Nat) (v0 : V12) (p1 : Int32) (p2 : Int32) (r : Int32) (v0' : V12) (hf : f_X12_longest v0 p1 p2 = some (r, v0')) : Met l yX12_longest wq_X12_longest ({ frames := 2, cells := 0, slots := 0, locals := 44 } : Room) (PR D ca zz [.ref a0, .int p1, .int p2] sz [(a0, .inr (12, [.int v0.1, .ref a1, .ref a2, .ref a3, .int v0.2.2.2.2.1, .int v0.2.2.2.2.2.1, .int v0.2.2.2.2.2.2.1, .int v0.2.2.2.2.2.2.2.1, .int v0.2.2.2.2.2.2.2.2.1, .long v0.2.2.2.2.2.2.2.2.2.1, .int v0.2.2.2.2.2.2.2.2.2.2.1, .int v0.2.2.2.2.2.2.2.2.2.2.2.1, .int v0.2.2.2.2.2.2.2.2.2.2.2.2.1, .ref a4, .int v0.2.2.2.2.2.2.2.2.2.2.2.2.2.2.1, .int v0.2.2.2.2.2.2.2.2.2.2.2.2.2.2.2.1, .int v0.2.2.2.2.2.2.2.2.2.2.2.2.2.2.2.2.1, .int v0.2.2.2.2.2.2.2.2.2.2.2.2.2.2.2.2.2.1, .int v0.2.2.2.2.2.2.2.2.2.2.2.2.2.2.2.2.2.2.1, .long v0.2.2.2.2.2.2.2.2.2.2.2.2.2.2.2.2.2.2.2.1, .long v0.2.2.2.2.2.2.2.2.2.2.2.2.2.2.2.2.2.2.2.2.1, .ref a5])), (a1, .inl (ca 0, 4725, .inl v0.2.1)), (a2, .inl (ca 2, 1500, .inl v0.2.2.1)), (a3, .inl (ca 3, 3, .inl v0.2.2.2.1)), (a4, .inl (ca 0, 22, .inl v0.2.2.2.2.2.2.2.2.2.2.2.2.2.1)), (a5, .inl (ca 0, 256, .inl v0.2.2.2.2.2.2.2.2.2.2.2.2.2.2.2.2.2.2.2.2.2))]) (QI D ca r [(a0, .inr (12, [.int v0'.1, .ref a1, .ref a2, .ref a3, .int v0'.2.2.2.2.1, .int v0'.2.2.2.2.2.1, .int v0'.2.2.2.2.2.2.1, .int v0'.2.2.2.2.2.2.2.1, .int v0'.2.2.2.2.2.2.2.2.1, .long v0'.2.2.2.2.2.2.2.2.2.1, .int v0'.2.2.2.2.2.2.2.2.2.2.1, .int v0'.2.2.2.2.2.2.2.2.2.2.2.1, .int v0'.2.2.2.2.2.2.2.2.2.2.2.2.1, .ref a4, .int v0'.2.2.2.2.2.2.2.2.2.2.2.2.2.2.1, .int v0'.2.2.2.2.2.2.2.2.2.2.2.2.2.2.2.1, .int v0'.2.2.2.2.2.2.2.2.2.2.2.2.2.2.2.2.1, .int v0'.2.2.2.2.2.2.2.2.2.2.2.2.2.2.2.2.2.1, .int v0'.2.2.2.2.2.2.2.2.2.2.2.2.2.2.2.2.2.2.1, .long v0'.2.2.2.2.2.2.2.2.2.2.2.2.2.2.2.2.2.2.2.1, .long v0'.2.2.2.2.2.2.2.2.2.2.2.2.2.2.2.2.2.2.2.2.1, .ref a5])), (a1, .inl (ca 0, 4725, .inl v0'.2.1)), (a2, .inl (ca 2, 1500, .inl v0'.2.2.1)), (a3, .inl (ca 3, 3, .inl v0'.2.2.2.1)), (a4, .inl (ca 0, 22, .inl v0'.2.2.2.2.2.2.2.2.2.2.2.2.2.1)), (a5, .inl (ca 0, 256, .inl v0'.2.2.2.2.2.2.2.2.2.2.2.2.2.2.2.2.2.2.2.2.2))] (va_A [(a0, .inr (12, [.int v0.1, .ref a1, .ref a2, .ref a3, .int v0.2.2.2.2.1, .int v0.2.2.2.2.2.1, .int v0.2.2.2.2.2.2.1, .int v0.2.2.2.2.2.2.2.1, .int v0.2.2.2.2.2.2.2.2.1, .long v0.2.2.2.2.2.2.2.2.2.1, .int v0.2.2.2.2.2.2.2.2.2.2.1, .int v0.2.2.2.2.2.2.2.2.2.2.2.1, .int v0.2.2.2.2.2.2.2.2.2.2.2.2.1, .ref a4, .int v0.2.2.2.2.2.2.2.2.2.2.2.2.2.2.1, .int v0.2.2.2.2.2.2.2.2.2.2.2.2.2.2.2.1, .int v0.2.2.2.2.2.2.2.2.2.2.2.2.2.2.2.2.1, .int v0.2.2.2.2.2.2.2.2.2.2.2.2.2.2.2.2.2.1, .int v0.2.2.2.2.2.2.2.2.2.2.2.2.2.2.2.2.2.2.1, .long v0.2.2.2.2.2.2.2.2.2.2.2.2.2.2.2.2.2.2.2.1, .long v0.2.2.2.2.2.2.2.2.2.2.2.2.2.2.2.2.2.2.2.2.1, .ref a5])), (a1, .inl (ca 0, 4725, .inl v0.2.1)), (a2, .inl (ca 2, 1500, .inl v0.2.2.1)), (a3, .inl (ca 3, 3, .inl v0.2.2.2.1)), (a4, .inl (ca 0, 22, .inl v0.2.2.2.2.2.2.2.2.2.2.2.2.2.1)), (a5, .inl (ca 0, 256, .inl v0.2.2.2.2.2.2.2.2.2.2.2.2.2.2.2.2.2.2.2.2.2))] sz)) 0 0 (va_A [(a0, .inr (12, [.int v0.1, .ref a1, .ref a2, .ref a3, .int v0.2.2.2.2.1, .int v0.2.2.2.2.2.1, .int v0.2.2.2.2.2.2.1, .int v0.2.2.2.2.2.2.2.1, .int v0.2.2.2.2.2.2.2.2.1, .long v0.2.2.2.2.2.2.2.2.2.1, .int v0.2.2.2.2.2.2.2.2.2.2.1, .int v0.2.2.2.2.2.2.2.2.2.2.2.1, .int v0.2.2.2.2.2.2.2.2.2.2.2.2.1, .ref a4, .int v0.2.2.2.2.2.2.2.2.2.2.2.2.2.2.1, .int v0.2.2.2.2.2.2.2.2.2.2.2.2.2.2.2.1, .int v0.2.2.2.2.2.2.2.2.2.2.2.2.2.2.2.2.1, .int v0.2.2.2.2.2.2.2.2.2.2.2.2.2.2.2.2.2.1, .int v0.2.2.2.2.2.2.2.2.2.2.2.2.2.2.2.2.2.2.1, .long v0.2.2.2.2.2.2.2.2.2.2.2.2.2.2.2.2.2.2.2.1, .long v0.2.2.2.2.2.2.2.2.2.2.2.2.2.2.2.2.2.2.2.2.1, .ref a5])), (a1, .inl (ca 0, 4725, .inl v0.2.1)), (a2, .inl (ca 2, 1500, .inl v0.2.2.1)), (a3, .inl (ca 3, 3, .inl v0.2.2.2.1)), (a4, .inl (ca 0, 22, .inl v0.2.2.2.2.2.2.2.2.2.2.2.2.2.1)), (a5, .inl (ca 0, 256, .inl v0.2.2.2.2.2.2.2.2.2.2.2.2.2.2.2.2.2.2.2.2.2))] sz) := by
  refine en (y := yX12_longest) (wsm := wq_X12_longest) (av := [.ref a0, .int p1, .int p2]) (cc := cX12_longest) (maxL := 7) (ret := (some .int)) (Qf := fun A => (QI D ca r [(a0, .inr (12, [.int v0'.1, .ref a1, .ref a2, .ref a3, .int v0'.2.2.2.2.1, .int v0'.2.2.2.2.2.1, .int v0'.2.2.2.2.2.2.1, .int v0'.2.2.2.2.2.2.2.1, .int v0'.2.2.2.2.2.2.2.2.1, .long v0'.2.2.2.2.2.2.2.2.2.1, .int v0'.2.2.2.2.2.2.2.2.2.2.1, .int v0'.2.2.2.2.2.2.2.2.2.2.2.1, .int v0'.2.2.2.2.2.2.2.2.2.2.2.2.1, .ref a4, .int v0'.2.2.2.2.2.2.2.2.2.2.2.2.2.2.1, .int v0'.2.2.2.2.2.2.2.2.2.2.2.2.2.2.2.1, .int v0'.2.2.2.2.2.2.2.2.2.2.2.2.2.2.2.2.1, .int v0'.2.2.2.2.2.2.2.2.2.2.2.2.2.2.2.2.2.1, .int v0'.2.2.2.2.2.2.2.2.2.2.2.2.2.2.2.2.2.2.1, .long v0'.2.2.2.2.2.2.2.2.2.2.2.2.2.2.2.2.2.2.2.1, .long v0'.2.2.2.2.2.2.2.2.2.2.2.2.2.2.2.2.2.2.2.2.1, .ref a5])), (a1, .inl (ca 0, 4725, .inl v0'.2.1)), (a2, .inl (ca 2, 1500, .inl v0'.2.2.1)), (a3, .inl (ca 3, 3, .inl v0'.2.2.2.1)), (a4, .inl (ca 0, 22, .inl v0'.2.2.2.2.2.2.2.2.2.2.2.2.2.1)), (a5, .inl (ca 0, 256, .inl v0'.2.2.2.2.2.2.2.2.2.2.2.2.2.2.2.2.2.2.2.2.2))] A)) (by decide) rfl (Nat.le_of_ble_eq_true rfl) ?_
  intro p e s m args below meth c A Q ls hx hb hr hml hown hts hlocks hnm hA hN hZ hK hQ hP hD hS hl
  have w0 := hts _ (List.mem_cons_of_mem _ gw_5_115)
  have w1 := hts _ (List.mem_cons_of_mem _ gw_5_116)
  have i12 : ∀ w ∈ u_ws RX12 TX12 22, w ∈ wq_X12_longest := fun w h => List.mem_cons_of_mem _ (inX12 w h)
  have b65 : ∀ (k27 : V12 → Int32 → Int32 → Int32 → Int32 → Int32 → Int32 → Option (Int32 × V12)) (q27 : ∀ (v0 : V12) (x1 : Int32) (x2 : Int32) (x3 : Int32) (x4 : Int32) (x5 : Int32) (x6 : Int32), k27 v0 x1 x2 x3 x4 x5 x6 = some (r, v0') → ∀ (H : Heap) (locs : List Loc) (ls : Array Slot), va_P D vwCl [(a0, .inr (12, [.int v0.1, .ref a1, .ref a2, .ref a3, .int v0.2.2.2.2.1, .int v0.2.2.2.2.2.1, .int v0.2.2.2.2.2.2.1, .int v0.2.2.2.2.2.2.2.1, .int v0.2.2.2.2.2.2.2.2.1, .long v0.2.2.2.2.2.2.2.2.2.1, .int v0.2.2.2.2.2.2.2.2.2.2.1, .int v0.2.2.2.2.2.2.2.2.2.2.2.1, .int v0.2.2.2.2.2.2.2.2.2.2.2.2.1, .ref a4, .int v0.2.2.2.2.2.2.2.2.2.2.2.2.2.2.1, .int v0.2.2.2.2.2.2.2.2.2.2.2.2.2.2.2.1, .int v0.2.2.2.2.2.2.2.2.2.2.2.2.2.2.2.2.1, .int v0.2.2.2.2.2.2.2.2.2.2.2.2.2.2.2.2.2.1, .int v0.2.2.2.2.2.2.2.2.2.2.2.2.2.2.2.2.2.2.1, .long v0.2.2.2.2.2.2.2.2.2.2.2.2.2.2.2.2.2.2.2.1, .long v0.2.2.2.2.2.2.2.2.2.2.2.2.2.2.2.2.2.2.2.2.1, .ref a5])), (a1, .inl (ca 0, 4725, .inl v0.2.1)), (a2, .inl (ca 2, 1500, .inl v0.2.2.1)), (a3, .inl (ca 3, 3, .inl v0.2.2.2.1)), (a4, .inl (ca 0, 22, .inl v0.2.2.2.2.2.2.2.2.2.2.2.2.2.1)), (a5, .inl (ca 0, 256, .inl v0.2.2.2.2.2.2.2.2.2.2.2.2.2.2.2.2.2.2.2.2.2))] H → va_D A [(a0, .inr (12, [.int v0.1, .ref a1, .ref a2, .ref a3, .int v0.2.2.2.2.1, .int v0.2.2.2.2.2.1, .int v0.2.2.2.2.2.2.1, .int v0.2.2.2.2.2.2.2.1, .int v0.2.2.2.2.2.2.2.2.1, .long v0.2.2.2.2.2.2.2.2.2.1, .int v0.2.2.2.2.2.2.2.2.2.2.1, .int v0.2.2.2.2.2.2.2.2.2.2.2.1, .int v0.2.2.2.2.2.2.2.2.2.2.2.2.1, .ref a4, .int v0.2.2.2.2.2.2.2.2.2.2.2.2.2.2.1, .int v0.2.2.2.2.2.2.2.2.2.2.2.2.2.2.2.1, .int v0.2.2.2.2.2.2.2.2.2.2.2.2.2.2.2.2.1, .int v0.2.2.2.2.2.2.2.2.2.2.2.2.2.2.2.2.2.1, .int v0.2.2.2.2.2.2.2.2.2.2.2.2.2.2.2.2.2.2.1, .long v0.2.2.2.2.2.2.2.2.2.2.2.2.2.2.2.2.2.2.2.1, .long v0.2.2.2.2.2.2.2.2.2.2.2.2.2.2.2.2.2.2.2.2.1, .ref a5])), (a1, .inl (ca 0, 4725, .inl v0.2.1)), (a2, .inl (ca 2, 1500, .inl v0.2.2.1)), (a3, .inl (ca 3, 3, .inl v0.2.2.2.1)), (a4, .inl (ca 0, 22, .inl v0.2.2.2.2.2.2.2.2.2.2.2.2.2.1)), (a5, .inl (ca 0, 256, .inl v0.2.2.2.2.2.2.2.2.2.2.2.2.2.2.2.2.2.2.2.2.2))] → va_S A s.heap H locs → lv_has ls 7 [(0, .ref a0), (1, .int x1), (2, .int x2), (3, .int x3), (4, .int x4), (5, .int x5), (6, .int x6)] → W p l e ({ frames := 2, cells := 0, slots := 0, locals := 44 } : Room) s m args below meth c H locs 0 0 Q (F0 m 27 ls [])) (v0 : V12) (x1 : Int32) (x2 : Int32) (x3 : Int32) (x4 : Int32) (x6 : Int32) (t0 : Int32), fc_X12_longest_65 k27 v0 x1 x2 x3 x4 x6 t0 = some (r, v0') → ∀ (H : Heap) (locs : List Loc) (ls : Array Slot), va_P D vwCl [(a0, .inr (12, [.int v0.1, .ref a1, .ref a2, .ref a3, .int v0.2.2.2.2.1, .int v0.2.2.2.2.2.1, .int v0.2.2.2.2.2.2.1, .int v0.2.2.2.2.2.2.2.1, .int v0.2.2.2.2.2.2.2.2.1, .long v0.2.2.2.2.2.2.2.2.2.1, .int v0.2.2.2.2.2.2.2.2.2.2.1, .int v0.2.2.2.2.2.2.2.2.2.2.2.1, .int v0.2.2.2.2.2.2.2.2.2.2.2.2.1, .ref a4, .int v0.2.2.2.2.2.2.2.2.2.2.2.2.2.2.1, .int v0.2.2.2.2.2.2.2.2.2.2.2.2.2.2.2.1, .int v0.2.2.2.2.2.2.2.2.2.2.2.2.2.2.2.2.1, .int v0.2.2.2.2.2.2.2.2.2.2.2.2.2.2.2.2.2.1, .int v0.2.2.2.2.2.2.2.2.2.2.2.2.2.2.2.2.2.2.1, .long v0.2.2.2.2.2.2.2.2.2.2.2.2.2.2.2.2.2.2.2.1, .long v0.2.2.2.2.2.2.2.2.2.2.2.2.2.2.2.2.2.2.2.2.1, .ref a5])), (a1, .inl (ca 0, 4725, .inl v0.2.1)), (a2, .inl (ca 2, 1500, .inl v0.2.2.1)), (a3, .inl (ca 3, 3, .inl v0.2.2.2.1)), (a4, .inl (ca 0, 22, .inl v0.2.2.2.2.2.2.2.2.2.2.2.2.2.1)), (a5, .inl (ca 0, 256, .inl v0.2.2.2.2.2.2.2.2.2.2.2.2.2.2.2.2.2.2.2.2.2))] H → va_D A [(a0, .inr (12, [.int v0.1, .ref a1, .ref a2, .ref a3, .int v0.2.2.2.2.1, .int v0.2.2.2.2.2.1, .int v0.2.2.2.2.2.2.1, .int v0.2.2.2.2.2.2.2.1, .int v0.2.2.2.2.2.2.2.2.1, .long v0.2.2.2.2.2.2.2.2.2.1, .int v0.2.2.2.2.2.2.2.2.2.2.1, .int v0.2.2.2.2.2.2.2.2.2.2.2.1, .int v0.2.2.2.2.2.2.2.2.2.2.2.2.1, .ref a4, .int v0.2.2.2.2.2.2.2.2.2.2.2.2.2.2.1, .int v0.2.2.2.2.2.2.2.2.2.2.2.2.2.2.2.1, .int v0.2.2.2.2.2.2.2.2.2.2.2.2.2.2.2.2.1, .int v0.2.2.2.2.2.2.2.2.2.2.2.2.2.2.2.2.2.1, .int v0.2.2.2.2.2.2.2.2.2.2.2.2.2.2.2.2.2.2.1, .long v0.2.2.2.2.2.2.2.2.2.2.2.2.2.2.2.2.2.2.2.1, .long v0.2.2.2.2.2.2.2.2.2.2.2.2.2.2.2.2.2.2.2.2.1, .ref a5])), (a1, .inl (ca 0, 4725, .inl v0.2.1)), (a2, .inl (ca 2, 1500, .inl v0.2.2.1)), (a3, .inl (ca 3, 3, .inl v0.2.2.2.1)), (a4, .inl (ca 0, 22, .inl v0.2.2.2.2.2.2.2.2.2.2.2.2.2.1)), (a5, .inl (ca 0, 256, .inl v0.2.2.2.2.2.2.2.2.2.2.2.2.2.2.2.2.2.2.2.2.2))] → va_S A s.heap H locs → lv_has ls 7 [(0, .ref a0), (1, .int x1), (2, .int x2), (3, .int x3), (4, .int x4), (6, .int x6)] → W p l e ({ frames := 2, cells := 0, slots := 0, locals := 44 } : Room) s m args below meth c H locs 0 0 Q (F0 m 65 ls [.int t0]) := by
    intro k27 q27 v0 x1 x2 x3 x4 x6 t0 hf H locs ls hP hD hS hl
    unfold fc_X12_longest_65 at hf
    refine lv_istore (lv' := [(5, .int t0), (0, .ref a0), (1, .int x1), (2, .int x2), (3, .int x3), (4, .int x4), (6, .int x6)]) hx hb dX12_longest_65 hl (Nat.le_of_ble_eq_true rfl) rfl (fun ls hl => ?_)
    refine lv_iload hx hb dX12_longest_67 (lv_at hl 0 rfl) ?_
    refine lv_iload_n hx hb dX12_longest_69 rfl (lv_at hl 4 rfl) ?_
    refine xc_le (tgt := 96) hx hb dX12_longest_70 (by decide) hf (fun hf => ?_) (fun hf => ?_)
    · obtain ⟨x_2, ex_2, hf⟩ := bnd_el hf
      refine lv_iinc (v := x_2) (lv' := [(6, .int x_2), (5, .int t0), (0, .ref a0), (1, .int x1), (2, .int x2), (3, .int x3), (4, .int x4)]) hx hb dX12_longest_96 hl (k := 6) rfl (by rw [ex_2]; rfl) (Nat.le_of_ble_eq_true rfl) rfl (fun ls hl => ?_)
      refine lv_goto (tgt := 27) hx hb dX12_longest_99 (by decide) ?_
      exact q27 v0 x1 x2 x3 x4 t0 x_2 hf _ _ _ hP hD hS (lv_sub hl [2, 3, 4, 5, 6, 1, 0] rfl)
    · refine lv_iload hx hb dX12_longest_73 (lv_at hl 0 rfl) ?_
      refine lv_istore_n (lv' := [(3, .int t0), (5, .int t0), (0, .ref a0), (1, .int x1), (2, .int x2), (4, .int x4), (6, .int x6)]) hx hb dX12_longest_75 rfl hl (Nat.le_of_ble_eq_true rfl) rfl (fun ls hl => ?_)
      refine lv_aload_n hx hb dX12_longest_76 rfl (lv_at hl 2 rfl) ?_
      refine va_get (C := RX12) (T := TX12) (N := 22) hx hb hts i12 hown hK hP 0 rfl rfl 1 (Nat.le_of_ble_eq_true rfl) w1 (fun _ h9 => h9) rfl dX12_longest_77 ?_
      refine lv_sipush (v := 300) hx hb dX12_longest_80 rfl ?_
      refine xiald hx hb hK hP 1 rfl hf dX12_longest_83 (fun hf => ?_)
      refine lv_iload_n hx hb dX12_longest_84 rfl (lv_at hl 3 rfl) ?_
      refine lv_isub hx hb dX12_longest_85 ?_
      refine lv_iload hx hb dX12_longest_86 (lv_at hl 6 rfl) ?_
      refine lv_iadd hx hb dX12_longest_88 ?_
      refine lv_iload hx hb dX12_longest_89 (lv_at hl 1 rfl) ?_
      refine lv_isub hx hb dX12_longest_91 ?_
      refine lv_iconst (v := 1) hx hb dX12_longest_92 rfl ?_
      refine lv_iadd hx hb dX12_longest_93 ?_
      refine xnm hf (fun x_3 hf => ?_)
      refine lv_istore (lv' := [(4, .int x_3), (3, .int t0), (5, .int t0), (0, .ref a0), (1, .int x1), (2, .int x2), (6, .int x6)]) hx hb dX12_longest_94 hl (Nat.le_of_ble_eq_true rfl) rfl (fun ls hl => ?_)
      obtain ⟨x_4, ex_4, hf⟩ := bnd_el hf
      refine lv_iinc (v := x_4) (lv' := [(6, .int x_4), (4, .int x_3), (3, .int t0), (5, .int t0), (0, .ref a0), (1, .int x1), (2, .int x2)]) hx hb dX12_longest_96 hl (k := 6) rfl (by rw [ex_4]; rfl) (Nat.le_of_ble_eq_true rfl) rfl (fun ls hl => ?_)
      refine lv_goto (tgt := 27) hx hb dX12_longest_99 (by decide) ?_
      exact q27 v0 x1 x2 t0 x_3 t0 x_4 hf _ _ _ hP hD hS (lv_sub hl [4, 5, 6, 2, 1, 3, 0] rfl)
  have b64 : ∀ (k27 : V12 → Int32 → Int32 → Int32 → Int32 → Int32 → Int32 → Option (Int32 × V12)) (q27 : ∀ (v0 : V12) (x1 : Int32) (x2 : Int32) (x3 : Int32) (x4 : Int32) (x5 : Int32) (x6 : Int32), k27 v0 x1 x2 x3 x4 x5 x6 = some (r, v0') → ∀ (H : Heap) (locs : List Loc) (ls : Array Slot), va_P D vwCl [(a0, .inr (12, [.int v0.1, .ref a1, .ref a2, .ref a3, .int v0.2.2.2.2.1, .int v0.2.2.2.2.2.1, .int v0.2.2.2.2.2.2.1, .int v0.2.2.2.2.2.2.2.1, .int v0.2.2.2.2.2.2.2.2.1, .long v0.2.2.2.2.2.2.2.2.2.1, .int v0.2.2.2.2.2.2.2.2.2.2.1, .int v0.2.2.2.2.2.2.2.2.2.2.2.1, .int v0.2.2.2.2.2.2.2.2.2.2.2.2.1, .ref a4, .int v0.2.2.2.2.2.2.2.2.2.2.2.2.2.2.1, .int v0.2.2.2.2.2.2.2.2.2.2.2.2.2.2.2.1, .int v0.2.2.2.2.2.2.2.2.2.2.2.2.2.2.2.2.1, .int v0.2.2.2.2.2.2.2.2.2.2.2.2.2.2.2.2.2.1, .int v0.2.2.2.2.2.2.2.2.2.2.2.2.2.2.2.2.2.2.1, .long v0.2.2.2.2.2.2.2.2.2.2.2.2.2.2.2.2.2.2.2.1, .long v0.2.2.2.2.2.2.2.2.2.2.2.2.2.2.2.2.2.2.2.2.1, .ref a5])), (a1, .inl (ca 0, 4725, .inl v0.2.1)), (a2, .inl (ca 2, 1500, .inl v0.2.2.1)), (a3, .inl (ca 3, 3, .inl v0.2.2.2.1)), (a4, .inl (ca 0, 22, .inl v0.2.2.2.2.2.2.2.2.2.2.2.2.2.1)), (a5, .inl (ca 0, 256, .inl v0.2.2.2.2.2.2.2.2.2.2.2.2.2.2.2.2.2.2.2.2.2))] H → va_D A [(a0, .inr (12, [.int v0.1, .ref a1, .ref a2, .ref a3, .int v0.2.2.2.2.1, .int v0.2.2.2.2.2.1, .int v0.2.2.2.2.2.2.1, .int v0.2.2.2.2.2.2.2.1, .int v0.2.2.2.2.2.2.2.2.1, .long v0.2.2.2.2.2.2.2.2.2.1, .int v0.2.2.2.2.2.2.2.2.2.2.1, .int v0.2.2.2.2.2.2.2.2.2.2.2.1, .int v0.2.2.2.2.2.2.2.2.2.2.2.2.1, .ref a4, .int v0.2.2.2.2.2.2.2.2.2.2.2.2.2.2.1, .int v0.2.2.2.2.2.2.2.2.2.2.2.2.2.2.2.1, .int v0.2.2.2.2.2.2.2.2.2.2.2.2.2.2.2.2.1, .int v0.2.2.2.2.2.2.2.2.2.2.2.2.2.2.2.2.2.1, .int v0.2.2.2.2.2.2.2.2.2.2.2.2.2.2.2.2.2.2.1, .long v0.2.2.2.2.2.2.2.2.2.2.2.2.2.2.2.2.2.2.2.1, .long v0.2.2.2.2.2.2.2.2.2.2.2.2.2.2.2.2.2.2.2.2.1, .ref a5])), (a1, .inl (ca 0, 4725, .inl v0.2.1)), (a2, .inl (ca 2, 1500, .inl v0.2.2.1)), (a3, .inl (ca 3, 3, .inl v0.2.2.2.1)), (a4, .inl (ca 0, 22, .inl v0.2.2.2.2.2.2.2.2.2.2.2.2.2.1)), (a5, .inl (ca 0, 256, .inl v0.2.2.2.2.2.2.2.2.2.2.2.2.2.2.2.2.2.2.2.2.2))] → va_S A s.heap H locs → lv_has ls 7 [(0, .ref a0), (1, .int x1), (2, .int x2), (3, .int x3), (4, .int x4), (5, .int x5), (6, .int x6)] → W p l e ({ frames := 2, cells := 0, slots := 0, locals := 44 } : Room) s m args below meth c H locs 0 0 Q (F0 m 27 ls [])) (v0 : V12) (x1 : Int32) (x2 : Int32) (x3 : Int32) (x4 : Int32) (x6 : Int32), fc_X12_longest_64 k27 v0 x1 x2 x3 x4 x6 = some (r, v0') → ∀ (H : Heap) (locs : List Loc) (ls : Array Slot), va_P D vwCl [(a0, .inr (12, [.int v0.1, .ref a1, .ref a2, .ref a3, .int v0.2.2.2.2.1, .int v0.2.2.2.2.2.1, .int v0.2.2.2.2.2.2.1, .int v0.2.2.2.2.2.2.2.1, .int v0.2.2.2.2.2.2.2.2.1, .long v0.2.2.2.2.2.2.2.2.2.1, .int v0.2.2.2.2.2.2.2.2.2.2.1, .int v0.2.2.2.2.2.2.2.2.2.2.2.1, .int v0.2.2.2.2.2.2.2.2.2.2.2.2.1, .ref a4, .int v0.2.2.2.2.2.2.2.2.2.2.2.2.2.2.1, .int v0.2.2.2.2.2.2.2.2.2.2.2.2.2.2.2.1, .int v0.2.2.2.2.2.2.2.2.2.2.2.2.2.2.2.2.1, .int v0.2.2.2.2.2.2.2.2.2.2.2.2.2.2.2.2.2.1, .int v0.2.2.2.2.2.2.2.2.2.2.2.2.2.2.2.2.2.2.1, .long v0.2.2.2.2.2.2.2.2.2.2.2.2.2.2.2.2.2.2.2.1, .long v0.2.2.2.2.2.2.2.2.2.2.2.2.2.2.2.2.2.2.2.2.1, .ref a5])), (a1, .inl (ca 0, 4725, .inl v0.2.1)), (a2, .inl (ca 2, 1500, .inl v0.2.2.1)), (a3, .inl (ca 3, 3, .inl v0.2.2.2.1)), (a4, .inl (ca 0, 22, .inl v0.2.2.2.2.2.2.2.2.2.2.2.2.2.1)), (a5, .inl (ca 0, 256, .inl v0.2.2.2.2.2.2.2.2.2.2.2.2.2.2.2.2.2.2.2.2.2))] H → va_D A [(a0, .inr (12, [.int v0.1, .ref a1, .ref a2, .ref a3, .int v0.2.2.2.2.1, .int v0.2.2.2.2.2.1, .int v0.2.2.2.2.2.2.1, .int v0.2.2.2.2.2.2.2.1, .int v0.2.2.2.2.2.2.2.2.1, .long v0.2.2.2.2.2.2.2.2.2.1, .int v0.2.2.2.2.2.2.2.2.2.2.1, .int v0.2.2.2.2.2.2.2.2.2.2.2.1, .int v0.2.2.2.2.2.2.2.2.2.2.2.2.1, .ref a4, .int v0.2.2.2.2.2.2.2.2.2.2.2.2.2.2.1, .int v0.2.2.2.2.2.2.2.2.2.2.2.2.2.2.2.1, .int v0.2.2.2.2.2.2.2.2.2.2.2.2.2.2.2.2.1, .int v0.2.2.2.2.2.2.2.2.2.2.2.2.2.2.2.2.2.1, .int v0.2.2.2.2.2.2.2.2.2.2.2.2.2.2.2.2.2.2.1, .long v0.2.2.2.2.2.2.2.2.2.2.2.2.2.2.2.2.2.2.2.1, .long v0.2.2.2.2.2.2.2.2.2.2.2.2.2.2.2.2.2.2.2.2.1, .ref a5])), (a1, .inl (ca 0, 4725, .inl v0.2.1)), (a2, .inl (ca 2, 1500, .inl v0.2.2.1)), (a3, .inl (ca 3, 3, .inl v0.2.2.2.1)), (a4, .inl (ca 0, 22, .inl v0.2.2.2.2.2.2.2.2.2.2.2.2.2.1)), (a5, .inl (ca 0, 256, .inl v0.2.2.2.2.2.2.2.2.2.2.2.2.2.2.2.2.2.2.2.2.2))] → va_S A s.heap H locs → lv_has ls 7 [(0, .ref a0), (1, .int x1), (2, .int x2), (3, .int x3), (4, .int x4), (6, .int x6)] → W p l e ({ frames := 2, cells := 0, slots := 0, locals := 44 } : Room) s m args below meth c H locs 0 0 Q (F0 m 64 ls []) := by
    intro k27 q27 v0 x1 x2 x3 x4 x6 hf H locs ls hP hD hS hl
    unfold fc_X12_longest_64 at hf
    refine lv_iconst (v := 1) hx hb dX12_longest_64 rfl ?_
    exact b65 k27 q27 v0 x1 x2 x3 x4 x6 (1 : Int32) hf _ _ _ hP hD hS (lv_sub hl [0, 1, 2, 3, 4, 5] rfl)
  have bl27 : ∀ (k27 : V12 → Int32 → Int32 → Int32 → Int32 → Int32 → Int32 → Option (Int32 × V12)) (q27 : ∀ (v0 : V12) (x1 : Int32) (x2 : Int32) (x3 : Int32) (x4 : Int32) (x5 : Int32) (x6 : Int32), k27 v0 x1 x2 x3 x4 x5 x6 = some (r, v0') → ∀ (H : Heap) (locs : List Loc) (ls : Array Slot), va_P D vwCl [(a0, .inr (12, [.int v0.1, .ref a1, .ref a2, .ref a3, .int v0.2.2.2.2.1, .int v0.2.2.2.2.2.1, .int v0.2.2.2.2.2.2.1, .int v0.2.2.2.2.2.2.2.1, .int v0.2.2.2.2.2.2.2.2.1, .long v0.2.2.2.2.2.2.2.2.2.1, .int v0.2.2.2.2.2.2.2.2.2.2.1, .int v0.2.2.2.2.2.2.2.2.2.2.2.1, .int v0.2.2.2.2.2.2.2.2.2.2.2.2.1, .ref a4, .int v0.2.2.2.2.2.2.2.2.2.2.2.2.2.2.1, .int v0.2.2.2.2.2.2.2.2.2.2.2.2.2.2.2.1, .int v0.2.2.2.2.2.2.2.2.2.2.2.2.2.2.2.2.1, .int v0.2.2.2.2.2.2.2.2.2.2.2.2.2.2.2.2.2.1, .int v0.2.2.2.2.2.2.2.2.2.2.2.2.2.2.2.2.2.2.1, .long v0.2.2.2.2.2.2.2.2.2.2.2.2.2.2.2.2.2.2.2.1, .long v0.2.2.2.2.2.2.2.2.2.2.2.2.2.2.2.2.2.2.2.2.1, .ref a5])), (a1, .inl (ca 0, 4725, .inl v0.2.1)), (a2, .inl (ca 2, 1500, .inl v0.2.2.1)), (a3, .inl (ca 3, 3, .inl v0.2.2.2.1)), (a4, .inl (ca 0, 22, .inl v0.2.2.2.2.2.2.2.2.2.2.2.2.2.1)), (a5, .inl (ca 0, 256, .inl v0.2.2.2.2.2.2.2.2.2.2.2.2.2.2.2.2.2.2.2.2.2))] H → va_D A [(a0, .inr (12, [.int v0.1, .ref a1, .ref a2, .ref a3, .int v0.2.2.2.2.1, .int v0.2.2.2.2.2.1, .int v0.2.2.2.2.2.2.1, .int v0.2.2.2.2.2.2.2.1, .int v0.2.2.2.2.2.2.2.2.1, .long v0.2.2.2.2.2.2.2.2.2.1, .int v0.2.2.2.2.2.2.2.2.2.2.1, .int v0.2.2.2.2.2.2.2.2.2.2.2.1, .int v0.2.2.2.2.2.2.2.2.2.2.2.2.1, .ref a4, .int v0.2.2.2.2.2.2.2.2.2.2.2.2.2.2.1, .int v0.2.2.2.2.2.2.2.2.2.2.2.2.2.2.2.1, .int v0.2.2.2.2.2.2.2.2.2.2.2.2.2.2.2.2.1, .int v0.2.2.2.2.2.2.2.2.2.2.2.2.2.2.2.2.2.1, .int v0.2.2.2.2.2.2.2.2.2.2.2.2.2.2.2.2.2.2.1, .long v0.2.2.2.2.2.2.2.2.2.2.2.2.2.2.2.2.2.2.2.1, .long v0.2.2.2.2.2.2.2.2.2.2.2.2.2.2.2.2.2.2.2.2.1, .ref a5])), (a1, .inl (ca 0, 4725, .inl v0.2.1)), (a2, .inl (ca 2, 1500, .inl v0.2.2.1)), (a3, .inl (ca 3, 3, .inl v0.2.2.2.1)), (a4, .inl (ca 0, 22, .inl v0.2.2.2.2.2.2.2.2.2.2.2.2.2.1)), (a5, .inl (ca 0, 256, .inl v0.2.2.2.2.2.2.2.2.2.2.2.2.2.2.2.2.2.2.2.2.2))] → va_S A s.heap H locs → lv_has ls 7 [(0, .ref a0), (1, .int x1), (2, .int x2), (3, .int x3), (4, .int x4), (5, .int x5), (6, .int x6)] → W p l e ({ frames := 2, cells := 0, slots := 0, locals := 44 } : Room) s m args below meth c H locs 0 0 Q (F0 m 27 ls [])) (v0 : V12) (x1 : Int32) (x2 : Int32) (x3 : Int32) (x4 : Int32) (x5 : Int32) (x6 : Int32), fl_X12_longest_27 k27 v0 x1 x2 x3 x4 x5 x6 = some (r, v0') → ∀ (H : Heap) (locs : List Loc) (ls : Array Slot), va_P D vwCl [(a0, .inr (12, [.int v0.1, .ref a1, .ref a2, .ref a3, .int v0.2.2.2.2.1, .int v0.2.2.2.2.2.1, .int v0.2.2.2.2.2.2.1, .int v0.2.2.2.2.2.2.2.1, .int v0.2.2.2.2.2.2.2.2.1, .long v0.2.2.2.2.2.2.2.2.2.1, .int v0.2.2.2.2.2.2.2.2.2.2.1, .int v0.2.2.2.2.2.2.2.2.2.2.2.1, .int v0.2.2.2.2.2.2.2.2.2.2.2.2.1, .ref a4, .int v0.2.2.2.2.2.2.2.2.2.2.2.2.2.2.1, .int v0.2.2.2.2.2.2.2.2.2.2.2.2.2.2.2.1, .int v0.2.2.2.2.2.2.2.2.2.2.2.2.2.2.2.2.1, .int v0.2.2.2.2.2.2.2.2.2.2.2.2.2.2.2.2.2.1, .int v0.2.2.2.2.2.2.2.2.2.2.2.2.2.2.2.2.2.2.1, .long v0.2.2.2.2.2.2.2.2.2.2.2.2.2.2.2.2.2.2.2.1, .long v0.2.2.2.2.2.2.2.2.2.2.2.2.2.2.2.2.2.2.2.2.1, .ref a5])), (a1, .inl (ca 0, 4725, .inl v0.2.1)), (a2, .inl (ca 2, 1500, .inl v0.2.2.1)), (a3, .inl (ca 3, 3, .inl v0.2.2.2.1)), (a4, .inl (ca 0, 22, .inl v0.2.2.2.2.2.2.2.2.2.2.2.2.2.1)), (a5, .inl (ca 0, 256, .inl v0.2.2.2.2.2.2.2.2.2.2.2.2.2.2.2.2.2.2.2.2.2))] H → va_D A [(a0, .inr (12, [.int v0.1, .ref a1, .ref a2, .ref a3, .int v0.2.2.2.2.1, .int v0.2.2.2.2.2.1, .int v0.2.2.2.2.2.2.1, .int v0.2.2.2.2.2.2.2.1, .int v0.2.2.2.2.2.2.2.2.1, .long v0.2.2.2.2.2.2.2.2.2.1, .int v0.2.2.2.2.2.2.2.2.2.2.1, .int v0.2.2.2.2.2.2.2.2.2.2.2.1, .int v0.2.2.2.2.2.2.2.2.2.2.2.2.1, .ref a4, .int v0.2.2.2.2.2.2.2.2.2.2.2.2.2.2.1, .int v0.2.2.2.2.2.2.2.2.2.2.2.2.2.2.2.1, .int v0.2.2.2.2.2.2.2.2.2.2.2.2.2.2.2.2.1, .int v0.2.2.2.2.2.2.2.2.2.2.2.2.2.2.2.2.2.1, .int v0.2.2.2.2.2.2.2.2.2.2.2.2.2.2.2.2.2.2.1, .long v0.2.2.2.2.2.2.2.2.2.2.2.2.2.2.2.2.2.2.2.1, .long v0.2.2.2.2.2.2.2.2.2.2.2.2.2.2.2.2.2.2.2.2.1, .ref a5])), (a1, .inl (ca 0, 4725, .inl v0.2.1)), (a2, .inl (ca 2, 1500, .inl v0.2.2.1)), (a3, .inl (ca 3, 3, .inl v0.2.2.2.1)), (a4, .inl (ca 0, 22, .inl v0.2.2.2.2.2.2.2.2.2.2.2.2.2.1)), (a5, .inl (ca 0, 256, .inl v0.2.2.2.2.2.2.2.2.2.2.2.2.2.2.2.2.2.2.2.2.2))] → va_S A s.heap H locs → lv_has ls 7 [(0, .ref a0), (1, .int x1), (2, .int x2), (3, .int x3), (4, .int x4), (5, .int x5), (6, .int x6)] → W p l e ({ frames := 2, cells := 0, slots := 0, locals := 44 } : Room) s m args below meth c H locs 0 0 Q (F0 m 27 ls []) := by
    intro k27 q27 v0 x1 x2 x3 x4 x5 x6 hf H locs ls hP hD hS hl
    unfold fl_X12_longest_27 at hf
    refine lv_iload hx hb dX12_longest_27 (lv_at hl 6 rfl) ?_
    refine lv_iload_n hx hb dX12_longest_29 rfl (lv_at hl 1 rfl) ?_
    refine xc_ge (tgt := 102) hx hb dX12_longest_30 (by decide) hf (fun hf => ?_) (fun hf => ?_)
    · refine lv_iload_n hx hb dX12_longest_102 rfl (lv_at hl 2 rfl) ?_
      refine xi_eq (tgt := 111) hx hb dX12_longest_103 (by decide) hf (fun hf => ?_) (fun hf => ?_)
      · refine lv_iload_n hx hb dX12_longest_111 rfl (lv_at hl 3 rfl) ?_
        have he := Option.some.inj hf
        obtain ⟨e_r, he⟩ := Prod.mk.inj he
        have e_v0 := he
        refine rt_I hx hb hr hlocks hK hP hD hS hQ e_r ?_ dX12_longest_112
        simp only [← e_v0]
      · refine lv_iload hx hb dX12_longest_106 (lv_at hl 4 rfl) ?_
        refine lv_goto (tgt := 112) hx hb dX12_longest_108 (by decide) ?_
        have he := Option.some.inj hf
        obtain ⟨e_r, he⟩ := Prod.mk.inj he
        have e_v0 := he
        refine rt_I hx hb hr hlocks hK hP hD hS hQ e_r ?_ dX12_longest_112
        simp only [← e_v0]
    · refine lv_iload hx hb dX12_longest_33 (lv_at hl 6 rfl) ?_
      refine xi_le (tgt := 64) hx hb dX12_longest_35 (by decide) hf (fun hf => ?_) (fun hf => ?_)
      · exact b64 k27 q27 v0 x1 x2 x3 x4 x6 hf _ _ _ hP hD hS (lv_sub hl [0, 1, 2, 3, 4, 6] rfl)
      · refine lv_aload_n hx hb dX12_longest_38 rfl (lv_at hl 0 rfl) ?_
        refine lv_iload_n hx hb dX12_longest_39 rfl (lv_at hl 1 rfl) ?_
        refine lv_iload hx hb dX12_longest_40 (lv_at hl 6 rfl) ?_
        obtain ⟨r_5, hc5, hf⟩ := bnd1_el hf
        refine xV_I (As := [.int x1, .int x6]) (wx := [(a0, .inr (12, [.int v0.1, .ref a1, .ref a2, .ref a3, .int v0.2.2.2.2.1, .int v0.2.2.2.2.2.1, .int v0.2.2.2.2.2.2.1, .int v0.2.2.2.2.2.2.2.1, .int v0.2.2.2.2.2.2.2.2.1, .long v0.2.2.2.2.2.2.2.2.2.1, .int v0.2.2.2.2.2.2.2.2.2.2.1, .int v0.2.2.2.2.2.2.2.2.2.2.2.1, .int v0.2.2.2.2.2.2.2.2.2.2.2.2.1, .ref a4, .int v0.2.2.2.2.2.2.2.2.2.2.2.2.2.2.1, .int v0.2.2.2.2.2.2.2.2.2.2.2.2.2.2.2.1, .int v0.2.2.2.2.2.2.2.2.2.2.2.2.2.2.2.2.1, .int v0.2.2.2.2.2.2.2.2.2.2.2.2.2.2.2.2.2.1, .int v0.2.2.2.2.2.2.2.2.2.2.2.2.2.2.2.2.2.2.1, .long v0.2.2.2.2.2.2.2.2.2.2.2.2.2.2.2.2.2.2.2.1, .long v0.2.2.2.2.2.2.2.2.2.2.2.2.2.2.2.2.2.2.2.2.1, .ref a5])), (a1, .inl (ca 0, 4725, .inl v0.2.1)), (a2, .inl (ca 2, 1500, .inl v0.2.2.1)), (a3, .inl (ca 3, 3, .inl v0.2.2.2.1)), (a4, .inl (ca 0, 22, .inl v0.2.2.2.2.2.2.2.2.2.2.2.2.2.1)), (a5, .inl (ca 0, 256, .inl v0.2.2.2.2.2.2.2.2.2.2.2.2.2.2.2.2.2.2.2.2.2))]) ⟨hx, hb, hml, hown, hts⟩ (c_X12_late l D ca zz a0 a1 a2 a3 a4 a5 _ v0 x1 x6 r_5 hc5) (cwV 2 hts (gV gw_6_180 gw_6_182 gw_s_4_13 gw_1_15 gw_6_183) rfl rfl rfl (by decide +kernel) ⟨(Nat.le_of_ble_eq_true rfl), (Nat.le_of_ble_eq_true rfl)⟩) hK hN hZ hA hP hD hS [0, 1] [some 0, some 1, none, none, none, none] (by decide +kernel) rfl rfl rfl rfl 0 rfl rfl hl.1 rfl (Nat.le_of_ble_eq_true rfl) dX12_longest_42 ⟨Nat.zero_le _, Nat.zero_le _⟩ rfl (fun H locs hP hD hS => ?_)
        refine lv_aload_n hx hb dX12_longest_45 rfl (lv_at hl 0 rfl) ?_
        refine lv_iload_n hx hb dX12_longest_46 rfl (lv_at hl 1 rfl) ?_
        refine lv_iload hx hb dX12_longest_47 (lv_at hl 6 rfl) ?_
        refine lv_iconst (v := 1) hx hb dX12_longest_49 rfl ?_
        refine lv_isub hx hb dX12_longest_50 ?_
        obtain ⟨r_6, hc6, hf⟩ := bnd1_el hf
        refine xV_I (As := [.int x1, .int (x6 - (1 : Int32))]) (wx := [(a0, .inr (12, [.int v0.1, .ref a1, .ref a2, .ref a3, .int v0.2.2.2.2.1, .int v0.2.2.2.2.2.1, .int v0.2.2.2.2.2.2.1, .int v0.2.2.2.2.2.2.2.1, .int v0.2.2.2.2.2.2.2.2.1, .long v0.2.2.2.2.2.2.2.2.2.1, .int v0.2.2.2.2.2.2.2.2.2.2.1, .int v0.2.2.2.2.2.2.2.2.2.2.2.1, .int v0.2.2.2.2.2.2.2.2.2.2.2.2.1, .ref a4, .int v0.2.2.2.2.2.2.2.2.2.2.2.2.2.2.1, .int v0.2.2.2.2.2.2.2.2.2.2.2.2.2.2.2.1, .int v0.2.2.2.2.2.2.2.2.2.2.2.2.2.2.2.2.1, .int v0.2.2.2.2.2.2.2.2.2.2.2.2.2.2.2.2.2.1, .int v0.2.2.2.2.2.2.2.2.2.2.2.2.2.2.2.2.2.2.1, .long v0.2.2.2.2.2.2.2.2.2.2.2.2.2.2.2.2.2.2.2.1, .long v0.2.2.2.2.2.2.2.2.2.2.2.2.2.2.2.2.2.2.2.2.1, .ref a5])), (a1, .inl (ca 0, 4725, .inl v0.2.1)), (a2, .inl (ca 2, 1500, .inl v0.2.2.1)), (a3, .inl (ca 3, 3, .inl v0.2.2.2.1)), (a4, .inl (ca 0, 22, .inl v0.2.2.2.2.2.2.2.2.2.2.2.2.2.1)), (a5, .inl (ca 0, 256, .inl v0.2.2.2.2.2.2.2.2.2.2.2.2.2.2.2.2.2.2.2.2.2))]) ⟨hx, hb, hml, hown, hts⟩ (c_X12_late l D ca zz a0 a1 a2 a3 a4 a5 _ v0 x1 (x6 - (1 : Int32)) r_6 hc6) (cwV 2 hts (gV gw_6_180 gw_6_182 gw_s_4_13 gw_1_15 gw_6_183) rfl rfl rfl (by decide +kernel) ⟨(Nat.le_of_ble_eq_true rfl), (Nat.le_of_ble_eq_true rfl)⟩) hK hN hZ hA hP hD hS [0, 1] [some 0, some 1, none, none, none, none] (by decide +kernel) rfl rfl rfl rfl 0 rfl rfl hl.1 rfl (Nat.le_of_ble_eq_true rfl) dX12_longest_51 ⟨Nat.zero_le _, Nat.zero_le _⟩ rfl (fun H locs hP hD hS => ?_)
        refine xc_ne (tgt := 64) hx hb dX12_longest_54 (by decide) hf (fun hf => ?_) (fun hf => ?_)
        · exact b64 k27 q27 v0 x1 x2 x3 x4 x6 hf _ _ _ hP hD hS (lv_sub hl [0, 1, 2, 3, 4, 6] rfl)
        · refine lv_iload hx hb dX12_longest_57 (lv_at hl 5 rfl) ?_
          refine lv_iconst (v := 1) hx hb dX12_longest_59 rfl ?_
          refine lv_iadd hx hb dX12_longest_60 ?_
          refine lv_goto (tgt := 65) hx hb dX12_longest_61 (by decide) ?_
          exact b65 k27 q27 v0 x1 x2 x3 x4 x6 (x5 + (1 : Int32)) hf _ _ _ hP hD hS (lv_sub hl [0, 1, 2, 3, 4, 6] rfl)
  have b27 : ∀ (n : Nat) (v0 : V12) (x1 : Int32) (x2 : Int32) (x3 : Int32) (x4 : Int32) (x5 : Int32) (x6 : Int32), fb_X12_longest_27 n v0 x1 x2 x3 x4 x5 x6 = some (r, v0') → ∀ (H : Heap) (locs : List Loc) (ls : Array Slot), va_P D vwCl [(a0, .inr (12, [.int v0.1, .ref a1, .ref a2, .ref a3, .int v0.2.2.2.2.1, .int v0.2.2.2.2.2.1, .int v0.2.2.2.2.2.2.1, .int v0.2.2.2.2.2.2.2.1, .int v0.2.2.2.2.2.2.2.2.1, .long v0.2.2.2.2.2.2.2.2.2.1, .int v0.2.2.2.2.2.2.2.2.2.2.1, .int v0.2.2.2.2.2.2.2.2.2.2.2.1, .int v0.2.2.2.2.2.2.2.2.2.2.2.2.1, .ref a4, .int v0.2.2.2.2.2.2.2.2.2.2.2.2.2.2.1, .int v0.2.2.2.2.2.2.2.2.2.2.2.2.2.2.2.1, .int v0.2.2.2.2.2.2.2.2.2.2.2.2.2.2.2.2.1, .int v0.2.2.2.2.2.2.2.2.2.2.2.2.2.2.2.2.2.1, .int v0.2.2.2.2.2.2.2.2.2.2.2.2.2.2.2.2.2.2.1, .long v0.2.2.2.2.2.2.2.2.2.2.2.2.2.2.2.2.2.2.2.1, .long v0.2.2.2.2.2.2.2.2.2.2.2.2.2.2.2.2.2.2.2.2.1, .ref a5])), (a1, .inl (ca 0, 4725, .inl v0.2.1)), (a2, .inl (ca 2, 1500, .inl v0.2.2.1)), (a3, .inl (ca 3, 3, .inl v0.2.2.2.1)), (a4, .inl (ca 0, 22, .inl v0.2.2.2.2.2.2.2.2.2.2.2.2.2.1)), (a5, .inl (ca 0, 256, .inl v0.2.2.2.2.2.2.2.2.2.2.2.2.2.2.2.2.2.2.2.2.2))] H → va_D A [(a0, .inr (12, [.int v0.1, .ref a1, .ref a2, .ref a3, .int v0.2.2.2.2.1, .int v0.2.2.2.2.2.1, .int v0.2.2.2.2.2.2.1, .int v0.2.2.2.2.2.2.2.1, .int v0.2.2.2.2.2.2.2.2.1, .long v0.2.2.2.2.2.2.2.2.2.1, .int v0.2.2.2.2.2.2.2.2.2.2.1, .int v0.2.2.2.2.2.2.2.2.2.2.2.1, .int v0.2.2.2.2.2.2.2.2.2.2.2.2.1, .ref a4, .int v0.2.2.2.2.2.2.2.2.2.2.2.2.2.2.1, .int v0.2.2.2.2.2.2.2.2.2.2.2.2.2.2.2.1, .int v0.2.2.2.2.2.2.2.2.2.2.2.2.2.2.2.2.1, .int v0.2.2.2.2.2.2.2.2.2.2.2.2.2.2.2.2.2.1, .int v0.2.2.2.2.2.2.2.2.2.2.2.2.2.2.2.2.2.2.1, .long v0.2.2.2.2.2.2.2.2.2.2.2.2.2.2.2.2.2.2.2.1, .long v0.2.2.2.2.2.2.2.2.2.2.2.2.2.2.2.2.2.2.2.2.1, .ref a5])), (a1, .inl (ca 0, 4725, .inl v0.2.1)), (a2, .inl (ca 2, 1500, .inl v0.2.2.1)), (a3, .inl (ca 3, 3, .inl v0.2.2.2.1)), (a4, .inl (ca 0, 22, .inl v0.2.2.2.2.2.2.2.2.2.2.2.2.2.1)), (a5, .inl (ca 0, 256, .inl v0.2.2.2.2.2.2.2.2.2.2.2.2.2.2.2.2.2.2.2.2.2))] → va_S A s.heap H locs → lv_has ls 7 [(0, .ref a0), (1, .int x1), (2, .int x2), (3, .int x3), (4, .int x4), (5, .int x5), (6, .int x6)] → W p l e ({ frames := 2, cells := 0, slots := 0, locals := 44 } : Room) s m args below meth c H locs 0 0 Q (F0 m 27 ls []) := by
    intro n
    induction n with
    | zero => intro v0 x1 x2 x3 x4 x5 x6 hf; exact no_el hf
    | succ n ih => exact bl27 (fb_X12_longest_27 n) ih
  unfold f_X12_longest at hf
  refine lv_aload_n hx hb dX12_longest_0 rfl (lv_at hl 0 rfl) ?_
  refine lv_iconst (v := 0) hx hb dX12_longest_1 rfl ?_
  refine xput (C := RX12) (T := TX12) (N := 22) (wx := [(a0, .inr (12, [.int (0 : Int32), .ref a1, .ref a2, .ref a3, .int v0.2.2.2.2.1, .int v0.2.2.2.2.2.1, .int v0.2.2.2.2.2.2.1, .int v0.2.2.2.2.2.2.2.1, .int v0.2.2.2.2.2.2.2.2.1, .long v0.2.2.2.2.2.2.2.2.2.1, .int v0.2.2.2.2.2.2.2.2.2.2.1, .int v0.2.2.2.2.2.2.2.2.2.2.2.1, .int v0.2.2.2.2.2.2.2.2.2.2.2.2.1, .ref a4, .int v0.2.2.2.2.2.2.2.2.2.2.2.2.2.2.1, .int v0.2.2.2.2.2.2.2.2.2.2.2.2.2.2.2.1, .int v0.2.2.2.2.2.2.2.2.2.2.2.2.2.2.2.2.1, .int v0.2.2.2.2.2.2.2.2.2.2.2.2.2.2.2.2.2.1, .int v0.2.2.2.2.2.2.2.2.2.2.2.2.2.2.2.2.2.2.1, .long v0.2.2.2.2.2.2.2.2.2.2.2.2.2.2.2.2.2.2.2.1, .long v0.2.2.2.2.2.2.2.2.2.2.2.2.2.2.2.2.2.2.2.2.1, .ref a5])), (a1, .inl (ca 0, 4725, .inl v0.2.1)), (a2, .inl (ca 2, 1500, .inl v0.2.2.1)), (a3, .inl (ca 3, 3, .inl v0.2.2.2.1)), (a4, .inl (ca 0, 22, .inl v0.2.2.2.2.2.2.2.2.2.2.2.2.2.1)), (a5, .inl (ca 0, 256, .inl v0.2.2.2.2.2.2.2.2.2.2.2.2.2.2.2.2.2.2.2.2.2))]) hx hb hts i12 tyX12 tyX12_ok nmX12 hown hK hP hD hS 0 rfl rfl 0 (Nat.le_of_ble_eq_true rfl) w0 (fun _ h9 => h9) rfl rfl rfl rfl (Nat.le_of_ble_eq_true rfl) dX12_longest_2 rfl (fun H locs hP hD hS => ?_)
  refine lv_aload_n hx hb dX12_longest_5 rfl (lv_at hl 0 rfl) ?_
  refine lv_iload_n hx hb dX12_longest_6 rfl (lv_at hl 1 rfl) ?_
  refine lv_iconst (v := 1) hx hb dX12_longest_7 rfl ?_
  obtain ⟨r_1, hc1, hf⟩ := bnd1_el hf
  have hMhc1 := fun sz => c_X12_isThere l D ca zz a0 a1 a2 a3 a4 a5 sz (((0 : Int32), v0.2)) p1 (1 : Int32) r_1 hc1
  dsimp only at hMhc1
  refine xV_I (As := [.int p1, .int (1 : Int32)]) (wx := [(a0, .inr (12, [.int (0 : Int32), .ref a1, .ref a2, .ref a3, .int v0.2.2.2.2.1, .int v0.2.2.2.2.2.1, .int v0.2.2.2.2.2.2.1, .int v0.2.2.2.2.2.2.2.1, .int v0.2.2.2.2.2.2.2.2.1, .long v0.2.2.2.2.2.2.2.2.2.1, .int v0.2.2.2.2.2.2.2.2.2.2.1, .int v0.2.2.2.2.2.2.2.2.2.2.2.1, .int v0.2.2.2.2.2.2.2.2.2.2.2.2.1, .ref a4, .int v0.2.2.2.2.2.2.2.2.2.2.2.2.2.2.1, .int v0.2.2.2.2.2.2.2.2.2.2.2.2.2.2.2.1, .int v0.2.2.2.2.2.2.2.2.2.2.2.2.2.2.2.2.1, .int v0.2.2.2.2.2.2.2.2.2.2.2.2.2.2.2.2.2.1, .int v0.2.2.2.2.2.2.2.2.2.2.2.2.2.2.2.2.2.2.1, .long v0.2.2.2.2.2.2.2.2.2.2.2.2.2.2.2.2.2.2.2.1, .long v0.2.2.2.2.2.2.2.2.2.2.2.2.2.2.2.2.2.2.2.2.1, .ref a5])), (a1, .inl (ca 0, 4725, .inl v0.2.1)), (a2, .inl (ca 2, 1500, .inl v0.2.2.1)), (a3, .inl (ca 3, 3, .inl v0.2.2.2.1)), (a4, .inl (ca 0, 22, .inl v0.2.2.2.2.2.2.2.2.2.2.2.2.2.1)), (a5, .inl (ca 0, 256, .inl v0.2.2.2.2.2.2.2.2.2.2.2.2.2.2.2.2.2.2.2.2.2))]) ⟨hx, hb, hml, hown, hts⟩ (hMhc1 _) (cwV 2 hts (gV gw_6_168 gw_6_170 gw_s_4_10 gw_1_15 gw_6_171) rfl rfl rfl (by decide +kernel) ⟨(Nat.le_of_ble_eq_true rfl), (Nat.le_of_ble_eq_true rfl)⟩) hK hN hZ hA hP hD hS [0, 1] [some 0, some 1, none, none, none, none] (by decide +kernel) rfl rfl rfl rfl 0 rfl rfl hl.1 rfl (Nat.le_of_ble_eq_true rfl) dX12_longest_8 ⟨Nat.zero_le _, Nat.zero_le _⟩ rfl (fun H locs hP hD hS => ?_)
  refine xi_ne (tgt := 16) hx hb dX12_longest_11 (by decide) hf (fun hf => ?_) (fun hf => ?_)
  · refine lv_iconst (v := 0) hx hb dX12_longest_16 rfl ?_
    refine lv_istore_n (lv' := [(3, .int (0 : Int32)), (0, .ref a0), (1, .int p1), (2, .int p2)]) hx hb dX12_longest_17 rfl hl (Nat.le_of_ble_eq_true rfl) rfl (fun ls hl => ?_)
    refine lv_iconst (v := 0) hx hb dX12_longest_18 rfl ?_
    refine lv_istore (lv' := [(4, .int (0 : Int32)), (3, .int (0 : Int32)), (0, .ref a0), (1, .int p1), (2, .int p2)]) hx hb dX12_longest_19 hl (Nat.le_of_ble_eq_true rfl) rfl (fun ls hl => ?_)
    refine lv_iconst (v := 0) hx hb dX12_longest_21 rfl ?_
    refine lv_istore (lv' := [(5, .int (0 : Int32)), (4, .int (0 : Int32)), (3, .int (0 : Int32)), (0, .ref a0), (1, .int p1), (2, .int p2)]) hx hb dX12_longest_22 hl (Nat.le_of_ble_eq_true rfl) rfl (fun ls hl => ?_)
    refine lv_iconst (v := 0) hx hb dX12_longest_24 rfl ?_
    refine lv_istore (lv' := [(6, .int (0 : Int32)), (5, .int (0 : Int32)), (4, .int (0 : Int32)), (3, .int (0 : Int32)), (0, .ref a0), (1, .int p1), (2, .int p2)]) hx hb dX12_longest_25 hl (Nat.le_of_ble_eq_true rfl) rfl (fun ls hl => ?_)
    have jb := b27 FU (((0 : Int32), v0.2)) p1 p2 (0 : Int32) (0 : Int32) (0 : Int32) (0 : Int32)
    dsimp only at jb
    exact jb hf _ _ _ hP hD hS (lv_sub hl [4, 5, 6, 3, 2, 1, 0] rfl)
  · refine lv_iconst (v := -1) hx hb dX12_longest_14 rfl ?_
    have he := Option.some.inj hf
    obtain ⟨e_r, he⟩ := Prod.mk.inj he
    have e_v0 := he
    refine rt_I hx hb hr hlocks hK hP hD hS hQ e_r ?_ dX12_longest_15
    simp only [← e_v0]
abbrev wq_X12_copies : List Cond := Cond.code yX12_copies cX12_copies 4 none :: GL
set_option maxHeartbeats 4000000 in
set_option maxRecDepth 100000 in
theorem c_X12_copies (l : Launch) (D : va_G) (ca : Nat → ClassId) (zz : Nat → Nat) (a0 a1 a2 a3 a4 a5 : Nat) (sz : Nat) (v0 : V12) (p1 : Int32) (p2 : Int32) (v0' : V12) (hf : f_X12_copies v0 p1 p2 = some v0') : Met l yX12_copies wq_X12_copies ({ frames := 0, cells := 0, slots := 0, locals := 0 } : Room) (PR D ca zz [.ref a0, .int p1, .int p2] sz [(a0, .inr (12, [.int v0.1, .ref a1, .ref a2, .ref a3, .int v0.2.2.2.2.1, .int v0.2.2.2.2.2.1, .int v0.2.2.2.2.2.2.1, .int v0.2.2.2.2.2.2.2.1, .int v0.2.2.2.2.2.2.2.2.1, .long v0.2.2.2.2.2.2.2.2.2.1, .int v0.2.2.2.2.2.2.2.2.2.2.1, .int v0.2.2.2.2.2.2.2.2.2.2.2.1, .int v0.2.2.2.2.2.2.2.2.2.2.2.2.1, .ref a4, .int v0.2.2.2.2.2.2.2.2.2.2.2.2.2.2.1, .int v0.2.2.2.2.2.2.2.2.2.2.2.2.2.2.2.1, .int v0.2.2.2.2.2.2.2.2.2.2.2.2.2.2.2.2.1, .int v0.2.2.2.2.2.2.2.2.2.2.2.2.2.2.2.2.2.1, .int v0.2.2.2.2.2.2.2.2.2.2.2.2.2.2.2.2.2.2.1, .long v0.2.2.2.2.2.2.2.2.2.2.2.2.2.2.2.2.2.2.2.1, .long v0.2.2.2.2.2.2.2.2.2.2.2.2.2.2.2.2.2.2.2.2.1, .ref a5])), (a1, .inl (ca 0, 4725, .inl v0.2.1)), (a2, .inl (ca 2, 1500, .inl v0.2.2.1)), (a3, .inl (ca 3, 3, .inl v0.2.2.2.1)), (a4, .inl (ca 0, 22, .inl v0.2.2.2.2.2.2.2.2.2.2.2.2.2.1)), (a5, .inl (ca 0, 256, .inl v0.2.2.2.2.2.2.2.2.2.2.2.2.2.2.2.2.2.2.2.2.2))]) (QV D ca [(a0, .inr (12, [.int v0'.1, .ref a1, .ref a2, .ref a3, .int v0'.2.2.2.2.1, .int v0'.2.2.2.2.2.1, .int v0'.2.2.2.2.2.2.1, .int v0'.2.2.2.2.2.2.2.1, .int v0'.2.2.2.2.2.2.2.2.1, .long v0'.2.2.2.2.2.2.2.2.2.1, .int v0'.2.2.2.2.2.2.2.2.2.2.1, .int v0'.2.2.2.2.2.2.2.2.2.2.2.1, .int v0'.2.2.2.2.2.2.2.2.2.2.2.2.1, .ref a4, .int v0'.2.2.2.2.2.2.2.2.2.2.2.2.2.2.1, .int v0'.2.2.2.2.2.2.2.2.2.2.2.2.2.2.2.1, .int v0'.2.2.2.2.2.2.2.2.2.2.2.2.2.2.2.2.1, .int v0'.2.2.2.2.2.2.2.2.2.2.2.2.2.2.2.2.2.1, .int v0'.2.2.2.2.2.2.2.2.2.2.2.2.2.2.2.2.2.2.1, .long v0'.2.2.2.2.2.2.2.2.2.2.2.2.2.2.2.2.2.2.2.1, .long v0'.2.2.2.2.2.2.2.2.2.2.2.2.2.2.2.2.2.2.2.2.1, .ref a5])), (a1, .inl (ca 0, 4725, .inl v0'.2.1)), (a2, .inl (ca 2, 1500, .inl v0'.2.2.1)), (a3, .inl (ca 3, 3, .inl v0'.2.2.2.1)), (a4, .inl (ca 0, 22, .inl v0'.2.2.2.2.2.2.2.2.2.2.2.2.2.1)), (a5, .inl (ca 0, 256, .inl v0'.2.2.2.2.2.2.2.2.2.2.2.2.2.2.2.2.2.2.2.2.2))] (va_A [(a0, .inr (12, [.int v0.1, .ref a1, .ref a2, .ref a3, .int v0.2.2.2.2.1, .int v0.2.2.2.2.2.1, .int v0.2.2.2.2.2.2.1, .int v0.2.2.2.2.2.2.2.1, .int v0.2.2.2.2.2.2.2.2.1, .long v0.2.2.2.2.2.2.2.2.2.1, .int v0.2.2.2.2.2.2.2.2.2.2.1, .int v0.2.2.2.2.2.2.2.2.2.2.2.1, .int v0.2.2.2.2.2.2.2.2.2.2.2.2.1, .ref a4, .int v0.2.2.2.2.2.2.2.2.2.2.2.2.2.2.1, .int v0.2.2.2.2.2.2.2.2.2.2.2.2.2.2.2.1, .int v0.2.2.2.2.2.2.2.2.2.2.2.2.2.2.2.2.1, .int v0.2.2.2.2.2.2.2.2.2.2.2.2.2.2.2.2.2.1, .int v0.2.2.2.2.2.2.2.2.2.2.2.2.2.2.2.2.2.2.1, .long v0.2.2.2.2.2.2.2.2.2.2.2.2.2.2.2.2.2.2.2.1, .long v0.2.2.2.2.2.2.2.2.2.2.2.2.2.2.2.2.2.2.2.2.1, .ref a5])), (a1, .inl (ca 0, 4725, .inl v0.2.1)), (a2, .inl (ca 2, 1500, .inl v0.2.2.1)), (a3, .inl (ca 3, 3, .inl v0.2.2.2.1)), (a4, .inl (ca 0, 22, .inl v0.2.2.2.2.2.2.2.2.2.2.2.2.2.1)), (a5, .inl (ca 0, 256, .inl v0.2.2.2.2.2.2.2.2.2.2.2.2.2.2.2.2.2.2.2.2.2))] sz)) 0 0 (va_A [(a0, .inr (12, [.int v0.1, .ref a1, .ref a2, .ref a3, .int v0.2.2.2.2.1, .int v0.2.2.2.2.2.1, .int v0.2.2.2.2.2.2.1, .int v0.2.2.2.2.2.2.2.1, .int v0.2.2.2.2.2.2.2.2.1, .long v0.2.2.2.2.2.2.2.2.2.1, .int v0.2.2.2.2.2.2.2.2.2.2.1, .int v0.2.2.2.2.2.2.2.2.2.2.2.1, .int v0.2.2.2.2.2.2.2.2.2.2.2.2.1, .ref a4, .int v0.2.2.2.2.2.2.2.2.2.2.2.2.2.2.1, .int v0.2.2.2.2.2.2.2.2.2.2.2.2.2.2.2.1, .int v0.2.2.2.2.2.2.2.2.2.2.2.2.2.2.2.2.1, .int v0.2.2.2.2.2.2.2.2.2.2.2.2.2.2.2.2.2.1, .int v0.2.2.2.2.2.2.2.2.2.2.2.2.2.2.2.2.2.2.1, .long v0.2.2.2.2.2.2.2.2.2.2.2.2.2.2.2.2.2.2.2.1, .long v0.2.2.2.2.2.2.2.2.2.2.2.2.2.2.2.2.2.2.2.2.1, .ref a5])), (a1, .inl (ca 0, 4725, .inl v0.2.1)), (a2, .inl (ca 2, 1500, .inl v0.2.2.1)), (a3, .inl (ca 3, 3, .inl v0.2.2.2.1)), (a4, .inl (ca 0, 22, .inl v0.2.2.2.2.2.2.2.2.2.2.2.2.2.1)), (a5, .inl (ca 0, 256, .inl v0.2.2.2.2.2.2.2.2.2.2.2.2.2.2.2.2.2.2.2.2.2))] sz) := by
  refine en (y := yX12_copies) (wsm := wq_X12_copies) (av := [.ref a0, .int p1, .int p2]) (cc := cX12_copies) (maxL := 4) (ret := none) (Qf := fun A => (QV D ca [(a0, .inr (12, [.int v0'.1, .ref a1, .ref a2, .ref a3, .int v0'.2.2.2.2.1, .int v0'.2.2.2.2.2.1, .int v0'.2.2.2.2.2.2.1, .int v0'.2.2.2.2.2.2.2.1, .int v0'.2.2.2.2.2.2.2.2.1, .long v0'.2.2.2.2.2.2.2.2.2.1, .int v0'.2.2.2.2.2.2.2.2.2.2.1, .int v0'.2.2.2.2.2.2.2.2.2.2.2.1, .int v0'.2.2.2.2.2.2.2.2.2.2.2.2.1, .ref a4, .int v0'.2.2.2.2.2.2.2.2.2.2.2.2.2.2.1, .int v0'.2.2.2.2.2.2.2.2.2.2.2.2.2.2.2.1, .int v0'.2.2.2.2.2.2.2.2.2.2.2.2.2.2.2.2.1, .int v0'.2.2.2.2.2.2.2.2.2.2.2.2.2.2.2.2.2.1, .int v0'.2.2.2.2.2.2.2.2.2.2.2.2.2.2.2.2.2.2.1, .long v0'.2.2.2.2.2.2.2.2.2.2.2.2.2.2.2.2.2.2.2.1, .long v0'.2.2.2.2.2.2.2.2.2.2.2.2.2.2.2.2.2.2.2.2.1, .ref a5])), (a1, .inl (ca 0, 4725, .inl v0'.2.1)), (a2, .inl (ca 2, 1500, .inl v0'.2.2.1)), (a3, .inl (ca 3, 3, .inl v0'.2.2.2.1)), (a4, .inl (ca 0, 22, .inl v0'.2.2.2.2.2.2.2.2.2.2.2.2.2.1)), (a5, .inl (ca 0, 256, .inl v0'.2.2.2.2.2.2.2.2.2.2.2.2.2.2.2.2.2.2.2.2.2))] A)) (by decide) rfl (Nat.le_of_ble_eq_true rfl) ?_
  intro p e s m args below meth c A Q ls hx hb hr hml hown hts hlocks hnm hA hN hZ hK hQ hP hD hS hl
  have w0 := hts _ (List.mem_cons_of_mem _ gw_5_116)
  have i12 : ∀ w ∈ u_ws RX12 TX12 22, w ∈ wq_X12_copies := fun w h => List.mem_cons_of_mem _ (inX12 w h)
  have bl2 : ∀ (k2 : V12 → Int32 → Int32 → Int32 → Option (V12)) (q2 : ∀ (v0 : V12) (x1 : Int32) (x2 : Int32) (x3 : Int32), k2 v0 x1 x2 x3 = some v0' → ∀ (H : Heap) (locs : List Loc) (ls : Array Slot), va_P D vwCl [(a0, .inr (12, [.int v0.1, .ref a1, .ref a2, .ref a3, .int v0.2.2.2.2.1, .int v0.2.2.2.2.2.1, .int v0.2.2.2.2.2.2.1, .int v0.2.2.2.2.2.2.2.1, .int v0.2.2.2.2.2.2.2.2.1, .long v0.2.2.2.2.2.2.2.2.2.1, .int v0.2.2.2.2.2.2.2.2.2.2.1, .int v0.2.2.2.2.2.2.2.2.2.2.2.1, .int v0.2.2.2.2.2.2.2.2.2.2.2.2.1, .ref a4, .int v0.2.2.2.2.2.2.2.2.2.2.2.2.2.2.1, .int v0.2.2.2.2.2.2.2.2.2.2.2.2.2.2.2.1, .int v0.2.2.2.2.2.2.2.2.2.2.2.2.2.2.2.2.1, .int v0.2.2.2.2.2.2.2.2.2.2.2.2.2.2.2.2.2.1, .int v0.2.2.2.2.2.2.2.2.2.2.2.2.2.2.2.2.2.2.1, .long v0.2.2.2.2.2.2.2.2.2.2.2.2.2.2.2.2.2.2.2.1, .long v0.2.2.2.2.2.2.2.2.2.2.2.2.2.2.2.2.2.2.2.2.1, .ref a5])), (a1, .inl (ca 0, 4725, .inl v0.2.1)), (a2, .inl (ca 2, 1500, .inl v0.2.2.1)), (a3, .inl (ca 3, 3, .inl v0.2.2.2.1)), (a4, .inl (ca 0, 22, .inl v0.2.2.2.2.2.2.2.2.2.2.2.2.2.1)), (a5, .inl (ca 0, 256, .inl v0.2.2.2.2.2.2.2.2.2.2.2.2.2.2.2.2.2.2.2.2.2))] H → va_D A [(a0, .inr (12, [.int v0.1, .ref a1, .ref a2, .ref a3, .int v0.2.2.2.2.1, .int v0.2.2.2.2.2.1, .int v0.2.2.2.2.2.2.1, .int v0.2.2.2.2.2.2.2.1, .int v0.2.2.2.2.2.2.2.2.1, .long v0.2.2.2.2.2.2.2.2.2.1, .int v0.2.2.2.2.2.2.2.2.2.2.1, .int v0.2.2.2.2.2.2.2.2.2.2.2.1, .int v0.2.2.2.2.2.2.2.2.2.2.2.2.1, .ref a4, .int v0.2.2.2.2.2.2.2.2.2.2.2.2.2.2.1, .int v0.2.2.2.2.2.2.2.2.2.2.2.2.2.2.2.1, .int v0.2.2.2.2.2.2.2.2.2.2.2.2.2.2.2.2.1, .int v0.2.2.2.2.2.2.2.2.2.2.2.2.2.2.2.2.2.1, .int v0.2.2.2.2.2.2.2.2.2.2.2.2.2.2.2.2.2.2.1, .long v0.2.2.2.2.2.2.2.2.2.2.2.2.2.2.2.2.2.2.2.1, .long v0.2.2.2.2.2.2.2.2.2.2.2.2.2.2.2.2.2.2.2.2.1, .ref a5])), (a1, .inl (ca 0, 4725, .inl v0.2.1)), (a2, .inl (ca 2, 1500, .inl v0.2.2.1)), (a3, .inl (ca 3, 3, .inl v0.2.2.2.1)), (a4, .inl (ca 0, 22, .inl v0.2.2.2.2.2.2.2.2.2.2.2.2.2.1)), (a5, .inl (ca 0, 256, .inl v0.2.2.2.2.2.2.2.2.2.2.2.2.2.2.2.2.2.2.2.2.2))] → va_S A s.heap H locs → lv_has ls 4 [(0, .ref a0), (1, .int x1), (2, .int x2), (3, .int x3)] → W p l e ({ frames := 0, cells := 0, slots := 0, locals := 0 } : Room) s m args below meth c H locs 0 0 Q (F0 m 2 ls [])) (v0 : V12) (x1 : Int32) (x2 : Int32) (x3 : Int32), fl_X12_copies_2 k2 v0 x1 x2 x3 = some v0' → ∀ (H : Heap) (locs : List Loc) (ls : Array Slot), va_P D vwCl [(a0, .inr (12, [.int v0.1, .ref a1, .ref a2, .ref a3, .int v0.2.2.2.2.1, .int v0.2.2.2.2.2.1, .int v0.2.2.2.2.2.2.1, .int v0.2.2.2.2.2.2.2.1, .int v0.2.2.2.2.2.2.2.2.1, .long v0.2.2.2.2.2.2.2.2.2.1, .int v0.2.2.2.2.2.2.2.2.2.2.1, .int v0.2.2.2.2.2.2.2.2.2.2.2.1, .int v0.2.2.2.2.2.2.2.2.2.2.2.2.1, .ref a4, .int v0.2.2.2.2.2.2.2.2.2.2.2.2.2.2.1, .int v0.2.2.2.2.2.2.2.2.2.2.2.2.2.2.2.1, .int v0.2.2.2.2.2.2.2.2.2.2.2.2.2.2.2.2.1, .int v0.2.2.2.2.2.2.2.2.2.2.2.2.2.2.2.2.2.1, .int v0.2.2.2.2.2.2.2.2.2.2.2.2.2.2.2.2.2.2.1, .long v0.2.2.2.2.2.2.2.2.2.2.2.2.2.2.2.2.2.2.2.1, .long v0.2.2.2.2.2.2.2.2.2.2.2.2.2.2.2.2.2.2.2.2.1, .ref a5])), (a1, .inl (ca 0, 4725, .inl v0.2.1)), (a2, .inl (ca 2, 1500, .inl v0.2.2.1)), (a3, .inl (ca 3, 3, .inl v0.2.2.2.1)), (a4, .inl (ca 0, 22, .inl v0.2.2.2.2.2.2.2.2.2.2.2.2.2.1)), (a5, .inl (ca 0, 256, .inl v0.2.2.2.2.2.2.2.2.2.2.2.2.2.2.2.2.2.2.2.2.2))] H → va_D A [(a0, .inr (12, [.int v0.1, .ref a1, .ref a2, .ref a3, .int v0.2.2.2.2.1, .int v0.2.2.2.2.2.1, .int v0.2.2.2.2.2.2.1, .int v0.2.2.2.2.2.2.2.1, .int v0.2.2.2.2.2.2.2.2.1, .long v0.2.2.2.2.2.2.2.2.2.1, .int v0.2.2.2.2.2.2.2.2.2.2.1, .int v0.2.2.2.2.2.2.2.2.2.2.2.1, .int v0.2.2.2.2.2.2.2.2.2.2.2.2.1, .ref a4, .int v0.2.2.2.2.2.2.2.2.2.2.2.2.2.2.1, .int v0.2.2.2.2.2.2.2.2.2.2.2.2.2.2.2.1, .int v0.2.2.2.2.2.2.2.2.2.2.2.2.2.2.2.2.1, .int v0.2.2.2.2.2.2.2.2.2.2.2.2.2.2.2.2.2.1, .int v0.2.2.2.2.2.2.2.2.2.2.2.2.2.2.2.2.2.2.1, .long v0.2.2.2.2.2.2.2.2.2.2.2.2.2.2.2.2.2.2.2.1, .long v0.2.2.2.2.2.2.2.2.2.2.2.2.2.2.2.2.2.2.2.2.1, .ref a5])), (a1, .inl (ca 0, 4725, .inl v0.2.1)), (a2, .inl (ca 2, 1500, .inl v0.2.2.1)), (a3, .inl (ca 3, 3, .inl v0.2.2.2.1)), (a4, .inl (ca 0, 22, .inl v0.2.2.2.2.2.2.2.2.2.2.2.2.2.1)), (a5, .inl (ca 0, 256, .inl v0.2.2.2.2.2.2.2.2.2.2.2.2.2.2.2.2.2.2.2.2.2))] → va_S A s.heap H locs → lv_has ls 4 [(0, .ref a0), (1, .int x1), (2, .int x2), (3, .int x3)] → W p l e ({ frames := 0, cells := 0, slots := 0, locals := 0 } : Room) s m args below meth c H locs 0 0 Q (F0 m 2 ls []) := by
    intro k2 q2 v0 x1 x2 x3 hf H locs ls hP hD hS hl
    unfold fl_X12_copies_2 at hf
    refine lv_iload_n hx hb dX12_copies_2 rfl (lv_at hl 3 rfl) ?_
    refine lv_sipush (v := 945) hx hb dX12_copies_3 rfl ?_
    refine xc_ge (tgt := 39) hx hb dX12_copies_6 (by decide) hf (fun hf => ?_) (fun hf => ?_)
    · have he := Option.some.inj hf
      have e_v0 := he
      refine rt_V hx hb hr hlocks hK hP hD hS hQ ?_ dX12_copies_39
      simp only [← e_v0]
    · refine lv_aload_n hx hb dX12_copies_9 rfl (lv_at hl 0 rfl) ?_
      refine va_get (C := RX12) (T := TX12) (N := 22) hx hb hts i12 hown hK hP 0 rfl rfl 1 (Nat.le_of_ble_eq_true rfl) w0 (fun _ h9 => h9) rfl dX12_copies_10 ?_
      refine lv_sipush (v := 945) hx hb dX12_copies_13 rfl ?_
      refine lv_iload_n hx hb dX12_copies_16 rfl (lv_at hl 2 rfl) ?_
      refine lv_imul hx hb dX12_copies_17 ?_
      refine lv_iload_n hx hb dX12_copies_18 rfl (lv_at hl 3 rfl) ?_
      refine lv_iadd hx hb dX12_copies_19 ?_
      refine lv_aload_n hx hb dX12_copies_20 rfl (lv_at hl 0 rfl) ?_
      refine va_get (C := RX12) (T := TX12) (N := 22) hx hb hts i12 hown hK hP 0 rfl rfl 1 (Nat.le_of_ble_eq_true rfl) w0 (fun _ h9 => h9) rfl dX12_copies_21 ?_
      refine lv_sipush (v := 945) hx hb dX12_copies_24 rfl ?_
      refine lv_iload_n hx hb dX12_copies_27 rfl (lv_at hl 1 rfl) ?_
      refine lv_imul hx hb dX12_copies_28 ?_
      refine lv_iload_n hx hb dX12_copies_29 rfl (lv_at hl 3 rfl) ?_
      refine lv_iadd hx hb dX12_copies_30 ?_
      refine xiald hx hb hK hP 1 rfl hf dX12_copies_31 (fun hf => ?_)
      refine xiast (wx := [(a0, .inr (12, [.int v0.1, .ref a1, .ref a2, .ref a3, .int v0.2.2.2.2.1, .int v0.2.2.2.2.2.1, .int v0.2.2.2.2.2.2.1, .int v0.2.2.2.2.2.2.2.1, .int v0.2.2.2.2.2.2.2.2.1, .long v0.2.2.2.2.2.2.2.2.2.1, .int v0.2.2.2.2.2.2.2.2.2.2.1, .int v0.2.2.2.2.2.2.2.2.2.2.2.1, .int v0.2.2.2.2.2.2.2.2.2.2.2.2.1, .ref a4, .int v0.2.2.2.2.2.2.2.2.2.2.2.2.2.2.1, .int v0.2.2.2.2.2.2.2.2.2.2.2.2.2.2.2.1, .int v0.2.2.2.2.2.2.2.2.2.2.2.2.2.2.2.2.1, .int v0.2.2.2.2.2.2.2.2.2.2.2.2.2.2.2.2.2.1, .int v0.2.2.2.2.2.2.2.2.2.2.2.2.2.2.2.2.2.2.1, .long v0.2.2.2.2.2.2.2.2.2.2.2.2.2.2.2.2.2.2.2.1, .long v0.2.2.2.2.2.2.2.2.2.2.2.2.2.2.2.2.2.2.2.2.1, .ref a5])), (a1, .inl (ca 0, 4725, .inl ((upd v0.2.1 (((945 : Int32) * x2) + x3).toNatClampNeg (v0.2.1 (((945 : Int32) * x1) + x3).toNatClampNeg))))), (a2, .inl (ca 2, 1500, .inl v0.2.2.1)), (a3, .inl (ca 3, 3, .inl v0.2.2.2.1)), (a4, .inl (ca 0, 22, .inl v0.2.2.2.2.2.2.2.2.2.2.2.2.2.1)), (a5, .inl (ca 0, 256, .inl v0.2.2.2.2.2.2.2.2.2.2.2.2.2.2.2.2.2.2.2.2.2))]) hx hb hK hP hD hS 1 rfl hf dX12_copies_32 rfl (fun H locs hf hP hD hS => ?_)
      obtain ⟨y_1, ey_1, hf⟩ := bnd_el hf
      rw [← ey_1] at hP hD
      obtain ⟨x_2, ex_2, hf⟩ := bnd_el hf
      refine lv_iinc (v := x_2) (lv' := [(3, .int x_2), (0, .ref a0), (1, .int x1), (2, .int x2)]) hx hb dX12_copies_33 hl (k := 3) rfl (by rw [ex_2]; rfl) (Nat.le_of_ble_eq_true rfl) rfl (fun ls hl => ?_)
      refine lv_goto (tgt := 2) hx hb dX12_copies_36 (by decide) ?_
      have jb := q2 ((v0.1, y_1, v0.2.2)) x1 x2 x_2
      dsimp only at jb
      exact jb hf _ _ _ hP hD hS (lv_sub hl [1, 2, 3, 0] rfl)
  have b2 : ∀ (n : Nat) (v0 : V12) (x1 : Int32) (x2 : Int32) (x3 : Int32), fb_X12_copies_2 n v0 x1 x2 x3 = some v0' → ∀ (H : Heap) (locs : List Loc) (ls : Array Slot), va_P D vwCl [(a0, .inr (12, [.int v0.1, .ref a1, .ref a2, .ref a3, .int v0.2.2.2.2.1, .int v0.2.2.2.2.2.1, .int v0.2.2.2.2.2.2.1, .int v0.2.2.2.2.2.2.2.1, .int v0.2.2.2.2.2.2.2.2.1, .long v0.2.2.2.2.2.2.2.2.2.1, .int v0.2.2.2.2.2.2.2.2.2.2.1, .int v0.2.2.2.2.2.2.2.2.2.2.2.1, .int v0.2.2.2.2.2.2.2.2.2.2.2.2.1, .ref a4, .int v0.2.2.2.2.2.2.2.2.2.2.2.2.2.2.1, .int v0.2.2.2.2.2.2.2.2.2.2.2.2.2.2.2.1, .int v0.2.2.2.2.2.2.2.2.2.2.2.2.2.2.2.2.1, .int v0.2.2.2.2.2.2.2.2.2.2.2.2.2.2.2.2.2.1, .int v0.2.2.2.2.2.2.2.2.2.2.2.2.2.2.2.2.2.2.1, .long v0.2.2.2.2.2.2.2.2.2.2.2.2.2.2.2.2.2.2.2.1, .long v0.2.2.2.2.2.2.2.2.2.2.2.2.2.2.2.2.2.2.2.2.1, .ref a5])), (a1, .inl (ca 0, 4725, .inl v0.2.1)), (a2, .inl (ca 2, 1500, .inl v0.2.2.1)), (a3, .inl (ca 3, 3, .inl v0.2.2.2.1)), (a4, .inl (ca 0, 22, .inl v0.2.2.2.2.2.2.2.2.2.2.2.2.2.1)), (a5, .inl (ca 0, 256, .inl v0.2.2.2.2.2.2.2.2.2.2.2.2.2.2.2.2.2.2.2.2.2))] H → va_D A [(a0, .inr (12, [.int v0.1, .ref a1, .ref a2, .ref a3, .int v0.2.2.2.2.1, .int v0.2.2.2.2.2.1, .int v0.2.2.2.2.2.2.1, .int v0.2.2.2.2.2.2.2.1, .int v0.2.2.2.2.2.2.2.2.1, .long v0.2.2.2.2.2.2.2.2.2.1, .int v0.2.2.2.2.2.2.2.2.2.2.1, .int v0.2.2.2.2.2.2.2.2.2.2.2.1, .int v0.2.2.2.2.2.2.2.2.2.2.2.2.1, .ref a4, .int v0.2.2.2.2.2.2.2.2.2.2.2.2.2.2.1, .int v0.2.2.2.2.2.2.2.2.2.2.2.2.2.2.2.1, .int v0.2.2.2.2.2.2.2.2.2.2.2.2.2.2.2.2.1, .int v0.2.2.2.2.2.2.2.2.2.2.2.2.2.2.2.2.2.1, .int v0.2.2.2.2.2.2.2.2.2.2.2.2.2.2.2.2.2.2.1, .long v0.2.2.2.2.2.2.2.2.2.2.2.2.2.2.2.2.2.2.2.1, .long v0.2.2.2.2.2.2.2.2.2.2.2.2.2.2.2.2.2.2.2.2.1, .ref a5])), (a1, .inl (ca 0, 4725, .inl v0.2.1)), (a2, .inl (ca 2, 1500, .inl v0.2.2.1)), (a3, .inl (ca 3, 3, .inl v0.2.2.2.1)), (a4, .inl (ca 0, 22, .inl v0.2.2.2.2.2.2.2.2.2.2.2.2.2.1)), (a5, .inl (ca 0, 256, .inl v0.2.2.2.2.2.2.2.2.2.2.2.2.2.2.2.2.2.2.2.2.2))] → va_S A s.heap H locs → lv_has ls 4 [(0, .ref a0), (1, .int x1), (2, .int x2), (3, .int x3)] → W p l e ({ frames := 0, cells := 0, slots := 0, locals := 0 } : Room) s m args below meth c H locs 0 0 Q (F0 m 2 ls []) := by
    intro n
    induction n with
    | zero => intro v0 x1 x2 x3 hf; exact no_el hf
    | succ n ih => exact bl2 (fb_X12_copies_2 n) ih
  unfold f_X12_copies at hf
  refine lv_iconst (v := 0) hx hb dX12_copies_0 rfl ?_
  refine lv_istore_n (lv' := [(3, .int (0 : Int32)), (0, .ref a0), (1, .int p1), (2, .int p2)]) hx hb dX12_copies_1 rfl hl (Nat.le_of_ble_eq_true rfl) rfl (fun ls hl => ?_)
  exact b2 FU v0 p1 p2 (0 : Int32) hf _ _ _ hP hD hS (lv_sub hl [1, 2, 3, 0] rfl)
abbrev wq_X12_back : List Cond := Cond.code yX12_back cX12_back 2 (some .int) :: GL
set_option maxHeartbeats 4000000 in
set_option maxRecDepth 100000 in
theorem c_X12_back (l : Launch) (D : va_G) (ca : Nat → ClassId) (zz : Nat → Nat) (a0 a1 a2 a3 a4 a5 : Nat) (sz : Nat) (v0 : V12) (p1 : Int32) (r : Int32) (v0' : V12) (hf : f_X12_back v0 p1 = some (r, v0')) : Met l yX12_back wq_X12_back ({ frames := 1, cells := 0, slots := 0, locals := 23 } : Room) (PR D ca zz [.ref a0, .int p1] sz [(a0, .inr (12, [.int v0.1, .ref a1, .ref a2, .ref a3, .int v0.2.2.2.2.1, .int v0.2.2.2.2.2.1, .int v0.2.2.2.2.2.2.1, .int v0.2.2.2.2.2.2.2.1, .int v0.2.2.2.2.2.2.2.2.1, .long v0.2.2.2.2.2.2.2.2.2.1, .int v0.2.2.2.2.2.2.2.2.2.2.1, .int v0.2.2.2.2.2.2.2.2.2.2.2.1, .int v0.2.2.2.2.2.2.2.2.2.2.2.2.1, .ref a4, .int v0.2.2.2.2.2.2.2.2.2.2.2.2.2.2.1, .int v0.2.2.2.2.2.2.2.2.2.2.2.2.2.2.2.1, .int v0.2.2.2.2.2.2.2.2.2.2.2.2.2.2.2.2.1, .int v0.2.2.2.2.2.2.2.2.2.2.2.2.2.2.2.2.2.1, .int v0.2.2.2.2.2.2.2.2.2.2.2.2.2.2.2.2.2.2.1, .long v0.2.2.2.2.2.2.2.2.2.2.2.2.2.2.2.2.2.2.2.1, .long v0.2.2.2.2.2.2.2.2.2.2.2.2.2.2.2.2.2.2.2.2.1, .ref a5])), (a1, .inl (ca 0, 4725, .inl v0.2.1)), (a2, .inl (ca 2, 1500, .inl v0.2.2.1)), (a3, .inl (ca 3, 3, .inl v0.2.2.2.1)), (a4, .inl (ca 0, 22, .inl v0.2.2.2.2.2.2.2.2.2.2.2.2.2.1)), (a5, .inl (ca 0, 256, .inl v0.2.2.2.2.2.2.2.2.2.2.2.2.2.2.2.2.2.2.2.2.2))]) (QI D ca r [(a0, .inr (12, [.int v0'.1, .ref a1, .ref a2, .ref a3, .int v0'.2.2.2.2.1, .int v0'.2.2.2.2.2.1, .int v0'.2.2.2.2.2.2.1, .int v0'.2.2.2.2.2.2.2.1, .int v0'.2.2.2.2.2.2.2.2.1, .long v0'.2.2.2.2.2.2.2.2.2.1, .int v0'.2.2.2.2.2.2.2.2.2.2.1, .int v0'.2.2.2.2.2.2.2.2.2.2.2.1, .int v0'.2.2.2.2.2.2.2.2.2.2.2.2.1, .ref a4, .int v0'.2.2.2.2.2.2.2.2.2.2.2.2.2.2.1, .int v0'.2.2.2.2.2.2.2.2.2.2.2.2.2.2.2.1, .int v0'.2.2.2.2.2.2.2.2.2.2.2.2.2.2.2.2.1, .int v0'.2.2.2.2.2.2.2.2.2.2.2.2.2.2.2.2.2.1, .int v0'.2.2.2.2.2.2.2.2.2.2.2.2.2.2.2.2.2.2.1, .long v0'.2.2.2.2.2.2.2.2.2.2.2.2.2.2.2.2.2.2.2.1, .long v0'.2.2.2.2.2.2.2.2.2.2.2.2.2.2.2.2.2.2.2.2.1, .ref a5])), (a1, .inl (ca 0, 4725, .inl v0'.2.1)), (a2, .inl (ca 2, 1500, .inl v0'.2.2.1)), (a3, .inl (ca 3, 3, .inl v0'.2.2.2.1)), (a4, .inl (ca 0, 22, .inl v0'.2.2.2.2.2.2.2.2.2.2.2.2.2.1)), (a5, .inl (ca 0, 256, .inl v0'.2.2.2.2.2.2.2.2.2.2.2.2.2.2.2.2.2.2.2.2.2))] (va_A [(a0, .inr (12, [.int v0.1, .ref a1, .ref a2, .ref a3, .int v0.2.2.2.2.1, .int v0.2.2.2.2.2.1, .int v0.2.2.2.2.2.2.1, .int v0.2.2.2.2.2.2.2.1, .int v0.2.2.2.2.2.2.2.2.1, .long v0.2.2.2.2.2.2.2.2.2.1, .int v0.2.2.2.2.2.2.2.2.2.2.1, .int v0.2.2.2.2.2.2.2.2.2.2.2.1, .int v0.2.2.2.2.2.2.2.2.2.2.2.2.1, .ref a4, .int v0.2.2.2.2.2.2.2.2.2.2.2.2.2.2.1, .int v0.2.2.2.2.2.2.2.2.2.2.2.2.2.2.2.1, .int v0.2.2.2.2.2.2.2.2.2.2.2.2.2.2.2.2.1, .int v0.2.2.2.2.2.2.2.2.2.2.2.2.2.2.2.2.2.1, .int v0.2.2.2.2.2.2.2.2.2.2.2.2.2.2.2.2.2.2.1, .long v0.2.2.2.2.2.2.2.2.2.2.2.2.2.2.2.2.2.2.2.1, .long v0.2.2.2.2.2.2.2.2.2.2.2.2.2.2.2.2.2.2.2.2.1, .ref a5])), (a1, .inl (ca 0, 4725, .inl v0.2.1)), (a2, .inl (ca 2, 1500, .inl v0.2.2.1)), (a3, .inl (ca 3, 3, .inl v0.2.2.2.1)), (a4, .inl (ca 0, 22, .inl v0.2.2.2.2.2.2.2.2.2.2.2.2.2.1)), (a5, .inl (ca 0, 256, .inl v0.2.2.2.2.2.2.2.2.2.2.2.2.2.2.2.2.2.2.2.2.2))] sz)) 0 0 (va_A [(a0, .inr (12, [.int v0.1, .ref a1, .ref a2, .ref a3, .int v0.2.2.2.2.1, .int v0.2.2.2.2.2.1, .int v0.2.2.2.2.2.2.1, .int v0.2.2.2.2.2.2.2.1, .int v0.2.2.2.2.2.2.2.2.1, .long v0.2.2.2.2.2.2.2.2.2.1, .int v0.2.2.2.2.2.2.2.2.2.2.1, .int v0.2.2.2.2.2.2.2.2.2.2.2.1, .int v0.2.2.2.2.2.2.2.2.2.2.2.2.1, .ref a4, .int v0.2.2.2.2.2.2.2.2.2.2.2.2.2.2.1, .int v0.2.2.2.2.2.2.2.2.2.2.2.2.2.2.2.1, .int v0.2.2.2.2.2.2.2.2.2.2.2.2.2.2.2.2.1, .int v0.2.2.2.2.2.2.2.2.2.2.2.2.2.2.2.2.2.1, .int v0.2.2.2.2.2.2.2.2.2.2.2.2.2.2.2.2.2.2.1, .long v0.2.2.2.2.2.2.2.2.2.2.2.2.2.2.2.2.2.2.2.1, .long v0.2.2.2.2.2.2.2.2.2.2.2.2.2.2.2.2.2.2.2.2.1, .ref a5])), (a1, .inl (ca 0, 4725, .inl v0.2.1)), (a2, .inl (ca 2, 1500, .inl v0.2.2.1)), (a3, .inl (ca 3, 3, .inl v0.2.2.2.1)), (a4, .inl (ca 0, 22, .inl v0.2.2.2.2.2.2.2.2.2.2.2.2.2.1)), (a5, .inl (ca 0, 256, .inl v0.2.2.2.2.2.2.2.2.2.2.2.2.2.2.2.2.2.2.2.2.2))] sz) := by
  refine en (y := yX12_back) (wsm := wq_X12_back) (av := [.ref a0, .int p1]) (cc := cX12_back) (maxL := 2) (ret := (some .int)) (Qf := fun A => (QI D ca r [(a0, .inr (12, [.int v0'.1, .ref a1, .ref a2, .ref a3, .int v0'.2.2.2.2.1, .int v0'.2.2.2.2.2.1, .int v0'.2.2.2.2.2.2.1, .int v0'.2.2.2.2.2.2.2.1, .int v0'.2.2.2.2.2.2.2.2.1, .long v0'.2.2.2.2.2.2.2.2.2.1, .int v0'.2.2.2.2.2.2.2.2.2.2.1, .int v0'.2.2.2.2.2.2.2.2.2.2.2.1, .int v0'.2.2.2.2.2.2.2.2.2.2.2.2.1, .ref a4, .int v0'.2.2.2.2.2.2.2.2.2.2.2.2.2.2.1, .int v0'.2.2.2.2.2.2.2.2.2.2.2.2.2.2.2.1, .int v0'.2.2.2.2.2.2.2.2.2.2.2.2.2.2.2.2.1, .int v0'.2.2.2.2.2.2.2.2.2.2.2.2.2.2.2.2.2.1, .int v0'.2.2.2.2.2.2.2.2.2.2.2.2.2.2.2.2.2.2.1, .long v0'.2.2.2.2.2.2.2.2.2.2.2.2.2.2.2.2.2.2.2.1, .long v0'.2.2.2.2.2.2.2.2.2.2.2.2.2.2.2.2.2.2.2.2.1, .ref a5])), (a1, .inl (ca 0, 4725, .inl v0'.2.1)), (a2, .inl (ca 2, 1500, .inl v0'.2.2.1)), (a3, .inl (ca 3, 3, .inl v0'.2.2.2.1)), (a4, .inl (ca 0, 22, .inl v0'.2.2.2.2.2.2.2.2.2.2.2.2.2.1)), (a5, .inl (ca 0, 256, .inl v0'.2.2.2.2.2.2.2.2.2.2.2.2.2.2.2.2.2.2.2.2.2))] A)) (by decide) rfl (Nat.le_of_ble_eq_true rfl) ?_
  intro p e s m args below meth c A Q ls hx hb hr hml hown hts hlocks hnm hA hN hZ hK hQ hP hD hS hl
  unfold f_X12_back at hf
  refine lv_aload_n hx hb dX12_back_0 rfl (lv_at hl 0 rfl) ?_
  refine lv_iconst (v := 4) hx hb dX12_back_1 rfl ?_
  refine lv_iconst (v := 0) hx hb dX12_back_2 rfl ?_
  obtain ⟨u_1, hc1, hf⟩ := bnd1_el hf
  refine xV_V (As := [.int (4 : Int32), .int (0 : Int32)]) (wx := [(a0, .inr (12, [.int u_1.1, .ref a1, .ref a2, .ref a3, .int u_1.2.2.2.2.1, .int u_1.2.2.2.2.2.1, .int u_1.2.2.2.2.2.2.1, .int u_1.2.2.2.2.2.2.2.1, .int u_1.2.2.2.2.2.2.2.2.1, .long u_1.2.2.2.2.2.2.2.2.2.1, .int u_1.2.2.2.2.2.2.2.2.2.2.1, .int u_1.2.2.2.2.2.2.2.2.2.2.2.1, .int u_1.2.2.2.2.2.2.2.2.2.2.2.2.1, .ref a4, .int u_1.2.2.2.2.2.2.2.2.2.2.2.2.2.2.1, .int u_1.2.2.2.2.2.2.2.2.2.2.2.2.2.2.2.1, .int u_1.2.2.2.2.2.2.2.2.2.2.2.2.2.2.2.2.1, .int u_1.2.2.2.2.2.2.2.2.2.2.2.2.2.2.2.2.2.1, .int u_1.2.2.2.2.2.2.2.2.2.2.2.2.2.2.2.2.2.2.1, .long u_1.2.2.2.2.2.2.2.2.2.2.2.2.2.2.2.2.2.2.2.1, .long u_1.2.2.2.2.2.2.2.2.2.2.2.2.2.2.2.2.2.2.2.2.1, .ref a5])), (a1, .inl (ca 0, 4725, .inl u_1.2.1)), (a2, .inl (ca 2, 1500, .inl u_1.2.2.1)), (a3, .inl (ca 3, 3, .inl u_1.2.2.2.1)), (a4, .inl (ca 0, 22, .inl u_1.2.2.2.2.2.2.2.2.2.2.2.2.2.1)), (a5, .inl (ca 0, 256, .inl u_1.2.2.2.2.2.2.2.2.2.2.2.2.2.2.2.2.2.2.2.2.2))]) ⟨hx, hb, hml, hown, hts⟩ (c_X12_copies l D ca zz a0 a1 a2 a3 a4 a5 _ v0 (4 : Int32) (0 : Int32) u_1 hc1) (cwV 2 hts (gV gw_7_29 gw_7_31 gw_s_5_9 gw_1_15 gw_7_32) rfl rfl rfl (by decide +kernel) ⟨(Nat.le_of_ble_eq_true rfl), (Nat.le_of_ble_eq_true rfl)⟩) hK hN hZ hA hP hD hS [0, 1, 2, 3, 4, 5] [some 0, some 1, some 2, some 3, some 4, some 5] (by decide +kernel) rfl rfl rfl rfl 0 rfl rfl hl.1 rfl (Nat.le_of_ble_eq_true rfl) dX12_back_3 ⟨Nat.zero_le _, Nat.zero_le _⟩ rfl (fun H locs hP hD hS => ?_)
  refine lv_iload_n hx hb dX12_back_6 rfl (lv_at hl 1 rfl) ?_
  have he := Option.some.inj hf
  obtain ⟨e_r, he⟩ := Prod.mk.inj he
  have e_v0 := he
  refine rt_I hx hb hr hlocks hK hP hD hS hQ e_r ?_ dX12_back_7
  simp only [← e_v0]
abbrev wq_X12_ahead : List Cond := Cond.code yX12_ahead cX12_ahead 4 (some .int) :: GL
set_option maxHeartbeats 4000000 in
set_option maxRecDepth 100000 in
theorem c_X12_ahead (l : Launch) (D : va_G) (ca : Nat → ClassId) (zz : Nat → Nat) (a0 a1 a2 a3 a4 a5 : Nat) (sz : Nat) (v0 : V12) (p1 : Int32) (p2 : Int32) (r : Int32) (v0' : V12) (hf : f_X12_ahead v0 p1 p2 = some (r, v0')) : Met l yX12_ahead wq_X12_ahead ({ frames := 5, cells := 0, slots := 0, locals := 114 } : Room) (PR D ca zz [.ref a0, .int p1, .int p2] sz [(a0, .inr (12, [.int v0.1, .ref a1, .ref a2, .ref a3, .int v0.2.2.2.2.1, .int v0.2.2.2.2.2.1, .int v0.2.2.2.2.2.2.1, .int v0.2.2.2.2.2.2.2.1, .int v0.2.2.2.2.2.2.2.2.1, .long v0.2.2.2.2.2.2.2.2.2.1, .int v0.2.2.2.2.2.2.2.2.2.2.1, .int v0.2.2.2.2.2.2.2.2.2.2.2.1, .int v0.2.2.2.2.2.2.2.2.2.2.2.2.1, .ref a4, .int v0.2.2.2.2.2.2.2.2.2.2.2.2.2.2.1, .int v0.2.2.2.2.2.2.2.2.2.2.2.2.2.2.2.1, .int v0.2.2.2.2.2.2.2.2.2.2.2.2.2.2.2.2.1, .int v0.2.2.2.2.2.2.2.2.2.2.2.2.2.2.2.2.2.1, .int v0.2.2.2.2.2.2.2.2.2.2.2.2.2.2.2.2.2.2.1, .long v0.2.2.2.2.2.2.2.2.2.2.2.2.2.2.2.2.2.2.2.1, .long v0.2.2.2.2.2.2.2.2.2.2.2.2.2.2.2.2.2.2.2.2.1, .ref a5])), (a1, .inl (ca 0, 4725, .inl v0.2.1)), (a2, .inl (ca 2, 1500, .inl v0.2.2.1)), (a3, .inl (ca 3, 3, .inl v0.2.2.2.1)), (a4, .inl (ca 0, 22, .inl v0.2.2.2.2.2.2.2.2.2.2.2.2.2.1)), (a5, .inl (ca 0, 256, .inl v0.2.2.2.2.2.2.2.2.2.2.2.2.2.2.2.2.2.2.2.2.2))]) (QI D ca r [(a0, .inr (12, [.int v0'.1, .ref a1, .ref a2, .ref a3, .int v0'.2.2.2.2.1, .int v0'.2.2.2.2.2.1, .int v0'.2.2.2.2.2.2.1, .int v0'.2.2.2.2.2.2.2.1, .int v0'.2.2.2.2.2.2.2.2.1, .long v0'.2.2.2.2.2.2.2.2.2.1, .int v0'.2.2.2.2.2.2.2.2.2.2.1, .int v0'.2.2.2.2.2.2.2.2.2.2.2.1, .int v0'.2.2.2.2.2.2.2.2.2.2.2.2.1, .ref a4, .int v0'.2.2.2.2.2.2.2.2.2.2.2.2.2.2.1, .int v0'.2.2.2.2.2.2.2.2.2.2.2.2.2.2.2.1, .int v0'.2.2.2.2.2.2.2.2.2.2.2.2.2.2.2.2.1, .int v0'.2.2.2.2.2.2.2.2.2.2.2.2.2.2.2.2.2.1, .int v0'.2.2.2.2.2.2.2.2.2.2.2.2.2.2.2.2.2.2.1, .long v0'.2.2.2.2.2.2.2.2.2.2.2.2.2.2.2.2.2.2.2.1, .long v0'.2.2.2.2.2.2.2.2.2.2.2.2.2.2.2.2.2.2.2.2.1, .ref a5])), (a1, .inl (ca 0, 4725, .inl v0'.2.1)), (a2, .inl (ca 2, 1500, .inl v0'.2.2.1)), (a3, .inl (ca 3, 3, .inl v0'.2.2.2.1)), (a4, .inl (ca 0, 22, .inl v0'.2.2.2.2.2.2.2.2.2.2.2.2.2.1)), (a5, .inl (ca 0, 256, .inl v0'.2.2.2.2.2.2.2.2.2.2.2.2.2.2.2.2.2.2.2.2.2))] (va_A [(a0, .inr (12, [.int v0.1, .ref a1, .ref a2, .ref a3, .int v0.2.2.2.2.1, .int v0.2.2.2.2.2.1, .int v0.2.2.2.2.2.2.1, .int v0.2.2.2.2.2.2.2.1, .int v0.2.2.2.2.2.2.2.2.1, .long v0.2.2.2.2.2.2.2.2.2.1, .int v0.2.2.2.2.2.2.2.2.2.2.1, .int v0.2.2.2.2.2.2.2.2.2.2.2.1, .int v0.2.2.2.2.2.2.2.2.2.2.2.2.1, .ref a4, .int v0.2.2.2.2.2.2.2.2.2.2.2.2.2.2.1, .int v0.2.2.2.2.2.2.2.2.2.2.2.2.2.2.2.1, .int v0.2.2.2.2.2.2.2.2.2.2.2.2.2.2.2.2.1, .int v0.2.2.2.2.2.2.2.2.2.2.2.2.2.2.2.2.2.1, .int v0.2.2.2.2.2.2.2.2.2.2.2.2.2.2.2.2.2.2.1, .long v0.2.2.2.2.2.2.2.2.2.2.2.2.2.2.2.2.2.2.2.1, .long v0.2.2.2.2.2.2.2.2.2.2.2.2.2.2.2.2.2.2.2.2.1, .ref a5])), (a1, .inl (ca 0, 4725, .inl v0.2.1)), (a2, .inl (ca 2, 1500, .inl v0.2.2.1)), (a3, .inl (ca 3, 3, .inl v0.2.2.2.1)), (a4, .inl (ca 0, 22, .inl v0.2.2.2.2.2.2.2.2.2.2.2.2.2.1)), (a5, .inl (ca 0, 256, .inl v0.2.2.2.2.2.2.2.2.2.2.2.2.2.2.2.2.2.2.2.2.2))] sz)) 0 0 (va_A [(a0, .inr (12, [.int v0.1, .ref a1, .ref a2, .ref a3, .int v0.2.2.2.2.1, .int v0.2.2.2.2.2.1, .int v0.2.2.2.2.2.2.1, .int v0.2.2.2.2.2.2.2.1, .int v0.2.2.2.2.2.2.2.2.1, .long v0.2.2.2.2.2.2.2.2.2.1, .int v0.2.2.2.2.2.2.2.2.2.2.1, .int v0.2.2.2.2.2.2.2.2.2.2.2.1, .int v0.2.2.2.2.2.2.2.2.2.2.2.2.1, .ref a4, .int v0.2.2.2.2.2.2.2.2.2.2.2.2.2.2.1, .int v0.2.2.2.2.2.2.2.2.2.2.2.2.2.2.2.1, .int v0.2.2.2.2.2.2.2.2.2.2.2.2.2.2.2.2.1, .int v0.2.2.2.2.2.2.2.2.2.2.2.2.2.2.2.2.2.1, .int v0.2.2.2.2.2.2.2.2.2.2.2.2.2.2.2.2.2.2.1, .long v0.2.2.2.2.2.2.2.2.2.2.2.2.2.2.2.2.2.2.2.1, .long v0.2.2.2.2.2.2.2.2.2.2.2.2.2.2.2.2.2.2.2.2.1, .ref a5])), (a1, .inl (ca 0, 4725, .inl v0.2.1)), (a2, .inl (ca 2, 1500, .inl v0.2.2.1)), (a3, .inl (ca 3, 3, .inl v0.2.2.2.1)), (a4, .inl (ca 0, 22, .inl v0.2.2.2.2.2.2.2.2.2.2.2.2.2.1)), (a5, .inl (ca 0, 256, .inl v0.2.2.2.2.2.2.2.2.2.2.2.2.2.2.2.2.2.2.2.2.2))] sz) := by
  refine en (y := yX12_ahead) (wsm := wq_X12_ahead) (av := [.ref a0, .int p1, .int p2]) (cc := cX12_ahead) (maxL := 4) (ret := (some .int)) (Qf := fun A => (QI D ca r [(a0, .inr (12, [.int v0'.1, .ref a1, .ref a2, .ref a3, .int v0'.2.2.2.2.1, .int v0'.2.2.2.2.2.1, .int v0'.2.2.2.2.2.2.1, .int v0'.2.2.2.2.2.2.2.1, .int v0'.2.2.2.2.2.2.2.2.1, .long v0'.2.2.2.2.2.2.2.2.2.1, .int v0'.2.2.2.2.2.2.2.2.2.2.1, .int v0'.2.2.2.2.2.2.2.2.2.2.2.1, .int v0'.2.2.2.2.2.2.2.2.2.2.2.2.1, .ref a4, .int v0'.2.2.2.2.2.2.2.2.2.2.2.2.2.2.1, .int v0'.2.2.2.2.2.2.2.2.2.2.2.2.2.2.2.1, .int v0'.2.2.2.2.2.2.2.2.2.2.2.2.2.2.2.2.1, .int v0'.2.2.2.2.2.2.2.2.2.2.2.2.2.2.2.2.2.1, .int v0'.2.2.2.2.2.2.2.2.2.2.2.2.2.2.2.2.2.2.1, .long v0'.2.2.2.2.2.2.2.2.2.2.2.2.2.2.2.2.2.2.2.1, .long v0'.2.2.2.2.2.2.2.2.2.2.2.2.2.2.2.2.2.2.2.2.1, .ref a5])), (a1, .inl (ca 0, 4725, .inl v0'.2.1)), (a2, .inl (ca 2, 1500, .inl v0'.2.2.1)), (a3, .inl (ca 3, 3, .inl v0'.2.2.2.1)), (a4, .inl (ca 0, 22, .inl v0'.2.2.2.2.2.2.2.2.2.2.2.2.2.1)), (a5, .inl (ca 0, 256, .inl v0'.2.2.2.2.2.2.2.2.2.2.2.2.2.2.2.2.2.2.2.2.2))] A)) (by decide) rfl (Nat.le_of_ble_eq_true rfl) ?_
  intro p e s m args below meth c A Q ls hx hb hr hml hown hts hlocks hnm hA hN hZ hK hQ hP hD hS hl
  have w0 := hts _ (List.mem_cons_of_mem _ gw_5_115)
  have i12 : ∀ w ∈ u_ws RX12 TX12 22, w ∈ wq_X12_ahead := fun w h => List.mem_cons_of_mem _ (inX12 w h)
  unfold f_X12_ahead at hf
  refine lv_aload_n hx hb dX12_ahead_0 rfl (lv_at hl 0 rfl) ?_
  refine lv_iconst (v := 0) hx hb dX12_ahead_1 rfl ?_
  refine xput (C := RX12) (T := TX12) (N := 22) (wx := [(a0, .inr (12, [.int (0 : Int32), .ref a1, .ref a2, .ref a3, .int v0.2.2.2.2.1, .int v0.2.2.2.2.2.1, .int v0.2.2.2.2.2.2.1, .int v0.2.2.2.2.2.2.2.1, .int v0.2.2.2.2.2.2.2.2.1, .long v0.2.2.2.2.2.2.2.2.2.1, .int v0.2.2.2.2.2.2.2.2.2.2.1, .int v0.2.2.2.2.2.2.2.2.2.2.2.1, .int v0.2.2.2.2.2.2.2.2.2.2.2.2.1, .ref a4, .int v0.2.2.2.2.2.2.2.2.2.2.2.2.2.2.1, .int v0.2.2.2.2.2.2.2.2.2.2.2.2.2.2.2.1, .int v0.2.2.2.2.2.2.2.2.2.2.2.2.2.2.2.2.1, .int v0.2.2.2.2.2.2.2.2.2.2.2.2.2.2.2.2.2.1, .int v0.2.2.2.2.2.2.2.2.2.2.2.2.2.2.2.2.2.2.1, .long v0.2.2.2.2.2.2.2.2.2.2.2.2.2.2.2.2.2.2.2.1, .long v0.2.2.2.2.2.2.2.2.2.2.2.2.2.2.2.2.2.2.2.2.1, .ref a5])), (a1, .inl (ca 0, 4725, .inl v0.2.1)), (a2, .inl (ca 2, 1500, .inl v0.2.2.1)), (a3, .inl (ca 3, 3, .inl v0.2.2.2.1)), (a4, .inl (ca 0, 22, .inl v0.2.2.2.2.2.2.2.2.2.2.2.2.2.1)), (a5, .inl (ca 0, 256, .inl v0.2.2.2.2.2.2.2.2.2.2.2.2.2.2.2.2.2.2.2.2.2))]) hx hb hts i12 tyX12 tyX12_ok nmX12 hown hK hP hD hS 0 rfl rfl 0 (Nat.le_of_ble_eq_true rfl) w0 (fun _ h9 => h9) rfl rfl rfl rfl (Nat.le_of_ble_eq_true rfl) dX12_ahead_2 rfl (fun H locs hP hD hS => ?_)
  refine lv_iload_n hx hb dX12_ahead_5 rfl (lv_at hl 1 rfl) ?_
  refine lv_iconst (v := 1) hx hb dX12_ahead_6 rfl ?_
  refine lv_sipush (v := 400) hx hb dX12_ahead_7 rfl ?_
  obtain ⟨r_1, hc1, hf⟩ := bnd1_el hf
  refine xS_I (As := [.int p1, .int (1 : Int32), .int (400 : Int32)]) (wx := [(a0, .inr (12, [.int (0 : Int32), .ref a1, .ref a2, .ref a3, .int v0.2.2.2.2.1, .int v0.2.2.2.2.2.1, .int v0.2.2.2.2.2.2.1, .int v0.2.2.2.2.2.2.2.1, .int v0.2.2.2.2.2.2.2.2.1, .long v0.2.2.2.2.2.2.2.2.2.1, .int v0.2.2.2.2.2.2.2.2.2.2.1, .int v0.2.2.2.2.2.2.2.2.2.2.2.1, .int v0.2.2.2.2.2.2.2.2.2.2.2.2.1, .ref a4, .int v0.2.2.2.2.2.2.2.2.2.2.2.2.2.2.1, .int v0.2.2.2.2.2.2.2.2.2.2.2.2.2.2.2.1, .int v0.2.2.2.2.2.2.2.2.2.2.2.2.2.2.2.2.1, .int v0.2.2.2.2.2.2.2.2.2.2.2.2.2.2.2.2.2.1, .int v0.2.2.2.2.2.2.2.2.2.2.2.2.2.2.2.2.2.2.1, .long v0.2.2.2.2.2.2.2.2.2.2.2.2.2.2.2.2.2.2.2.1, .long v0.2.2.2.2.2.2.2.2.2.2.2.2.2.2.2.2.2.2.2.2.1, .ref a5])), (a1, .inl (ca 0, 4725, .inl v0.2.1)), (a2, .inl (ca 2, 1500, .inl v0.2.2.1)), (a3, .inl (ca 3, 3, .inl v0.2.2.2.1)), (a4, .inl (ca 0, 22, .inl v0.2.2.2.2.2.2.2.2.2.2.2.2.2.1)), (a5, .inl (ca 0, 256, .inl v0.2.2.2.2.2.2.2.2.2.2.2.2.2.2.2.2.2.2.2.2.2))]) ⟨hx, hb, hml, hown, hts⟩ (c_X12_in l D ca zz  _ p1 (1 : Int32) (400 : Int32) r_1 hc1) (va_cwS 3 hts (gS gw_5_204 gw_5_205 gw_1_15 gw_5_206) rfl rfl rfl (by decide +kernel) ⟨(Nat.le_of_ble_eq_true rfl), (Nat.le_of_ble_eq_true rfl)⟩) hK hN hZ hA hP hD hS [] [none, none, none, none, none, none] (by decide +kernel) rfl rfl rfl rfl hl.1 rfl (Nat.le_of_ble_eq_true rfl) dX12_ahead_10 ⟨Nat.zero_le _, Nat.zero_le _⟩ rfl (fun H locs hP hD hS => ?_)
  refine xi_eq (tgt := 26) hx hb dX12_ahead_13 (by decide) hf (fun hf => ?_) (fun hf => ?_)
  · refine lv_iconst (v := -1) hx hb dX12_ahead_26 rfl ?_
    have he := Option.some.inj hf
    obtain ⟨e_r, he⟩ := Prod.mk.inj he
    have e_v0 := he
    refine rt_I hx hb hr hlocks hK hP hD hS hQ e_r ?_ dX12_ahead_27
    simp only [← e_v0]
  · refine lv_iload_n hx hb dX12_ahead_16 rfl (lv_at hl 2 rfl) ?_
    refine lv_iconst (v := 0) hx hb dX12_ahead_17 rfl ?_
    refine lv_bipush (v := 28) hx hb dX12_ahead_18 rfl ?_
    obtain ⟨r_2, hc2, hf⟩ := bnd1_el hf
    refine xS_I (As := [.int p2, .int (0 : Int32), .int (28 : Int32)]) (wx := [(a0, .inr (12, [.int (0 : Int32), .ref a1, .ref a2, .ref a3, .int v0.2.2.2.2.1, .int v0.2.2.2.2.2.1, .int v0.2.2.2.2.2.2.1, .int v0.2.2.2.2.2.2.2.1, .int v0.2.2.2.2.2.2.2.2.1, .long v0.2.2.2.2.2.2.2.2.2.1, .int v0.2.2.2.2.2.2.2.2.2.2.1, .int v0.2.2.2.2.2.2.2.2.2.2.2.1, .int v0.2.2.2.2.2.2.2.2.2.2.2.2.1, .ref a4, .int v0.2.2.2.2.2.2.2.2.2.2.2.2.2.2.1, .int v0.2.2.2.2.2.2.2.2.2.2.2.2.2.2.2.1, .int v0.2.2.2.2.2.2.2.2.2.2.2.2.2.2.2.2.1, .int v0.2.2.2.2.2.2.2.2.2.2.2.2.2.2.2.2.2.1, .int v0.2.2.2.2.2.2.2.2.2.2.2.2.2.2.2.2.2.2.1, .long v0.2.2.2.2.2.2.2.2.2.2.2.2.2.2.2.2.2.2.2.1, .long v0.2.2.2.2.2.2.2.2.2.2.2.2.2.2.2.2.2.2.2.2.1, .ref a5])), (a1, .inl (ca 0, 4725, .inl v0.2.1)), (a2, .inl (ca 2, 1500, .inl v0.2.2.1)), (a3, .inl (ca 3, 3, .inl v0.2.2.2.1)), (a4, .inl (ca 0, 22, .inl v0.2.2.2.2.2.2.2.2.2.2.2.2.2.1)), (a5, .inl (ca 0, 256, .inl v0.2.2.2.2.2.2.2.2.2.2.2.2.2.2.2.2.2.2.2.2.2))]) ⟨hx, hb, hml, hown, hts⟩ (c_X12_in l D ca zz  _ p2 (0 : Int32) (28 : Int32) r_2 hc2) (va_cwS 3 hts (gS gw_5_204 gw_5_205 gw_1_15 gw_5_206) rfl rfl rfl (by decide +kernel) ⟨(Nat.le_of_ble_eq_true rfl), (Nat.le_of_ble_eq_true rfl)⟩) hK hN hZ hA hP hD hS [] [none, none, none, none, none, none] (by decide +kernel) rfl rfl rfl rfl hl.1 rfl (Nat.le_of_ble_eq_true rfl) dX12_ahead_20 ⟨Nat.zero_le _, Nat.zero_le _⟩ rfl (fun H locs hP hD hS => ?_)
    refine xi_ne (tgt := 28) hx hb dX12_ahead_23 (by decide) hf (fun hf => ?_) (fun hf => ?_)
    · refine lv_aload_n hx hb dX12_ahead_28 rfl (lv_at hl 0 rfl) ?_
      refine lv_iconst (v := 0) hx hb dX12_ahead_29 rfl ?_
      refine lv_iconst (v := 4) hx hb dX12_ahead_30 rfl ?_
      obtain ⟨u_3, hc3, hf⟩ := bnd1_el hf
      have hMhc3 := fun sz => c_X12_copies l D ca zz a0 a1 a2 a3 a4 a5 sz (((0 : Int32), v0.2)) (0 : Int32) (4 : Int32) u_3 hc3
      dsimp only at hMhc3
      refine xV_V (As := [.int (0 : Int32), .int (4 : Int32)]) (wx := [(a0, .inr (12, [.int u_3.1, .ref a1, .ref a2, .ref a3, .int u_3.2.2.2.2.1, .int u_3.2.2.2.2.2.1, .int u_3.2.2.2.2.2.2.1, .int u_3.2.2.2.2.2.2.2.1, .int u_3.2.2.2.2.2.2.2.2.1, .long u_3.2.2.2.2.2.2.2.2.2.1, .int u_3.2.2.2.2.2.2.2.2.2.2.1, .int u_3.2.2.2.2.2.2.2.2.2.2.2.1, .int u_3.2.2.2.2.2.2.2.2.2.2.2.2.1, .ref a4, .int u_3.2.2.2.2.2.2.2.2.2.2.2.2.2.2.1, .int u_3.2.2.2.2.2.2.2.2.2.2.2.2.2.2.2.1, .int u_3.2.2.2.2.2.2.2.2.2.2.2.2.2.2.2.2.1, .int u_3.2.2.2.2.2.2.2.2.2.2.2.2.2.2.2.2.2.1, .int u_3.2.2.2.2.2.2.2.2.2.2.2.2.2.2.2.2.2.2.1, .long u_3.2.2.2.2.2.2.2.2.2.2.2.2.2.2.2.2.2.2.2.1, .long u_3.2.2.2.2.2.2.2.2.2.2.2.2.2.2.2.2.2.2.2.2.1, .ref a5])), (a1, .inl (ca 0, 4725, .inl u_3.2.1)), (a2, .inl (ca 2, 1500, .inl u_3.2.2.1)), (a3, .inl (ca 3, 3, .inl u_3.2.2.2.1)), (a4, .inl (ca 0, 22, .inl u_3.2.2.2.2.2.2.2.2.2.2.2.2.2.1)), (a5, .inl (ca 0, 256, .inl u_3.2.2.2.2.2.2.2.2.2.2.2.2.2.2.2.2.2.2.2.2.2))]) ⟨hx, hb, hml, hown, hts⟩ (hMhc3 _) (cwV 2 hts (gV gw_7_29 gw_7_31 gw_s_5_9 gw_1_15 gw_7_32) rfl rfl rfl (by decide +kernel) ⟨(Nat.le_of_ble_eq_true rfl), (Nat.le_of_ble_eq_true rfl)⟩) hK hN hZ hA hP hD hS [0, 1, 2, 3, 4, 5] [some 0, some 1, some 2, some 3, some 4, some 5] (by decide +kernel) rfl rfl rfl rfl 0 rfl rfl hl.1 rfl (Nat.le_of_ble_eq_true rfl) dX12_ahead_31 ⟨Nat.zero_le _, Nat.zero_le _⟩ rfl (fun H locs hP hD hS => ?_)
      refine lv_aload_n hx hb dX12_ahead_34 rfl (lv_at hl 0 rfl) ?_
      refine lv_iload_n hx hb dX12_ahead_35 rfl (lv_at hl 1 rfl) ?_
      obtain ⟨r_4, u_5, hc5, hf⟩ := bnd2_el hf
      refine xV_I (As := [.int p1]) (wx := [(a0, .inr (12, [.int u_5.1, .ref a1, .ref a2, .ref a3, .int u_5.2.2.2.2.1, .int u_5.2.2.2.2.2.1, .int u_5.2.2.2.2.2.2.1, .int u_5.2.2.2.2.2.2.2.1, .int u_5.2.2.2.2.2.2.2.2.1, .long u_5.2.2.2.2.2.2.2.2.2.1, .int u_5.2.2.2.2.2.2.2.2.2.2.1, .int u_5.2.2.2.2.2.2.2.2.2.2.2.1, .int u_5.2.2.2.2.2.2.2.2.2.2.2.2.1, .ref a4, .int u_5.2.2.2.2.2.2.2.2.2.2.2.2.2.2.1, .int u_5.2.2.2.2.2.2.2.2.2.2.2.2.2.2.2.1, .int u_5.2.2.2.2.2.2.2.2.2.2.2.2.2.2.2.2.1, .int u_5.2.2.2.2.2.2.2.2.2.2.2.2.2.2.2.2.2.1, .int u_5.2.2.2.2.2.2.2.2.2.2.2.2.2.2.2.2.2.2.1, .long u_5.2.2.2.2.2.2.2.2.2.2.2.2.2.2.2.2.2.2.2.1, .long u_5.2.2.2.2.2.2.2.2.2.2.2.2.2.2.2.2.2.2.2.2.1, .ref a5])), (a1, .inl (ca 0, 4725, .inl u_5.2.1)), (a2, .inl (ca 2, 1500, .inl u_5.2.2.1)), (a3, .inl (ca 3, 3, .inl u_5.2.2.2.1)), (a4, .inl (ca 0, 22, .inl u_5.2.2.2.2.2.2.2.2.2.2.2.2.2.1)), (a5, .inl (ca 0, 256, .inl u_5.2.2.2.2.2.2.2.2.2.2.2.2.2.2.2.2.2.2.2.2.2))]) ⟨hx, hb, hml, hown, hts⟩ (c_X12_draws l D ca zz a0 a1 a2 a3 a4 a5 _ u_3 p1 r_4 u_5 hc5) (cwV 1 hts (gV gw_6_90 gw_6_92 gw_s_3_14 gw_1_15 gw_6_93) rfl rfl rfl (by decide +kernel) ⟨(Nat.le_of_ble_eq_true rfl), (Nat.le_of_ble_eq_true rfl)⟩) hK hN hZ hA hP hD hS [0, 1, 2, 3, 4, 5] [some 0, some 1, some 2, some 3, some 4, some 5] (by decide +kernel) rfl rfl rfl rfl 0 rfl rfl hl.1 rfl (Nat.le_of_ble_eq_true rfl) dX12_ahead_36 ⟨Nat.zero_le _, Nat.zero_le _⟩ rfl (fun H locs hP hD hS => ?_)
      refine lv_istore_n (lv' := [(3, .int r_4), (0, .ref a0), (1, .int p1), (2, .int p2)]) hx hb dX12_ahead_39 rfl hl (Nat.le_of_ble_eq_true rfl) rfl (fun ls hl => ?_)
      refine lv_aload_n hx hb dX12_ahead_40 rfl (lv_at hl 1 rfl) ?_
      refine lv_aload_n hx hb dX12_ahead_41 rfl (lv_at hl 1 rfl) ?_
      refine lv_iload_n hx hb dX12_ahead_42 rfl (lv_at hl 3 rfl) ?_
      obtain ⟨r_6, hc6, hf⟩ := bnd1_el hf
      refine xV_I (As := [.int p2]) (wx := [(a0, .inr (12, [.int u_5.1, .ref a1, .ref a2, .ref a3, .int u_5.2.2.2.2.1, .int u_5.2.2.2.2.2.1, .int u_5.2.2.2.2.2.2.1, .int u_5.2.2.2.2.2.2.2.1, .int u_5.2.2.2.2.2.2.2.2.1, .long u_5.2.2.2.2.2.2.2.2.2.1, .int u_5.2.2.2.2.2.2.2.2.2.2.1, .int u_5.2.2.2.2.2.2.2.2.2.2.2.1, .int u_5.2.2.2.2.2.2.2.2.2.2.2.2.1, .ref a4, .int u_5.2.2.2.2.2.2.2.2.2.2.2.2.2.2.1, .int u_5.2.2.2.2.2.2.2.2.2.2.2.2.2.2.2.1, .int u_5.2.2.2.2.2.2.2.2.2.2.2.2.2.2.2.2.1, .int u_5.2.2.2.2.2.2.2.2.2.2.2.2.2.2.2.2.2.1, .int u_5.2.2.2.2.2.2.2.2.2.2.2.2.2.2.2.2.2.2.1, .long u_5.2.2.2.2.2.2.2.2.2.2.2.2.2.2.2.2.2.2.2.1, .long u_5.2.2.2.2.2.2.2.2.2.2.2.2.2.2.2.2.2.2.2.2.1, .ref a5])), (a1, .inl (ca 0, 4725, .inl u_5.2.1)), (a2, .inl (ca 2, 1500, .inl u_5.2.2.1)), (a3, .inl (ca 3, 3, .inl u_5.2.2.2.1)), (a4, .inl (ca 0, 22, .inl u_5.2.2.2.2.2.2.2.2.2.2.2.2.2.1)), (a5, .inl (ca 0, 256, .inl u_5.2.2.2.2.2.2.2.2.2.2.2.2.2.2.2.2.2.2.2.2.2))]) ⟨hx, hb, hml, hown, hts⟩ (c_X12_counted l D ca zz a0 a1 a2 a3 a4 a5 _ u_5 p2 r_6 hc6) (cwV 1 hts (gV gw_6_144 gw_6_146 gw_s_4_8 gw_1_15 gw_6_147) rfl rfl rfl (by decide +kernel) ⟨(Nat.le_of_ble_eq_true rfl), (Nat.le_of_ble_eq_true rfl)⟩) hK hN hZ hA hP hD hS [0, 1] [some 0, some 1, none, none, none, none] (by decide +kernel) rfl rfl rfl rfl 0 rfl rfl hl.1 rfl (Nat.le_of_ble_eq_true rfl) dX12_ahead_43 ⟨Nat.zero_le _, Nat.zero_le _⟩ rfl (fun H locs hP hD hS => ?_)
      obtain ⟨r_7, u_8, hc8, hf⟩ := bnd2_el hf
      refine xV_I (As := [.int r_6]) (wx := [(a0, .inr (12, [.int u_8.1, .ref a1, .ref a2, .ref a3, .int u_8.2.2.2.2.1, .int u_8.2.2.2.2.2.1, .int u_8.2.2.2.2.2.2.1, .int u_8.2.2.2.2.2.2.2.1, .int u_8.2.2.2.2.2.2.2.2.1, .long u_8.2.2.2.2.2.2.2.2.2.1, .int u_8.2.2.2.2.2.2.2.2.2.2.1, .int u_8.2.2.2.2.2.2.2.2.2.2.2.1, .int u_8.2.2.2.2.2.2.2.2.2.2.2.2.1, .ref a4, .int u_8.2.2.2.2.2.2.2.2.2.2.2.2.2.2.1, .int u_8.2.2.2.2.2.2.2.2.2.2.2.2.2.2.2.1, .int u_8.2.2.2.2.2.2.2.2.2.2.2.2.2.2.2.2.1, .int u_8.2.2.2.2.2.2.2.2.2.2.2.2.2.2.2.2.2.1, .int u_8.2.2.2.2.2.2.2.2.2.2.2.2.2.2.2.2.2.2.1, .long u_8.2.2.2.2.2.2.2.2.2.2.2.2.2.2.2.2.2.2.2.1, .long u_8.2.2.2.2.2.2.2.2.2.2.2.2.2.2.2.2.2.2.2.2.1, .ref a5])), (a1, .inl (ca 0, 4725, .inl u_8.2.1)), (a2, .inl (ca 2, 1500, .inl u_8.2.2.1)), (a3, .inl (ca 3, 3, .inl u_8.2.2.2.1)), (a4, .inl (ca 0, 22, .inl u_8.2.2.2.2.2.2.2.2.2.2.2.2.2.1)), (a5, .inl (ca 0, 256, .inl u_8.2.2.2.2.2.2.2.2.2.2.2.2.2.2.2.2.2.2.2.2.2))]) ⟨hx, hb, hml, hown, hts⟩ (c_X12_back l D ca zz a0 a1 a2 a3 a4 a5 _ u_5 r_6 r_7 u_8 hc8) (cwV 1 hts (gV gw_7_33 gw_7_35 gw_s_5_10 gw_1_15 gw_7_36) rfl rfl rfl (by decide +kernel) ⟨(Nat.le_of_ble_eq_true rfl), (Nat.le_of_ble_eq_true rfl)⟩) hK hN hZ hA hP hD hS [0, 1, 2, 3, 4, 5] [some 0, some 1, some 2, some 3, some 4, some 5] (by decide +kernel) rfl rfl rfl rfl 0 rfl rfl hl.1 rfl (Nat.le_of_ble_eq_true rfl) dX12_ahead_46 ⟨Nat.zero_le _, Nat.zero_le _⟩ rfl (fun H locs hP hD hS => ?_)
      have he := Option.some.inj hf
      obtain ⟨e_r, he⟩ := Prod.mk.inj he
      have e_v0 := he
      refine rt_I hx hb hr hlocks hK hP hD hS hQ e_r ?_ dX12_ahead_49
      simp only [← e_v0]
    · refine lv_iconst (v := -1) hx hb dX12_ahead_26 rfl ?_
      have he := Option.some.inj hf
      obtain ⟨e_r, he⟩ := Prod.mk.inj he
      have e_v0 := he
      refine rt_I hx hb hr hlocks hK hP hD hS hQ e_r ?_ dX12_ahead_27
      simp only [← e_v0]
end mp_14_cM17
section mp_14_cM18
abbrev wq_X12_quiet : List Cond := Cond.code yX12_quiet cX12_quiet 3 (some .int) :: GL
set_option maxHeartbeats 4000000 in
set_option maxRecDepth 100000 in
theorem c_X12_quiet (l : Launch) (D : va_G) (ca : Nat → ClassId) (zz : Nat → Nat) (a0 a1 a2 a3 a4 a5 : Nat) (sz : Nat) (v0 : V12) (r : Int32) (v0' : V12) (hf : f_X12_quiet v0 = some (r, v0')) : Met l yX12_quiet wq_X12_quiet ({ frames := 5, cells := 0, slots := 0, locals := 114 } : Room) (PR D ca zz [.ref a0] sz [(a0, .inr (12, [.int v0.1, .ref a1, .ref a2, .ref a3, .int v0.2.2.2.2.1, .int v0.2.2.2.2.2.1, .int v0.2.2.2.2.2.2.1, .int v0.2.2.2.2.2.2.2.1, .int v0.2.2.2.2.2.2.2.2.1, .long v0.2.2.2.2.2.2.2.2.2.1, .int v0.2.2.2.2.2.2.2.2.2.2.1, .int v0.2.2.2.2.2.2.2.2.2.2.2.1, .int v0.2.2.2.2.2.2.2.2.2.2.2.2.1, .ref a4, .int v0.2.2.2.2.2.2.2.2.2.2.2.2.2.2.1, .int v0.2.2.2.2.2.2.2.2.2.2.2.2.2.2.2.1, .int v0.2.2.2.2.2.2.2.2.2.2.2.2.2.2.2.2.1, .int v0.2.2.2.2.2.2.2.2.2.2.2.2.2.2.2.2.2.1, .int v0.2.2.2.2.2.2.2.2.2.2.2.2.2.2.2.2.2.2.1, .long v0.2.2.2.2.2.2.2.2.2.2.2.2.2.2.2.2.2.2.2.1, .long v0.2.2.2.2.2.2.2.2.2.2.2.2.2.2.2.2.2.2.2.2.1, .ref a5])), (a1, .inl (ca 0, 4725, .inl v0.2.1)), (a2, .inl (ca 2, 1500, .inl v0.2.2.1)), (a3, .inl (ca 3, 3, .inl v0.2.2.2.1)), (a4, .inl (ca 0, 22, .inl v0.2.2.2.2.2.2.2.2.2.2.2.2.2.1)), (a5, .inl (ca 0, 256, .inl v0.2.2.2.2.2.2.2.2.2.2.2.2.2.2.2.2.2.2.2.2.2))]) (QI D ca r [(a0, .inr (12, [.int v0'.1, .ref a1, .ref a2, .ref a3, .int v0'.2.2.2.2.1, .int v0'.2.2.2.2.2.1, .int v0'.2.2.2.2.2.2.1, .int v0'.2.2.2.2.2.2.2.1, .int v0'.2.2.2.2.2.2.2.2.1, .long v0'.2.2.2.2.2.2.2.2.2.1, .int v0'.2.2.2.2.2.2.2.2.2.2.1, .int v0'.2.2.2.2.2.2.2.2.2.2.2.1, .int v0'.2.2.2.2.2.2.2.2.2.2.2.2.1, .ref a4, .int v0'.2.2.2.2.2.2.2.2.2.2.2.2.2.2.1, .int v0'.2.2.2.2.2.2.2.2.2.2.2.2.2.2.2.1, .int v0'.2.2.2.2.2.2.2.2.2.2.2.2.2.2.2.2.1, .int v0'.2.2.2.2.2.2.2.2.2.2.2.2.2.2.2.2.2.1, .int v0'.2.2.2.2.2.2.2.2.2.2.2.2.2.2.2.2.2.2.1, .long v0'.2.2.2.2.2.2.2.2.2.2.2.2.2.2.2.2.2.2.2.1, .long v0'.2.2.2.2.2.2.2.2.2.2.2.2.2.2.2.2.2.2.2.2.1, .ref a5])), (a1, .inl (ca 0, 4725, .inl v0'.2.1)), (a2, .inl (ca 2, 1500, .inl v0'.2.2.1)), (a3, .inl (ca 3, 3, .inl v0'.2.2.2.1)), (a4, .inl (ca 0, 22, .inl v0'.2.2.2.2.2.2.2.2.2.2.2.2.2.1)), (a5, .inl (ca 0, 256, .inl v0'.2.2.2.2.2.2.2.2.2.2.2.2.2.2.2.2.2.2.2.2.2))] (va_A [(a0, .inr (12, [.int v0.1, .ref a1, .ref a2, .ref a3, .int v0.2.2.2.2.1, .int v0.2.2.2.2.2.1, .int v0.2.2.2.2.2.2.1, .int v0.2.2.2.2.2.2.2.1, .int v0.2.2.2.2.2.2.2.2.1, .long v0.2.2.2.2.2.2.2.2.2.1, .int v0.2.2.2.2.2.2.2.2.2.2.1, .int v0.2.2.2.2.2.2.2.2.2.2.2.1, .int v0.2.2.2.2.2.2.2.2.2.2.2.2.1, .ref a4, .int v0.2.2.2.2.2.2.2.2.2.2.2.2.2.2.1, .int v0.2.2.2.2.2.2.2.2.2.2.2.2.2.2.2.1, .int v0.2.2.2.2.2.2.2.2.2.2.2.2.2.2.2.2.1, .int v0.2.2.2.2.2.2.2.2.2.2.2.2.2.2.2.2.2.1, .int v0.2.2.2.2.2.2.2.2.2.2.2.2.2.2.2.2.2.2.1, .long v0.2.2.2.2.2.2.2.2.2.2.2.2.2.2.2.2.2.2.2.1, .long v0.2.2.2.2.2.2.2.2.2.2.2.2.2.2.2.2.2.2.2.2.1, .ref a5])), (a1, .inl (ca 0, 4725, .inl v0.2.1)), (a2, .inl (ca 2, 1500, .inl v0.2.2.1)), (a3, .inl (ca 3, 3, .inl v0.2.2.2.1)), (a4, .inl (ca 0, 22, .inl v0.2.2.2.2.2.2.2.2.2.2.2.2.2.1)), (a5, .inl (ca 0, 256, .inl v0.2.2.2.2.2.2.2.2.2.2.2.2.2.2.2.2.2.2.2.2.2))] sz)) 0 0 (va_A [(a0, .inr (12, [.int v0.1, .ref a1, .ref a2, .ref a3, .int v0.2.2.2.2.1, .int v0.2.2.2.2.2.1, .int v0.2.2.2.2.2.2.1, .int v0.2.2.2.2.2.2.2.1, .int v0.2.2.2.2.2.2.2.2.1, .long v0.2.2.2.2.2.2.2.2.2.1, .int v0.2.2.2.2.2.2.2.2.2.2.1, .int v0.2.2.2.2.2.2.2.2.2.2.2.1, .int v0.2.2.2.2.2.2.2.2.2.2.2.2.1, .ref a4, .int v0.2.2.2.2.2.2.2.2.2.2.2.2.2.2.1, .int v0.2.2.2.2.2.2.2.2.2.2.2.2.2.2.2.1, .int v0.2.2.2.2.2.2.2.2.2.2.2.2.2.2.2.2.1, .int v0.2.2.2.2.2.2.2.2.2.2.2.2.2.2.2.2.2.1, .int v0.2.2.2.2.2.2.2.2.2.2.2.2.2.2.2.2.2.2.1, .long v0.2.2.2.2.2.2.2.2.2.2.2.2.2.2.2.2.2.2.2.1, .long v0.2.2.2.2.2.2.2.2.2.2.2.2.2.2.2.2.2.2.2.2.1, .ref a5])), (a1, .inl (ca 0, 4725, .inl v0.2.1)), (a2, .inl (ca 2, 1500, .inl v0.2.2.1)), (a3, .inl (ca 3, 3, .inl v0.2.2.2.1)), (a4, .inl (ca 0, 22, .inl v0.2.2.2.2.2.2.2.2.2.2.2.2.2.1)), (a5, .inl (ca 0, 256, .inl v0.2.2.2.2.2.2.2.2.2.2.2.2.2.2.2.2.2.2.2.2.2))] sz) := by
  refine en (y := yX12_quiet) (wsm := wq_X12_quiet) (av := [.ref a0]) (cc := cX12_quiet) (maxL := 3) (ret := (some .int)) (Qf := fun A => (QI D ca r [(a0, .inr (12, [.int v0'.1, .ref a1, .ref a2, .ref a3, .int v0'.2.2.2.2.1, .int v0'.2.2.2.2.2.1, .int v0'.2.2.2.2.2.2.1, .int v0'.2.2.2.2.2.2.2.1, .int v0'.2.2.2.2.2.2.2.2.1, .long v0'.2.2.2.2.2.2.2.2.2.1, .int v0'.2.2.2.2.2.2.2.2.2.2.1, .int v0'.2.2.2.2.2.2.2.2.2.2.2.1, .int v0'.2.2.2.2.2.2.2.2.2.2.2.2.1, .ref a4, .int v0'.2.2.2.2.2.2.2.2.2.2.2.2.2.2.1, .int v0'.2.2.2.2.2.2.2.2.2.2.2.2.2.2.2.1, .int v0'.2.2.2.2.2.2.2.2.2.2.2.2.2.2.2.2.1, .int v0'.2.2.2.2.2.2.2.2.2.2.2.2.2.2.2.2.2.1, .int v0'.2.2.2.2.2.2.2.2.2.2.2.2.2.2.2.2.2.2.1, .long v0'.2.2.2.2.2.2.2.2.2.2.2.2.2.2.2.2.2.2.2.1, .long v0'.2.2.2.2.2.2.2.2.2.2.2.2.2.2.2.2.2.2.2.2.1, .ref a5])), (a1, .inl (ca 0, 4725, .inl v0'.2.1)), (a2, .inl (ca 2, 1500, .inl v0'.2.2.1)), (a3, .inl (ca 3, 3, .inl v0'.2.2.2.1)), (a4, .inl (ca 0, 22, .inl v0'.2.2.2.2.2.2.2.2.2.2.2.2.2.1)), (a5, .inl (ca 0, 256, .inl v0'.2.2.2.2.2.2.2.2.2.2.2.2.2.2.2.2.2.2.2.2.2))] A)) (by decide) rfl (Nat.le_of_ble_eq_true rfl) ?_
  intro p e s m args below meth c A Q ls hx hb hr hml hown hts hlocks hnm hA hN hZ hK hQ hP hD hS hl
  have w0 := hts _ (List.mem_cons_of_mem _ gw_5_115)
  have w1 := hts _ (List.mem_cons_of_mem _ gw_5_116)
  have i12 : ∀ w ∈ u_ws RX12 TX12 22, w ∈ wq_X12_quiet := fun w h => List.mem_cons_of_mem _ (inX12 w h)
  have b72 : ∀ (v0 : V12) (t0 : Int32), fc_X12_quiet_72 v0 t0 = some (r, v0') → ∀ (H : Heap) (locs : List Loc) (ls : Array Slot), va_P D vwCl [(a0, .inr (12, [.int v0.1, .ref a1, .ref a2, .ref a3, .int v0.2.2.2.2.1, .int v0.2.2.2.2.2.1, .int v0.2.2.2.2.2.2.1, .int v0.2.2.2.2.2.2.2.1, .int v0.2.2.2.2.2.2.2.2.1, .long v0.2.2.2.2.2.2.2.2.2.1, .int v0.2.2.2.2.2.2.2.2.2.2.1, .int v0.2.2.2.2.2.2.2.2.2.2.2.1, .int v0.2.2.2.2.2.2.2.2.2.2.2.2.1, .ref a4, .int v0.2.2.2.2.2.2.2.2.2.2.2.2.2.2.1, .int v0.2.2.2.2.2.2.2.2.2.2.2.2.2.2.2.1, .int v0.2.2.2.2.2.2.2.2.2.2.2.2.2.2.2.2.1, .int v0.2.2.2.2.2.2.2.2.2.2.2.2.2.2.2.2.2.1, .int v0.2.2.2.2.2.2.2.2.2.2.2.2.2.2.2.2.2.2.1, .long v0.2.2.2.2.2.2.2.2.2.2.2.2.2.2.2.2.2.2.2.1, .long v0.2.2.2.2.2.2.2.2.2.2.2.2.2.2.2.2.2.2.2.2.1, .ref a5])), (a1, .inl (ca 0, 4725, .inl v0.2.1)), (a2, .inl (ca 2, 1500, .inl v0.2.2.1)), (a3, .inl (ca 3, 3, .inl v0.2.2.2.1)), (a4, .inl (ca 0, 22, .inl v0.2.2.2.2.2.2.2.2.2.2.2.2.2.1)), (a5, .inl (ca 0, 256, .inl v0.2.2.2.2.2.2.2.2.2.2.2.2.2.2.2.2.2.2.2.2.2))] H → va_D A [(a0, .inr (12, [.int v0.1, .ref a1, .ref a2, .ref a3, .int v0.2.2.2.2.1, .int v0.2.2.2.2.2.1, .int v0.2.2.2.2.2.2.1, .int v0.2.2.2.2.2.2.2.1, .int v0.2.2.2.2.2.2.2.2.1, .long v0.2.2.2.2.2.2.2.2.2.1, .int v0.2.2.2.2.2.2.2.2.2.2.1, .int v0.2.2.2.2.2.2.2.2.2.2.2.1, .int v0.2.2.2.2.2.2.2.2.2.2.2.2.1, .ref a4, .int v0.2.2.2.2.2.2.2.2.2.2.2.2.2.2.1, .int v0.2.2.2.2.2.2.2.2.2.2.2.2.2.2.2.1, .int v0.2.2.2.2.2.2.2.2.2.2.2.2.2.2.2.2.1, .int v0.2.2.2.2.2.2.2.2.2.2.2.2.2.2.2.2.2.1, .int v0.2.2.2.2.2.2.2.2.2.2.2.2.2.2.2.2.2.2.1, .long v0.2.2.2.2.2.2.2.2.2.2.2.2.2.2.2.2.2.2.2.1, .long v0.2.2.2.2.2.2.2.2.2.2.2.2.2.2.2.2.2.2.2.2.1, .ref a5])), (a1, .inl (ca 0, 4725, .inl v0.2.1)), (a2, .inl (ca 2, 1500, .inl v0.2.2.1)), (a3, .inl (ca 3, 3, .inl v0.2.2.2.1)), (a4, .inl (ca 0, 22, .inl v0.2.2.2.2.2.2.2.2.2.2.2.2.2.1)), (a5, .inl (ca 0, 256, .inl v0.2.2.2.2.2.2.2.2.2.2.2.2.2.2.2.2.2.2.2.2.2))] → va_S A s.heap H locs → lv_has ls 3 [] → W p l e ({ frames := 5, cells := 0, slots := 0, locals := 114 } : Room) s m args below meth c H locs 0 0 Q (F0 m 72 ls [.int t0, .ref a0]) := by
    intro v0 t0 hf H locs ls hP hD hS hl
    unfold fc_X12_quiet_72 at hf
    obtain ⟨r_2, u_3, hc3, hf⟩ := bnd2_el hf
    refine xV_I (As := [.int t0]) (wx := [(a0, .inr (12, [.int u_3.1, .ref a1, .ref a2, .ref a3, .int u_3.2.2.2.2.1, .int u_3.2.2.2.2.2.1, .int u_3.2.2.2.2.2.2.1, .int u_3.2.2.2.2.2.2.2.1, .int u_3.2.2.2.2.2.2.2.2.1, .long u_3.2.2.2.2.2.2.2.2.2.1, .int u_3.2.2.2.2.2.2.2.2.2.2.1, .int u_3.2.2.2.2.2.2.2.2.2.2.2.1, .int u_3.2.2.2.2.2.2.2.2.2.2.2.2.1, .ref a4, .int u_3.2.2.2.2.2.2.2.2.2.2.2.2.2.2.1, .int u_3.2.2.2.2.2.2.2.2.2.2.2.2.2.2.2.1, .int u_3.2.2.2.2.2.2.2.2.2.2.2.2.2.2.2.2.1, .int u_3.2.2.2.2.2.2.2.2.2.2.2.2.2.2.2.2.2.1, .int u_3.2.2.2.2.2.2.2.2.2.2.2.2.2.2.2.2.2.2.1, .long u_3.2.2.2.2.2.2.2.2.2.2.2.2.2.2.2.2.2.2.2.1, .long u_3.2.2.2.2.2.2.2.2.2.2.2.2.2.2.2.2.2.2.2.2.1, .ref a5])), (a1, .inl (ca 0, 4725, .inl u_3.2.1)), (a2, .inl (ca 2, 1500, .inl u_3.2.2.1)), (a3, .inl (ca 3, 3, .inl u_3.2.2.2.1)), (a4, .inl (ca 0, 22, .inl u_3.2.2.2.2.2.2.2.2.2.2.2.2.2.1)), (a5, .inl (ca 0, 256, .inl u_3.2.2.2.2.2.2.2.2.2.2.2.2.2.2.2.2.2.2.2.2.2))]) ⟨hx, hb, hml, hown, hts⟩ (c_X12_back l D ca zz a0 a1 a2 a3 a4 a5 _ v0 t0 r_2 u_3 hc3) (cwV 1 hts (gV gw_7_33 gw_7_35 gw_s_5_10 gw_1_15 gw_7_36) rfl rfl rfl (by decide +kernel) ⟨(Nat.le_of_ble_eq_true rfl), (Nat.le_of_ble_eq_true rfl)⟩) hK hN hZ hA hP hD hS [0, 1, 2, 3, 4, 5] [some 0, some 1, some 2, some 3, some 4, some 5] (by decide +kernel) rfl rfl rfl rfl 0 rfl rfl hl.1 rfl (Nat.le_of_ble_eq_true rfl) dX12_quiet_72 ⟨Nat.zero_le _, Nat.zero_le _⟩ rfl (fun H locs hP hD hS => ?_)
    have he := Option.some.inj hf
    obtain ⟨e_r, he⟩ := Prod.mk.inj he
    have e_v0 := he
    refine rt_I hx hb hr hlocks hK hP hD hS hQ e_r ?_ dX12_quiet_75
    simp only [← e_v0]
  have b55 : ∀ (v0 : V12) (x1 : Int32), fc_X12_quiet_55 v0 x1 = some (r, v0') → ∀ (H : Heap) (locs : List Loc) (ls : Array Slot), va_P D vwCl [(a0, .inr (12, [.int v0.1, .ref a1, .ref a2, .ref a3, .int v0.2.2.2.2.1, .int v0.2.2.2.2.2.1, .int v0.2.2.2.2.2.2.1, .int v0.2.2.2.2.2.2.2.1, .int v0.2.2.2.2.2.2.2.2.1, .long v0.2.2.2.2.2.2.2.2.2.1, .int v0.2.2.2.2.2.2.2.2.2.2.1, .int v0.2.2.2.2.2.2.2.2.2.2.2.1, .int v0.2.2.2.2.2.2.2.2.2.2.2.2.1, .ref a4, .int v0.2.2.2.2.2.2.2.2.2.2.2.2.2.2.1, .int v0.2.2.2.2.2.2.2.2.2.2.2.2.2.2.2.1, .int v0.2.2.2.2.2.2.2.2.2.2.2.2.2.2.2.2.1, .int v0.2.2.2.2.2.2.2.2.2.2.2.2.2.2.2.2.2.1, .int v0.2.2.2.2.2.2.2.2.2.2.2.2.2.2.2.2.2.2.1, .long v0.2.2.2.2.2.2.2.2.2.2.2.2.2.2.2.2.2.2.2.1, .long v0.2.2.2.2.2.2.2.2.2.2.2.2.2.2.2.2.2.2.2.2.1, .ref a5])), (a1, .inl (ca 0, 4725, .inl v0.2.1)), (a2, .inl (ca 2, 1500, .inl v0.2.2.1)), (a3, .inl (ca 3, 3, .inl v0.2.2.2.1)), (a4, .inl (ca 0, 22, .inl v0.2.2.2.2.2.2.2.2.2.2.2.2.2.1)), (a5, .inl (ca 0, 256, .inl v0.2.2.2.2.2.2.2.2.2.2.2.2.2.2.2.2.2.2.2.2.2))] H → va_D A [(a0, .inr (12, [.int v0.1, .ref a1, .ref a2, .ref a3, .int v0.2.2.2.2.1, .int v0.2.2.2.2.2.1, .int v0.2.2.2.2.2.2.1, .int v0.2.2.2.2.2.2.2.1, .int v0.2.2.2.2.2.2.2.2.1, .long v0.2.2.2.2.2.2.2.2.2.1, .int v0.2.2.2.2.2.2.2.2.2.2.1, .int v0.2.2.2.2.2.2.2.2.2.2.2.1, .int v0.2.2.2.2.2.2.2.2.2.2.2.2.1, .ref a4, .int v0.2.2.2.2.2.2.2.2.2.2.2.2.2.2.1, .int v0.2.2.2.2.2.2.2.2.2.2.2.2.2.2.2.1, .int v0.2.2.2.2.2.2.2.2.2.2.2.2.2.2.2.2.1, .int v0.2.2.2.2.2.2.2.2.2.2.2.2.2.2.2.2.2.1, .int v0.2.2.2.2.2.2.2.2.2.2.2.2.2.2.2.2.2.2.1, .long v0.2.2.2.2.2.2.2.2.2.2.2.2.2.2.2.2.2.2.2.1, .long v0.2.2.2.2.2.2.2.2.2.2.2.2.2.2.2.2.2.2.2.2.1, .ref a5])), (a1, .inl (ca 0, 4725, .inl v0.2.1)), (a2, .inl (ca 2, 1500, .inl v0.2.2.1)), (a3, .inl (ca 3, 3, .inl v0.2.2.2.1)), (a4, .inl (ca 0, 22, .inl v0.2.2.2.2.2.2.2.2.2.2.2.2.2.1)), (a5, .inl (ca 0, 256, .inl v0.2.2.2.2.2.2.2.2.2.2.2.2.2.2.2.2.2.2.2.2.2))] → va_S A s.heap H locs → lv_has ls 3 [(0, .ref a0), (1, .int x1)] → W p l e ({ frames := 5, cells := 0, slots := 0, locals := 114 } : Room) s m args below meth c H locs 0 0 Q (F0 m 55 ls []) := by
    intro v0 x1 hf H locs ls hP hD hS hl
    unfold fc_X12_quiet_55 at hf
    refine lv_aload_n hx hb dX12_quiet_55 rfl (lv_at hl 0 rfl) ?_
    refine lv_aload_n hx hb dX12_quiet_56 rfl (lv_at hl 0 rfl) ?_
    refine va_get (C := RX12) (T := TX12) (N := 22) hx hb hts i12 hown hK hP 0 rfl rfl 1 (Nat.le_of_ble_eq_true rfl) w1 (fun _ h9 => h9) rfl dX12_quiet_57 ?_
    refine lv_bipush (v := 25) hx hb dX12_quiet_60 rfl ?_
    refine xiald hx hb hK hP 1 rfl hf dX12_quiet_62 (fun hf => ?_)
    refine lv_iconst (v := 3) hx hb dX12_quiet_63 rfl ?_
    refine xc_ne (tgt := 71) hx hb dX12_quiet_64 (by decide) hf (fun hf => ?_) (fun hf => ?_)
    · refine lv_iconst (v := -1) hx hb dX12_quiet_71 rfl ?_
      exact b72 v0 (-1 : Int32) hf _ _ _ hP hD hS (lv_sub hl [] rfl)
    · refine lv_iload_n hx hb dX12_quiet_67 rfl (lv_at hl 1 rfl) ?_
      refine lv_goto (tgt := 72) hx hb dX12_quiet_68 (by decide) ?_
      exact b72 v0 x1 hf _ _ _ hP hD hS (lv_sub hl [] rfl)
  have bl25 : ∀ (k25 : V12 → Int32 → Option (Int32 × V12)) (q25 : ∀ (v0 : V12) (x1 : Int32), k25 v0 x1 = some (r, v0') → ∀ (H : Heap) (locs : List Loc) (ls : Array Slot), va_P D vwCl [(a0, .inr (12, [.int v0.1, .ref a1, .ref a2, .ref a3, .int v0.2.2.2.2.1, .int v0.2.2.2.2.2.1, .int v0.2.2.2.2.2.2.1, .int v0.2.2.2.2.2.2.2.1, .int v0.2.2.2.2.2.2.2.2.1, .long v0.2.2.2.2.2.2.2.2.2.1, .int v0.2.2.2.2.2.2.2.2.2.2.1, .int v0.2.2.2.2.2.2.2.2.2.2.2.1, .int v0.2.2.2.2.2.2.2.2.2.2.2.2.1, .ref a4, .int v0.2.2.2.2.2.2.2.2.2.2.2.2.2.2.1, .int v0.2.2.2.2.2.2.2.2.2.2.2.2.2.2.2.1, .int v0.2.2.2.2.2.2.2.2.2.2.2.2.2.2.2.2.1, .int v0.2.2.2.2.2.2.2.2.2.2.2.2.2.2.2.2.2.1, .int v0.2.2.2.2.2.2.2.2.2.2.2.2.2.2.2.2.2.2.1, .long v0.2.2.2.2.2.2.2.2.2.2.2.2.2.2.2.2.2.2.2.1, .long v0.2.2.2.2.2.2.2.2.2.2.2.2.2.2.2.2.2.2.2.2.1, .ref a5])), (a1, .inl (ca 0, 4725, .inl v0.2.1)), (a2, .inl (ca 2, 1500, .inl v0.2.2.1)), (a3, .inl (ca 3, 3, .inl v0.2.2.2.1)), (a4, .inl (ca 0, 22, .inl v0.2.2.2.2.2.2.2.2.2.2.2.2.2.1)), (a5, .inl (ca 0, 256, .inl v0.2.2.2.2.2.2.2.2.2.2.2.2.2.2.2.2.2.2.2.2.2))] H → va_D A [(a0, .inr (12, [.int v0.1, .ref a1, .ref a2, .ref a3, .int v0.2.2.2.2.1, .int v0.2.2.2.2.2.1, .int v0.2.2.2.2.2.2.1, .int v0.2.2.2.2.2.2.2.1, .int v0.2.2.2.2.2.2.2.2.1, .long v0.2.2.2.2.2.2.2.2.2.1, .int v0.2.2.2.2.2.2.2.2.2.2.1, .int v0.2.2.2.2.2.2.2.2.2.2.2.1, .int v0.2.2.2.2.2.2.2.2.2.2.2.2.1, .ref a4, .int v0.2.2.2.2.2.2.2.2.2.2.2.2.2.2.1, .int v0.2.2.2.2.2.2.2.2.2.2.2.2.2.2.2.1, .int v0.2.2.2.2.2.2.2.2.2.2.2.2.2.2.2.2.1, .int v0.2.2.2.2.2.2.2.2.2.2.2.2.2.2.2.2.2.1, .int v0.2.2.2.2.2.2.2.2.2.2.2.2.2.2.2.2.2.2.1, .long v0.2.2.2.2.2.2.2.2.2.2.2.2.2.2.2.2.2.2.2.1, .long v0.2.2.2.2.2.2.2.2.2.2.2.2.2.2.2.2.2.2.2.2.1, .ref a5])), (a1, .inl (ca 0, 4725, .inl v0.2.1)), (a2, .inl (ca 2, 1500, .inl v0.2.2.1)), (a3, .inl (ca 3, 3, .inl v0.2.2.2.1)), (a4, .inl (ca 0, 22, .inl v0.2.2.2.2.2.2.2.2.2.2.2.2.2.1)), (a5, .inl (ca 0, 256, .inl v0.2.2.2.2.2.2.2.2.2.2.2.2.2.2.2.2.2.2.2.2.2))] → va_S A s.heap H locs → lv_has ls 3 [(0, .ref a0), (1, .int x1)] → W p l e ({ frames := 5, cells := 0, slots := 0, locals := 114 } : Room) s m args below meth c H locs 0 0 Q (F0 m 25 ls [])) (v0 : V12) (x1 : Int32), fl_X12_quiet_25 k25 v0 x1 = some (r, v0') → ∀ (H : Heap) (locs : List Loc) (ls : Array Slot), va_P D vwCl [(a0, .inr (12, [.int v0.1, .ref a1, .ref a2, .ref a3, .int v0.2.2.2.2.1, .int v0.2.2.2.2.2.1, .int v0.2.2.2.2.2.2.1, .int v0.2.2.2.2.2.2.2.1, .int v0.2.2.2.2.2.2.2.2.1, .long v0.2.2.2.2.2.2.2.2.2.1, .int v0.2.2.2.2.2.2.2.2.2.2.1, .int v0.2.2.2.2.2.2.2.2.2.2.2.1, .int v0.2.2.2.2.2.2.2.2.2.2.2.2.1, .ref a4, .int v0.2.2.2.2.2.2.2.2.2.2.2.2.2.2.1, .int v0.2.2.2.2.2.2.2.2.2.2.2.2.2.2.2.1, .int v0.2.2.2.2.2.2.2.2.2.2.2.2.2.2.2.2.1, .int v0.2.2.2.2.2.2.2.2.2.2.2.2.2.2.2.2.2.1, .int v0.2.2.2.2.2.2.2.2.2.2.2.2.2.2.2.2.2.2.1, .long v0.2.2.2.2.2.2.2.2.2.2.2.2.2.2.2.2.2.2.2.1, .long v0.2.2.2.2.2.2.2.2.2.2.2.2.2.2.2.2.2.2.2.2.1, .ref a5])), (a1, .inl (ca 0, 4725, .inl v0.2.1)), (a2, .inl (ca 2, 1500, .inl v0.2.2.1)), (a3, .inl (ca 3, 3, .inl v0.2.2.2.1)), (a4, .inl (ca 0, 22, .inl v0.2.2.2.2.2.2.2.2.2.2.2.2.2.1)), (a5, .inl (ca 0, 256, .inl v0.2.2.2.2.2.2.2.2.2.2.2.2.2.2.2.2.2.2.2.2.2))] H → va_D A [(a0, .inr (12, [.int v0.1, .ref a1, .ref a2, .ref a3, .int v0.2.2.2.2.1, .int v0.2.2.2.2.2.1, .int v0.2.2.2.2.2.2.1, .int v0.2.2.2.2.2.2.2.1, .int v0.2.2.2.2.2.2.2.2.1, .long v0.2.2.2.2.2.2.2.2.2.1, .int v0.2.2.2.2.2.2.2.2.2.2.1, .int v0.2.2.2.2.2.2.2.2.2.2.2.1, .int v0.2.2.2.2.2.2.2.2.2.2.2.2.1, .ref a4, .int v0.2.2.2.2.2.2.2.2.2.2.2.2.2.2.1, .int v0.2.2.2.2.2.2.2.2.2.2.2.2.2.2.2.1, .int v0.2.2.2.2.2.2.2.2.2.2.2.2.2.2.2.2.1, .int v0.2.2.2.2.2.2.2.2.2.2.2.2.2.2.2.2.2.1, .int v0.2.2.2.2.2.2.2.2.2.2.2.2.2.2.2.2.2.2.1, .long v0.2.2.2.2.2.2.2.2.2.2.2.2.2.2.2.2.2.2.2.1, .long v0.2.2.2.2.2.2.2.2.2.2.2.2.2.2.2.2.2.2.2.2.1, .ref a5])), (a1, .inl (ca 0, 4725, .inl v0.2.1)), (a2, .inl (ca 2, 1500, .inl v0.2.2.1)), (a3, .inl (ca 3, 3, .inl v0.2.2.2.1)), (a4, .inl (ca 0, 22, .inl v0.2.2.2.2.2.2.2.2.2.2.2.2.2.1)), (a5, .inl (ca 0, 256, .inl v0.2.2.2.2.2.2.2.2.2.2.2.2.2.2.2.2.2.2.2.2.2))] → va_S A s.heap H locs → lv_has ls 3 [(0, .ref a0), (1, .int x1)] → W p l e ({ frames := 5, cells := 0, slots := 0, locals := 114 } : Room) s m args below meth c H locs 0 0 Q (F0 m 25 ls []) := by
    intro k25 q25 v0 x1 hf H locs ls hP hD hS hl
    unfold fl_X12_quiet_25 at hf
    refine lv_iload_n hx hb dX12_quiet_25 rfl (lv_at hl 1 rfl) ?_
    refine lv_sipush (v := 400) hx hb dX12_quiet_26 rfl ?_
    refine xc_ge (tgt := 55) hx hb dX12_quiet_29 (by decide) hf (fun hf => ?_) (fun hf => ?_)
    · exact b55 v0 x1 hf _ _ _ hP hD hS (lv_sub hl [0, 1] rfl)
    · refine lv_aload_n hx hb dX12_quiet_32 rfl (lv_at hl 0 rfl) ?_
      refine va_get (C := RX12) (T := TX12) (N := 22) hx hb hts i12 hown hK hP 0 rfl rfl 1 (Nat.le_of_ble_eq_true rfl) w1 (fun _ h9 => h9) rfl dX12_quiet_33 ?_
      refine lv_bipush (v := 25) hx hb dX12_quiet_36 rfl ?_
      refine xiald hx hb hK hP 1 rfl hf dX12_quiet_38 (fun hf => ?_)
      refine lv_iconst (v := 3) hx hb dX12_quiet_39 rfl ?_
      refine xc_eq (tgt := 55) hx hb dX12_quiet_40 (by decide) hf (fun hf => ?_) (fun hf => ?_)
      · exact b55 v0 x1 hf _ _ _ hP hD hS (lv_sub hl [0, 1] rfl)
      · refine lv_aload_n hx hb dX12_quiet_43 rfl (lv_at hl 0 rfl) ?_
        refine lv_iconst (v := 1) hx hb dX12_quiet_44 rfl ?_
        obtain ⟨r_4, u_5, hc5, hf⟩ := bnd2_el hf
        refine xV_I (As := [.int (1 : Int32)]) (wx := [(a0, .inr (12, [.int u_5.1, .ref a1, .ref a2, .ref a3, .int u_5.2.2.2.2.1, .int u_5.2.2.2.2.2.1, .int u_5.2.2.2.2.2.2.1, .int u_5.2.2.2.2.2.2.2.1, .int u_5.2.2.2.2.2.2.2.2.1, .long u_5.2.2.2.2.2.2.2.2.2.1, .int u_5.2.2.2.2.2.2.2.2.2.2.1, .int u_5.2.2.2.2.2.2.2.2.2.2.2.1, .int u_5.2.2.2.2.2.2.2.2.2.2.2.2.1, .ref a4, .int u_5.2.2.2.2.2.2.2.2.2.2.2.2.2.2.1, .int u_5.2.2.2.2.2.2.2.2.2.2.2.2.2.2.2.1, .int u_5.2.2.2.2.2.2.2.2.2.2.2.2.2.2.2.2.1, .int u_5.2.2.2.2.2.2.2.2.2.2.2.2.2.2.2.2.2.1, .int u_5.2.2.2.2.2.2.2.2.2.2.2.2.2.2.2.2.2.2.1, .long u_5.2.2.2.2.2.2.2.2.2.2.2.2.2.2.2.2.2.2.2.1, .long u_5.2.2.2.2.2.2.2.2.2.2.2.2.2.2.2.2.2.2.2.2.1, .ref a5])), (a1, .inl (ca 0, 4725, .inl u_5.2.1)), (a2, .inl (ca 2, 1500, .inl u_5.2.2.1)), (a3, .inl (ca 3, 3, .inl u_5.2.2.2.1)), (a4, .inl (ca 0, 22, .inl u_5.2.2.2.2.2.2.2.2.2.2.2.2.2.1)), (a5, .inl (ca 0, 256, .inl u_5.2.2.2.2.2.2.2.2.2.2.2.2.2.2.2.2.2.2.2.2.2))]) ⟨hx, hb, hml, hown, hts⟩ (c_X12_draws l D ca zz a0 a1 a2 a3 a4 a5 _ v0 (1 : Int32) r_4 u_5 hc5) (cwV 1 hts (gV gw_6_90 gw_6_92 gw_s_3_14 gw_1_15 gw_6_93) rfl rfl rfl (by decide +kernel) ⟨(Nat.le_of_ble_eq_true rfl), (Nat.le_of_ble_eq_true rfl)⟩) hK hN hZ hA hP hD hS [0, 1, 2, 3, 4, 5] [some 0, some 1, some 2, some 3, some 4, some 5] (by decide +kernel) rfl rfl rfl rfl 0 rfl rfl hl.1 rfl (Nat.le_of_ble_eq_true rfl) dX12_quiet_45 ⟨Nat.zero_le _, Nat.zero_le _⟩ rfl (fun H locs hP hD hS => ?_)
        refine lv_istore_n (lv' := [(2, .int r_4), (0, .ref a0), (1, .int x1)]) hx hb dX12_quiet_48 rfl hl (Nat.le_of_ble_eq_true rfl) rfl (fun ls hl => ?_)
        obtain ⟨x_6, ex_6, hf⟩ := bnd_el hf
        refine lv_iinc (v := x_6) (lv' := [(1, .int x_6), (2, .int r_4), (0, .ref a0)]) hx hb dX12_quiet_49 hl (k := 2) rfl (by rw [ex_6]; rfl) (Nat.le_of_ble_eq_true rfl) rfl (fun ls hl => ?_)
        refine lv_goto (tgt := 25) hx hb dX12_quiet_52 (by decide) ?_
        exact q25 u_5 x_6 hf _ _ _ hP hD hS (lv_sub hl [2, 0] rfl)
  have b25 : ∀ (n : Nat) (v0 : V12) (x1 : Int32), fb_X12_quiet_25 n v0 x1 = some (r, v0') → ∀ (H : Heap) (locs : List Loc) (ls : Array Slot), va_P D vwCl [(a0, .inr (12, [.int v0.1, .ref a1, .ref a2, .ref a3, .int v0.2.2.2.2.1, .int v0.2.2.2.2.2.1, .int v0.2.2.2.2.2.2.1, .int v0.2.2.2.2.2.2.2.1, .int v0.2.2.2.2.2.2.2.2.1, .long v0.2.2.2.2.2.2.2.2.2.1, .int v0.2.2.2.2.2.2.2.2.2.2.1, .int v0.2.2.2.2.2.2.2.2.2.2.2.1, .int v0.2.2.2.2.2.2.2.2.2.2.2.2.1, .ref a4, .int v0.2.2.2.2.2.2.2.2.2.2.2.2.2.2.1, .int v0.2.2.2.2.2.2.2.2.2.2.2.2.2.2.2.1, .int v0.2.2.2.2.2.2.2.2.2.2.2.2.2.2.2.2.1, .int v0.2.2.2.2.2.2.2.2.2.2.2.2.2.2.2.2.2.1, .int v0.2.2.2.2.2.2.2.2.2.2.2.2.2.2.2.2.2.2.1, .long v0.2.2.2.2.2.2.2.2.2.2.2.2.2.2.2.2.2.2.2.1, .long v0.2.2.2.2.2.2.2.2.2.2.2.2.2.2.2.2.2.2.2.2.1, .ref a5])), (a1, .inl (ca 0, 4725, .inl v0.2.1)), (a2, .inl (ca 2, 1500, .inl v0.2.2.1)), (a3, .inl (ca 3, 3, .inl v0.2.2.2.1)), (a4, .inl (ca 0, 22, .inl v0.2.2.2.2.2.2.2.2.2.2.2.2.2.1)), (a5, .inl (ca 0, 256, .inl v0.2.2.2.2.2.2.2.2.2.2.2.2.2.2.2.2.2.2.2.2.2))] H → va_D A [(a0, .inr (12, [.int v0.1, .ref a1, .ref a2, .ref a3, .int v0.2.2.2.2.1, .int v0.2.2.2.2.2.1, .int v0.2.2.2.2.2.2.1, .int v0.2.2.2.2.2.2.2.1, .int v0.2.2.2.2.2.2.2.2.1, .long v0.2.2.2.2.2.2.2.2.2.1, .int v0.2.2.2.2.2.2.2.2.2.2.1, .int v0.2.2.2.2.2.2.2.2.2.2.2.1, .int v0.2.2.2.2.2.2.2.2.2.2.2.2.1, .ref a4, .int v0.2.2.2.2.2.2.2.2.2.2.2.2.2.2.1, .int v0.2.2.2.2.2.2.2.2.2.2.2.2.2.2.2.1, .int v0.2.2.2.2.2.2.2.2.2.2.2.2.2.2.2.2.1, .int v0.2.2.2.2.2.2.2.2.2.2.2.2.2.2.2.2.2.1, .int v0.2.2.2.2.2.2.2.2.2.2.2.2.2.2.2.2.2.2.1, .long v0.2.2.2.2.2.2.2.2.2.2.2.2.2.2.2.2.2.2.2.1, .long v0.2.2.2.2.2.2.2.2.2.2.2.2.2.2.2.2.2.2.2.2.1, .ref a5])), (a1, .inl (ca 0, 4725, .inl v0.2.1)), (a2, .inl (ca 2, 1500, .inl v0.2.2.1)), (a3, .inl (ca 3, 3, .inl v0.2.2.2.1)), (a4, .inl (ca 0, 22, .inl v0.2.2.2.2.2.2.2.2.2.2.2.2.2.1)), (a5, .inl (ca 0, 256, .inl v0.2.2.2.2.2.2.2.2.2.2.2.2.2.2.2.2.2.2.2.2.2))] → va_S A s.heap H locs → lv_has ls 3 [(0, .ref a0), (1, .int x1)] → W p l e ({ frames := 5, cells := 0, slots := 0, locals := 114 } : Room) s m args below meth c H locs 0 0 Q (F0 m 25 ls []) := by
    intro n
    induction n with
    | zero => intro v0 x1 hf; exact no_el hf
    | succ n ih => exact bl25 (fb_X12_quiet_25 n) ih
  unfold f_X12_quiet at hf
  refine lv_aload_n hx hb dX12_quiet_0 rfl (lv_at hl 0 rfl) ?_
  refine lv_iconst (v := 0) hx hb dX12_quiet_1 rfl ?_
  refine xput (C := RX12) (T := TX12) (N := 22) (wx := [(a0, .inr (12, [.int (0 : Int32), .ref a1, .ref a2, .ref a3, .int v0.2.2.2.2.1, .int v0.2.2.2.2.2.1, .int v0.2.2.2.2.2.2.1, .int v0.2.2.2.2.2.2.2.1, .int v0.2.2.2.2.2.2.2.2.1, .long v0.2.2.2.2.2.2.2.2.2.1, .int v0.2.2.2.2.2.2.2.2.2.2.1, .int v0.2.2.2.2.2.2.2.2.2.2.2.1, .int v0.2.2.2.2.2.2.2.2.2.2.2.2.1, .ref a4, .int v0.2.2.2.2.2.2.2.2.2.2.2.2.2.2.1, .int v0.2.2.2.2.2.2.2.2.2.2.2.2.2.2.2.1, .int v0.2.2.2.2.2.2.2.2.2.2.2.2.2.2.2.2.1, .int v0.2.2.2.2.2.2.2.2.2.2.2.2.2.2.2.2.2.1, .int v0.2.2.2.2.2.2.2.2.2.2.2.2.2.2.2.2.2.2.1, .long v0.2.2.2.2.2.2.2.2.2.2.2.2.2.2.2.2.2.2.2.1, .long v0.2.2.2.2.2.2.2.2.2.2.2.2.2.2.2.2.2.2.2.2.1, .ref a5])), (a1, .inl (ca 0, 4725, .inl v0.2.1)), (a2, .inl (ca 2, 1500, .inl v0.2.2.1)), (a3, .inl (ca 3, 3, .inl v0.2.2.2.1)), (a4, .inl (ca 0, 22, .inl v0.2.2.2.2.2.2.2.2.2.2.2.2.2.1)), (a5, .inl (ca 0, 256, .inl v0.2.2.2.2.2.2.2.2.2.2.2.2.2.2.2.2.2.2.2.2.2))]) hx hb hts i12 tyX12 tyX12_ok nmX12 hown hK hP hD hS 0 rfl rfl 0 (Nat.le_of_ble_eq_true rfl) w0 (fun _ h9 => h9) rfl rfl rfl rfl (Nat.le_of_ble_eq_true rfl) dX12_quiet_2 rfl (fun H locs hP hD hS => ?_)
  refine lv_aload_n hx hb dX12_quiet_5 rfl (lv_at hl 0 rfl) ?_
  refine va_get (C := RX12) (T := TX12) (N := 22) hx hb hts i12 hown hK hP 0 rfl rfl 1 (Nat.le_of_ble_eq_true rfl) w1 (fun _ h9 => h9) rfl dX12_quiet_6 ?_
  refine lv_bipush (v := 25) hx hb dX12_quiet_9 rfl ?_
  refine xiald hx hb hK hP 1 rfl hf dX12_quiet_11 (fun hf => ?_)
  refine xi_ne (tgt := 17) hx hb dX12_quiet_12 (by decide) hf (fun hf => ?_) (fun hf => ?_)
  · refine lv_aload_n hx hb dX12_quiet_17 rfl (lv_at hl 0 rfl) ?_
    refine lv_iconst (v := 0) hx hb dX12_quiet_18 rfl ?_
    refine lv_iconst (v := 4) hx hb dX12_quiet_19 rfl ?_
    obtain ⟨u_1, hc1, hf⟩ := bnd1_el hf
    have hMhc1 := fun sz => c_X12_copies l D ca zz a0 a1 a2 a3 a4 a5 sz (((0 : Int32), v0.2)) (0 : Int32) (4 : Int32) u_1 hc1
    dsimp only at hMhc1
    refine xV_V (As := [.int (0 : Int32), .int (4 : Int32)]) (wx := [(a0, .inr (12, [.int u_1.1, .ref a1, .ref a2, .ref a3, .int u_1.2.2.2.2.1, .int u_1.2.2.2.2.2.1, .int u_1.2.2.2.2.2.2.1, .int u_1.2.2.2.2.2.2.2.1, .int u_1.2.2.2.2.2.2.2.2.1, .long u_1.2.2.2.2.2.2.2.2.2.1, .int u_1.2.2.2.2.2.2.2.2.2.2.1, .int u_1.2.2.2.2.2.2.2.2.2.2.2.1, .int u_1.2.2.2.2.2.2.2.2.2.2.2.2.1, .ref a4, .int u_1.2.2.2.2.2.2.2.2.2.2.2.2.2.2.1, .int u_1.2.2.2.2.2.2.2.2.2.2.2.2.2.2.2.1, .int u_1.2.2.2.2.2.2.2.2.2.2.2.2.2.2.2.2.1, .int u_1.2.2.2.2.2.2.2.2.2.2.2.2.2.2.2.2.2.1, .int u_1.2.2.2.2.2.2.2.2.2.2.2.2.2.2.2.2.2.2.1, .long u_1.2.2.2.2.2.2.2.2.2.2.2.2.2.2.2.2.2.2.2.1, .long u_1.2.2.2.2.2.2.2.2.2.2.2.2.2.2.2.2.2.2.2.2.1, .ref a5])), (a1, .inl (ca 0, 4725, .inl u_1.2.1)), (a2, .inl (ca 2, 1500, .inl u_1.2.2.1)), (a3, .inl (ca 3, 3, .inl u_1.2.2.2.1)), (a4, .inl (ca 0, 22, .inl u_1.2.2.2.2.2.2.2.2.2.2.2.2.2.1)), (a5, .inl (ca 0, 256, .inl u_1.2.2.2.2.2.2.2.2.2.2.2.2.2.2.2.2.2.2.2.2.2))]) ⟨hx, hb, hml, hown, hts⟩ (hMhc1 _) (cwV 2 hts (gV gw_7_29 gw_7_31 gw_s_5_9 gw_1_15 gw_7_32) rfl rfl rfl (by decide +kernel) ⟨(Nat.le_of_ble_eq_true rfl), (Nat.le_of_ble_eq_true rfl)⟩) hK hN hZ hA hP hD hS [0, 1, 2, 3, 4, 5] [some 0, some 1, some 2, some 3, some 4, some 5] (by decide +kernel) rfl rfl rfl rfl 0 rfl rfl hl.1 rfl (Nat.le_of_ble_eq_true rfl) dX12_quiet_20 ⟨Nat.zero_le _, Nat.zero_le _⟩ rfl (fun H locs hP hD hS => ?_)
    refine lv_iconst (v := 0) hx hb dX12_quiet_23 rfl ?_
    refine lv_istore_n (lv' := [(1, .int (0 : Int32)), (0, .ref a0)]) hx hb dX12_quiet_24 rfl hl (Nat.le_of_ble_eq_true rfl) rfl (fun ls hl => ?_)
    exact b25 FU u_1 (0 : Int32) hf _ _ _ hP hD hS (lv_sub hl [1, 0] rfl)
  · refine lv_iconst (v := -1) hx hb dX12_quiet_15 rfl ?_
    have he := Option.some.inj hf
    obtain ⟨e_r, he⟩ := Prod.mk.inj he
    have e_v0 := he
    refine rt_I hx hb hr hlocks hK hP hD hS hQ e_r ?_ dX12_quiet_16
    simp only [← e_v0]
abbrev wq_X12_alarms : List Cond := Cond.code yX12_alarms cX12_alarms 7 (some .int) :: GL
set_option maxHeartbeats 4000000 in
set_option maxRecDepth 100000 in
theorem c_X12_alarms (l : Launch) (D : va_G) (ca : Nat → ClassId) (zz : Nat → Nat) (a0 a1 a2 a3 a4 a5 : Nat) (sz : Nat) (v0 : V12) (p1 : Int32) (p2 : Int32) (r : Int32) (v0' : V12) (hf : f_X12_alarms v0 p1 p2 = some (r, v0')) : Met l yX12_alarms wq_X12_alarms ({ frames := 4, cells := 0, slots := 0, locals := 91 } : Room) (PR D ca zz [.ref a0, .int p1, .int p2] sz [(a0, .inr (12, [.int v0.1, .ref a1, .ref a2, .ref a3, .int v0.2.2.2.2.1, .int v0.2.2.2.2.2.1, .int v0.2.2.2.2.2.2.1, .int v0.2.2.2.2.2.2.2.1, .int v0.2.2.2.2.2.2.2.2.1, .long v0.2.2.2.2.2.2.2.2.2.1, .int v0.2.2.2.2.2.2.2.2.2.2.1, .int v0.2.2.2.2.2.2.2.2.2.2.2.1, .int v0.2.2.2.2.2.2.2.2.2.2.2.2.1, .ref a4, .int v0.2.2.2.2.2.2.2.2.2.2.2.2.2.2.1, .int v0.2.2.2.2.2.2.2.2.2.2.2.2.2.2.2.1, .int v0.2.2.2.2.2.2.2.2.2.2.2.2.2.2.2.2.1, .int v0.2.2.2.2.2.2.2.2.2.2.2.2.2.2.2.2.2.1, .int v0.2.2.2.2.2.2.2.2.2.2.2.2.2.2.2.2.2.2.1, .long v0.2.2.2.2.2.2.2.2.2.2.2.2.2.2.2.2.2.2.2.1, .long v0.2.2.2.2.2.2.2.2.2.2.2.2.2.2.2.2.2.2.2.2.1, .ref a5])), (a1, .inl (ca 0, 4725, .inl v0.2.1)), (a2, .inl (ca 2, 1500, .inl v0.2.2.1)), (a3, .inl (ca 3, 3, .inl v0.2.2.2.1)), (a4, .inl (ca 0, 22, .inl v0.2.2.2.2.2.2.2.2.2.2.2.2.2.1)), (a5, .inl (ca 0, 256, .inl v0.2.2.2.2.2.2.2.2.2.2.2.2.2.2.2.2.2.2.2.2.2))]) (QI D ca r [(a0, .inr (12, [.int v0'.1, .ref a1, .ref a2, .ref a3, .int v0'.2.2.2.2.1, .int v0'.2.2.2.2.2.1, .int v0'.2.2.2.2.2.2.1, .int v0'.2.2.2.2.2.2.2.1, .int v0'.2.2.2.2.2.2.2.2.1, .long v0'.2.2.2.2.2.2.2.2.2.1, .int v0'.2.2.2.2.2.2.2.2.2.2.1, .int v0'.2.2.2.2.2.2.2.2.2.2.2.1, .int v0'.2.2.2.2.2.2.2.2.2.2.2.2.1, .ref a4, .int v0'.2.2.2.2.2.2.2.2.2.2.2.2.2.2.1, .int v0'.2.2.2.2.2.2.2.2.2.2.2.2.2.2.2.1, .int v0'.2.2.2.2.2.2.2.2.2.2.2.2.2.2.2.2.1, .int v0'.2.2.2.2.2.2.2.2.2.2.2.2.2.2.2.2.2.1, .int v0'.2.2.2.2.2.2.2.2.2.2.2.2.2.2.2.2.2.2.1, .long v0'.2.2.2.2.2.2.2.2.2.2.2.2.2.2.2.2.2.2.2.1, .long v0'.2.2.2.2.2.2.2.2.2.2.2.2.2.2.2.2.2.2.2.2.1, .ref a5])), (a1, .inl (ca 0, 4725, .inl v0'.2.1)), (a2, .inl (ca 2, 1500, .inl v0'.2.2.1)), (a3, .inl (ca 3, 3, .inl v0'.2.2.2.1)), (a4, .inl (ca 0, 22, .inl v0'.2.2.2.2.2.2.2.2.2.2.2.2.2.1)), (a5, .inl (ca 0, 256, .inl v0'.2.2.2.2.2.2.2.2.2.2.2.2.2.2.2.2.2.2.2.2.2))] (va_A [(a0, .inr (12, [.int v0.1, .ref a1, .ref a2, .ref a3, .int v0.2.2.2.2.1, .int v0.2.2.2.2.2.1, .int v0.2.2.2.2.2.2.1, .int v0.2.2.2.2.2.2.2.1, .int v0.2.2.2.2.2.2.2.2.1, .long v0.2.2.2.2.2.2.2.2.2.1, .int v0.2.2.2.2.2.2.2.2.2.2.1, .int v0.2.2.2.2.2.2.2.2.2.2.2.1, .int v0.2.2.2.2.2.2.2.2.2.2.2.2.1, .ref a4, .int v0.2.2.2.2.2.2.2.2.2.2.2.2.2.2.1, .int v0.2.2.2.2.2.2.2.2.2.2.2.2.2.2.2.1, .int v0.2.2.2.2.2.2.2.2.2.2.2.2.2.2.2.2.1, .int v0.2.2.2.2.2.2.2.2.2.2.2.2.2.2.2.2.2.1, .int v0.2.2.2.2.2.2.2.2.2.2.2.2.2.2.2.2.2.2.1, .long v0.2.2.2.2.2.2.2.2.2.2.2.2.2.2.2.2.2.2.2.1, .long v0.2.2.2.2.2.2.2.2.2.2.2.2.2.2.2.2.2.2.2.2.1, .ref a5])), (a1, .inl (ca 0, 4725, .inl v0.2.1)), (a2, .inl (ca 2, 1500, .inl v0.2.2.1)), (a3, .inl (ca 3, 3, .inl v0.2.2.2.1)), (a4, .inl (ca 0, 22, .inl v0.2.2.2.2.2.2.2.2.2.2.2.2.2.1)), (a5, .inl (ca 0, 256, .inl v0.2.2.2.2.2.2.2.2.2.2.2.2.2.2.2.2.2.2.2.2.2))] sz)) 0 0 (va_A [(a0, .inr (12, [.int v0.1, .ref a1, .ref a2, .ref a3, .int v0.2.2.2.2.1, .int v0.2.2.2.2.2.1, .int v0.2.2.2.2.2.2.1, .int v0.2.2.2.2.2.2.2.1, .int v0.2.2.2.2.2.2.2.2.1, .long v0.2.2.2.2.2.2.2.2.2.1, .int v0.2.2.2.2.2.2.2.2.2.2.1, .int v0.2.2.2.2.2.2.2.2.2.2.2.1, .int v0.2.2.2.2.2.2.2.2.2.2.2.2.1, .ref a4, .int v0.2.2.2.2.2.2.2.2.2.2.2.2.2.2.1, .int v0.2.2.2.2.2.2.2.2.2.2.2.2.2.2.2.1, .int v0.2.2.2.2.2.2.2.2.2.2.2.2.2.2.2.2.1, .int v0.2.2.2.2.2.2.2.2.2.2.2.2.2.2.2.2.2.1, .int v0.2.2.2.2.2.2.2.2.2.2.2.2.2.2.2.2.2.2.1, .long v0.2.2.2.2.2.2.2.2.2.2.2.2.2.2.2.2.2.2.2.1, .long v0.2.2.2.2.2.2.2.2.2.2.2.2.2.2.2.2.2.2.2.2.1, .ref a5])), (a1, .inl (ca 0, 4725, .inl v0.2.1)), (a2, .inl (ca 2, 1500, .inl v0.2.2.1)), (a3, .inl (ca 3, 3, .inl v0.2.2.2.1)), (a4, .inl (ca 0, 22, .inl v0.2.2.2.2.2.2.2.2.2.2.2.2.2.1)), (a5, .inl (ca 0, 256, .inl v0.2.2.2.2.2.2.2.2.2.2.2.2.2.2.2.2.2.2.2.2.2))] sz) := by
  refine en (y := yX12_alarms) (wsm := wq_X12_alarms) (av := [.ref a0, .int p1, .int p2]) (cc := cX12_alarms) (maxL := 7) (ret := (some .int)) (Qf := fun A => (QI D ca r [(a0, .inr (12, [.int v0'.1, .ref a1, .ref a2, .ref a3, .int v0'.2.2.2.2.1, .int v0'.2.2.2.2.2.1, .int v0'.2.2.2.2.2.2.1, .int v0'.2.2.2.2.2.2.2.1, .int v0'.2.2.2.2.2.2.2.2.1, .long v0'.2.2.2.2.2.2.2.2.2.1, .int v0'.2.2.2.2.2.2.2.2.2.2.1, .int v0'.2.2.2.2.2.2.2.2.2.2.2.1, .int v0'.2.2.2.2.2.2.2.2.2.2.2.2.1, .ref a4, .int v0'.2.2.2.2.2.2.2.2.2.2.2.2.2.2.1, .int v0'.2.2.2.2.2.2.2.2.2.2.2.2.2.2.2.1, .int v0'.2.2.2.2.2.2.2.2.2.2.2.2.2.2.2.2.1, .int v0'.2.2.2.2.2.2.2.2.2.2.2.2.2.2.2.2.2.1, .int v0'.2.2.2.2.2.2.2.2.2.2.2.2.2.2.2.2.2.2.1, .long v0'.2.2.2.2.2.2.2.2.2.2.2.2.2.2.2.2.2.2.2.1, .long v0'.2.2.2.2.2.2.2.2.2.2.2.2.2.2.2.2.2.2.2.2.1, .ref a5])), (a1, .inl (ca 0, 4725, .inl v0'.2.1)), (a2, .inl (ca 2, 1500, .inl v0'.2.2.1)), (a3, .inl (ca 3, 3, .inl v0'.2.2.2.1)), (a4, .inl (ca 0, 22, .inl v0'.2.2.2.2.2.2.2.2.2.2.2.2.2.1)), (a5, .inl (ca 0, 256, .inl v0'.2.2.2.2.2.2.2.2.2.2.2.2.2.2.2.2.2.2.2.2.2))] A)) (by decide) rfl (Nat.le_of_ble_eq_true rfl) ?_
  intro p e s m args below meth c A Q ls hx hb hr hml hown hts hlocks hnm hA hN hZ hK hQ hP hD hS hl
  have w0 := hts _ (List.mem_cons_of_mem _ gw_5_116)
  have i12 : ∀ w ∈ u_ws RX12 TX12 22, w ∈ wq_X12_alarms := fun w h => List.mem_cons_of_mem _ (inX12 w h)
  have bl48 : ∀ (k48 : V12 → Int32 → Int32 → Option (Int32 × V12)) (q48 : ∀ (v0 : V12) (x3 : Int32) (x4 : Int32), k48 v0 x3 x4 = some (r, v0') → ∀ (H : Heap) (locs : List Loc) (ls : Array Slot), va_P D vwCl [(a0, .inr (12, [.int v0.1, .ref a1, .ref a2, .ref a3, .int v0.2.2.2.2.1, .int v0.2.2.2.2.2.1, .int v0.2.2.2.2.2.2.1, .int v0.2.2.2.2.2.2.2.1, .int v0.2.2.2.2.2.2.2.2.1, .long v0.2.2.2.2.2.2.2.2.2.1, .int v0.2.2.2.2.2.2.2.2.2.2.1, .int v0.2.2.2.2.2.2.2.2.2.2.2.1, .int v0.2.2.2.2.2.2.2.2.2.2.2.2.1, .ref a4, .int v0.2.2.2.2.2.2.2.2.2.2.2.2.2.2.1, .int v0.2.2.2.2.2.2.2.2.2.2.2.2.2.2.2.1, .int v0.2.2.2.2.2.2.2.2.2.2.2.2.2.2.2.2.1, .int v0.2.2.2.2.2.2.2.2.2.2.2.2.2.2.2.2.2.1, .int v0.2.2.2.2.2.2.2.2.2.2.2.2.2.2.2.2.2.2.1, .long v0.2.2.2.2.2.2.2.2.2.2.2.2.2.2.2.2.2.2.2.1, .long v0.2.2.2.2.2.2.2.2.2.2.2.2.2.2.2.2.2.2.2.2.1, .ref a5])), (a1, .inl (ca 0, 4725, .inl v0.2.1)), (a2, .inl (ca 2, 1500, .inl v0.2.2.1)), (a3, .inl (ca 3, 3, .inl v0.2.2.2.1)), (a4, .inl (ca 0, 22, .inl v0.2.2.2.2.2.2.2.2.2.2.2.2.2.1)), (a5, .inl (ca 0, 256, .inl v0.2.2.2.2.2.2.2.2.2.2.2.2.2.2.2.2.2.2.2.2.2))] H → va_D A [(a0, .inr (12, [.int v0.1, .ref a1, .ref a2, .ref a3, .int v0.2.2.2.2.1, .int v0.2.2.2.2.2.1, .int v0.2.2.2.2.2.2.1, .int v0.2.2.2.2.2.2.2.1, .int v0.2.2.2.2.2.2.2.2.1, .long v0.2.2.2.2.2.2.2.2.2.1, .int v0.2.2.2.2.2.2.2.2.2.2.1, .int v0.2.2.2.2.2.2.2.2.2.2.2.1, .int v0.2.2.2.2.2.2.2.2.2.2.2.2.1, .ref a4, .int v0.2.2.2.2.2.2.2.2.2.2.2.2.2.2.1, .int v0.2.2.2.2.2.2.2.2.2.2.2.2.2.2.2.1, .int v0.2.2.2.2.2.2.2.2.2.2.2.2.2.2.2.2.1, .int v0.2.2.2.2.2.2.2.2.2.2.2.2.2.2.2.2.2.1, .int v0.2.2.2.2.2.2.2.2.2.2.2.2.2.2.2.2.2.2.1, .long v0.2.2.2.2.2.2.2.2.2.2.2.2.2.2.2.2.2.2.2.1, .long v0.2.2.2.2.2.2.2.2.2.2.2.2.2.2.2.2.2.2.2.2.1, .ref a5])), (a1, .inl (ca 0, 4725, .inl v0.2.1)), (a2, .inl (ca 2, 1500, .inl v0.2.2.1)), (a3, .inl (ca 3, 3, .inl v0.2.2.2.1)), (a4, .inl (ca 0, 22, .inl v0.2.2.2.2.2.2.2.2.2.2.2.2.2.1)), (a5, .inl (ca 0, 256, .inl v0.2.2.2.2.2.2.2.2.2.2.2.2.2.2.2.2.2.2.2.2.2))] → va_S A s.heap H locs → lv_has ls 7 [(0, .ref a0), (3, .int x3), (4, .int x4)] → W p l e ({ frames := 4, cells := 0, slots := 0, locals := 91 } : Room) s m args below meth c H locs 0 0 Q (F0 m 48 ls [])) (v0 : V12) (x3 : Int32) (x4 : Int32), fl_X12_alarms_48 k48 v0 x3 x4 = some (r, v0') → ∀ (H : Heap) (locs : List Loc) (ls : Array Slot), va_P D vwCl [(a0, .inr (12, [.int v0.1, .ref a1, .ref a2, .ref a3, .int v0.2.2.2.2.1, .int v0.2.2.2.2.2.1, .int v0.2.2.2.2.2.2.1, .int v0.2.2.2.2.2.2.2.1, .int v0.2.2.2.2.2.2.2.2.1, .long v0.2.2.2.2.2.2.2.2.2.1, .int v0.2.2.2.2.2.2.2.2.2.2.1, .int v0.2.2.2.2.2.2.2.2.2.2.2.1, .int v0.2.2.2.2.2.2.2.2.2.2.2.2.1, .ref a4, .int v0.2.2.2.2.2.2.2.2.2.2.2.2.2.2.1, .int v0.2.2.2.2.2.2.2.2.2.2.2.2.2.2.2.1, .int v0.2.2.2.2.2.2.2.2.2.2.2.2.2.2.2.2.1, .int v0.2.2.2.2.2.2.2.2.2.2.2.2.2.2.2.2.2.1, .int v0.2.2.2.2.2.2.2.2.2.2.2.2.2.2.2.2.2.2.1, .long v0.2.2.2.2.2.2.2.2.2.2.2.2.2.2.2.2.2.2.2.1, .long v0.2.2.2.2.2.2.2.2.2.2.2.2.2.2.2.2.2.2.2.2.1, .ref a5])), (a1, .inl (ca 0, 4725, .inl v0.2.1)), (a2, .inl (ca 2, 1500, .inl v0.2.2.1)), (a3, .inl (ca 3, 3, .inl v0.2.2.2.1)), (a4, .inl (ca 0, 22, .inl v0.2.2.2.2.2.2.2.2.2.2.2.2.2.1)), (a5, .inl (ca 0, 256, .inl v0.2.2.2.2.2.2.2.2.2.2.2.2.2.2.2.2.2.2.2.2.2))] H → va_D A [(a0, .inr (12, [.int v0.1, .ref a1, .ref a2, .ref a3, .int v0.2.2.2.2.1, .int v0.2.2.2.2.2.1, .int v0.2.2.2.2.2.2.1, .int v0.2.2.2.2.2.2.2.1, .int v0.2.2.2.2.2.2.2.2.1, .long v0.2.2.2.2.2.2.2.2.2.1, .int v0.2.2.2.2.2.2.2.2.2.2.1, .int v0.2.2.2.2.2.2.2.2.2.2.2.1, .int v0.2.2.2.2.2.2.2.2.2.2.2.2.1, .ref a4, .int v0.2.2.2.2.2.2.2.2.2.2.2.2.2.2.1, .int v0.2.2.2.2.2.2.2.2.2.2.2.2.2.2.2.1, .int v0.2.2.2.2.2.2.2.2.2.2.2.2.2.2.2.2.1, .int v0.2.2.2.2.2.2.2.2.2.2.2.2.2.2.2.2.2.1, .int v0.2.2.2.2.2.2.2.2.2.2.2.2.2.2.2.2.2.2.1, .long v0.2.2.2.2.2.2.2.2.2.2.2.2.2.2.2.2.2.2.2.1, .long v0.2.2.2.2.2.2.2.2.2.2.2.2.2.2.2.2.2.2.2.2.1, .ref a5])), (a1, .inl (ca 0, 4725, .inl v0.2.1)), (a2, .inl (ca 2, 1500, .inl v0.2.2.1)), (a3, .inl (ca 3, 3, .inl v0.2.2.2.1)), (a4, .inl (ca 0, 22, .inl v0.2.2.2.2.2.2.2.2.2.2.2.2.2.1)), (a5, .inl (ca 0, 256, .inl v0.2.2.2.2.2.2.2.2.2.2.2.2.2.2.2.2.2.2.2.2.2))] → va_S A s.heap H locs → lv_has ls 7 [(0, .ref a0), (3, .int x3), (4, .int x4)] → W p l e ({ frames := 4, cells := 0, slots := 0, locals := 91 } : Room) s m args below meth c H locs 0 0 Q (F0 m 48 ls []) := by
    intro k48 q48 v0 x3 x4 hf H locs ls hP hD hS hl
    unfold fl_X12_alarms_48 at hf
    refine lv_iload hx hb dX12_alarms_48 (lv_at hl 2 rfl) ?_
    refine lv_iload_n hx hb dX12_alarms_50 rfl (lv_at hl 1 rfl) ?_
    refine xc_ge (tgt := 96) hx hb dX12_alarms_51 (by decide) hf (fun hf => ?_) (fun hf => ?_)
    · refine lv_aload_n hx hb dX12_alarms_96 rfl (lv_at hl 0 rfl) ?_
      refine lv_aload_n hx hb dX12_alarms_97 rfl (lv_at hl 0 rfl) ?_
      refine va_get (C := RX12) (T := TX12) (N := 22) hx hb hts i12 hown hK hP 0 rfl rfl 1 (Nat.le_of_ble_eq_true rfl) w0 (fun _ h9 => h9) rfl dX12_alarms_98 ?_
      refine lv_bipush (v := 27) hx hb dX12_alarms_101 rfl ?_
      refine xiald hx hb hK hP 1 rfl hf dX12_alarms_103 (fun hf => ?_)
      obtain ⟨r_8, u_9, hc9, hf⟩ := bnd2_el hf
      refine xV_I (As := [.int (v0.2.1 ((27 : Int32)).toNatClampNeg)]) (wx := [(a0, .inr (12, [.int u_9.1, .ref a1, .ref a2, .ref a3, .int u_9.2.2.2.2.1, .int u_9.2.2.2.2.2.1, .int u_9.2.2.2.2.2.2.1, .int u_9.2.2.2.2.2.2.2.1, .int u_9.2.2.2.2.2.2.2.2.1, .long u_9.2.2.2.2.2.2.2.2.2.1, .int u_9.2.2.2.2.2.2.2.2.2.2.1, .int u_9.2.2.2.2.2.2.2.2.2.2.2.1, .int u_9.2.2.2.2.2.2.2.2.2.2.2.2.1, .ref a4, .int u_9.2.2.2.2.2.2.2.2.2.2.2.2.2.2.1, .int u_9.2.2.2.2.2.2.2.2.2.2.2.2.2.2.2.1, .int u_9.2.2.2.2.2.2.2.2.2.2.2.2.2.2.2.2.1, .int u_9.2.2.2.2.2.2.2.2.2.2.2.2.2.2.2.2.2.1, .int u_9.2.2.2.2.2.2.2.2.2.2.2.2.2.2.2.2.2.2.1, .long u_9.2.2.2.2.2.2.2.2.2.2.2.2.2.2.2.2.2.2.2.1, .long u_9.2.2.2.2.2.2.2.2.2.2.2.2.2.2.2.2.2.2.2.2.1, .ref a5])), (a1, .inl (ca 0, 4725, .inl u_9.2.1)), (a2, .inl (ca 2, 1500, .inl u_9.2.2.1)), (a3, .inl (ca 3, 3, .inl u_9.2.2.2.1)), (a4, .inl (ca 0, 22, .inl u_9.2.2.2.2.2.2.2.2.2.2.2.2.2.1)), (a5, .inl (ca 0, 256, .inl u_9.2.2.2.2.2.2.2.2.2.2.2.2.2.2.2.2.2.2.2.2.2))]) ⟨hx, hb, hml, hown, hts⟩ (c_X12_back l D ca zz a0 a1 a2 a3 a4 a5 _ v0 (v0.2.1 ((27 : Int32)).toNatClampNeg) r_8 u_9 hc9) (cwV 1 hts (gV gw_7_33 gw_7_35 gw_s_5_10 gw_1_15 gw_7_36) rfl rfl rfl (by decide +kernel) ⟨(Nat.le_of_ble_eq_true rfl), (Nat.le_of_ble_eq_true rfl)⟩) hK hN hZ hA hP hD hS [0, 1, 2, 3, 4, 5] [some 0, some 1, some 2, some 3, some 4, some 5] (by decide +kernel) rfl rfl rfl rfl 0 rfl rfl hl.1 rfl (Nat.le_of_ble_eq_true rfl) dX12_alarms_104 ⟨Nat.zero_le _, Nat.zero_le _⟩ rfl (fun H locs hP hD hS => ?_)
      have he := Option.some.inj hf
      obtain ⟨e_r, he⟩ := Prod.mk.inj he
      have e_v0 := he
      refine rt_I hx hb hr hlocks hK hP hD hS hQ e_r ?_ dX12_alarms_107
      simp only [← e_v0]
    · refine lv_aload_n hx hb dX12_alarms_54 rfl (lv_at hl 0 rfl) ?_
      refine va_get (C := RX12) (T := TX12) (N := 22) hx hb hts i12 hown hK hP 0 rfl rfl 1 (Nat.le_of_ble_eq_true rfl) w0 (fun _ h9 => h9) rfl dX12_alarms_55 ?_
      refine lv_sipush (v := 4081) hx hb dX12_alarms_58 rfl ?_
      refine lv_iload hx hb dX12_alarms_61 (lv_at hl 2 rfl) ?_
      refine lv_iadd hx hb dX12_alarms_63 ?_
      refine xiald hx hb hK hP 1 rfl hf dX12_alarms_64 (fun hf => ?_)
      refine xnm hf (fun x_10 hf => ?_)
      refine lv_istore (lv' := [(5, .int x_10), (0, .ref a0), (3, .int x3), (4, .int x4)]) hx hb dX12_alarms_65 hl (Nat.le_of_ble_eq_true rfl) rfl (fun ls hl => ?_)
      refine lv_aload_n hx hb dX12_alarms_67 rfl (lv_at hl 1 rfl) ?_
      refine lv_iload hx hb dX12_alarms_68 (lv_at hl 0 rfl) ?_
      obtain ⟨r_11, u_12, hc12, hf⟩ := bnd2_el hf
      refine xV_I (As := [.int x_10]) (wx := [(a0, .inr (12, [.int u_12.1, .ref a1, .ref a2, .ref a3, .int u_12.2.2.2.2.1, .int u_12.2.2.2.2.2.1, .int u_12.2.2.2.2.2.2.1, .int u_12.2.2.2.2.2.2.2.1, .int u_12.2.2.2.2.2.2.2.2.1, .long u_12.2.2.2.2.2.2.2.2.2.1, .int u_12.2.2.2.2.2.2.2.2.2.2.1, .int u_12.2.2.2.2.2.2.2.2.2.2.2.1, .int u_12.2.2.2.2.2.2.2.2.2.2.2.2.1, .ref a4, .int u_12.2.2.2.2.2.2.2.2.2.2.2.2.2.2.1, .int u_12.2.2.2.2.2.2.2.2.2.2.2.2.2.2.2.1, .int u_12.2.2.2.2.2.2.2.2.2.2.2.2.2.2.2.2.1, .int u_12.2.2.2.2.2.2.2.2.2.2.2.2.2.2.2.2.2.1, .int u_12.2.2.2.2.2.2.2.2.2.2.2.2.2.2.2.2.2.2.1, .long u_12.2.2.2.2.2.2.2.2.2.2.2.2.2.2.2.2.2.2.2.1, .long u_12.2.2.2.2.2.2.2.2.2.2.2.2.2.2.2.2.2.2.2.2.1, .ref a5])), (a1, .inl (ca 0, 4725, .inl u_12.2.1)), (a2, .inl (ca 2, 1500, .inl u_12.2.2.1)), (a3, .inl (ca 3, 3, .inl u_12.2.2.2.1)), (a4, .inl (ca 0, 22, .inl u_12.2.2.2.2.2.2.2.2.2.2.2.2.2.1)), (a5, .inl (ca 0, 256, .inl u_12.2.2.2.2.2.2.2.2.2.2.2.2.2.2.2.2.2.2.2.2.2))]) ⟨hx, hb, hml, hown, hts⟩ (c_X12_hears l D ca zz a0 a1 a2 a3 a4 a5 _ v0 x_10 r_11 u_12 hc12) (cwV 1 hts (gV gw_6_107 gw_6_109 gw_s_4_2 gw_1_15 gw_6_110) rfl rfl rfl (by decide +kernel) ⟨(Nat.le_of_ble_eq_true rfl), (Nat.le_of_ble_eq_true rfl)⟩) hK hN hZ hA hP hD hS [0, 1, 2, 3, 4, 5] [some 0, some 1, some 2, some 3, some 4, some 5] (by decide +kernel) rfl rfl rfl rfl 0 rfl rfl hl.1 rfl (Nat.le_of_ble_eq_true rfl) dX12_alarms_70 ⟨Nat.zero_le _, Nat.zero_le _⟩ rfl (fun H locs hP hD hS => ?_)
      refine lv_istore (lv' := [(6, .int r_11), (5, .int x_10), (0, .ref a0), (3, .int x3), (4, .int x4)]) hx hb dX12_alarms_73 hl (Nat.le_of_ble_eq_true rfl) rfl (fun ls hl => ?_)
      refine lv_aload_n hx hb dX12_alarms_75 rfl (lv_at hl 2 rfl) ?_
      refine va_get (C := RX12) (T := TX12) (N := 22) hx hb hts i12 hown hK hP 0 rfl rfl 1 (Nat.le_of_ble_eq_true rfl) w0 (fun _ h9 => h9) rfl dX12_alarms_76 ?_
      refine lv_bipush (v := 25) hx hb dX12_alarms_79 rfl ?_
      refine xiald hx hb hK hP 1 rfl hf dX12_alarms_81 (fun hf => ?_)
      refine lv_iconst (v := 3) hx hb dX12_alarms_82 rfl ?_
      refine xc_ne (tgt := 90) hx hb dX12_alarms_83 (by decide) hf (fun hf => ?_) (fun hf => ?_)
      · obtain ⟨x_13, ex_13, hf⟩ := bnd_el hf
        refine lv_iinc (v := x_13) (lv' := [(4, .int x_13), (6, .int r_11), (5, .int x_10), (0, .ref a0), (3, .int x3)]) hx hb dX12_alarms_90 hl (k := 4) rfl (by rw [ex_13]; rfl) (Nat.le_of_ble_eq_true rfl) rfl (fun ls hl => ?_)
        refine lv_goto (tgt := 48) hx hb dX12_alarms_93 (by decide) ?_
        exact q48 u_12 x3 x_13 hf _ _ _ hP hD hS (lv_sub hl [3, 4, 0] rfl)
      · refine lv_aload_n hx hb dX12_alarms_86 rfl (lv_at hl 2 rfl) ?_
        obtain ⟨u_14, hc14, hf⟩ := bnd1_el hf
        refine xV_V (As := []) (wx := [(a0, .inr (12, [.int u_14.1, .ref a1, .ref a2, .ref a3, .int u_14.2.2.2.2.1, .int u_14.2.2.2.2.2.1, .int u_14.2.2.2.2.2.2.1, .int u_14.2.2.2.2.2.2.2.1, .int u_14.2.2.2.2.2.2.2.2.1, .long u_14.2.2.2.2.2.2.2.2.2.1, .int u_14.2.2.2.2.2.2.2.2.2.2.1, .int u_14.2.2.2.2.2.2.2.2.2.2.2.1, .int u_14.2.2.2.2.2.2.2.2.2.2.2.2.1, .ref a4, .int u_14.2.2.2.2.2.2.2.2.2.2.2.2.2.2.1, .int u_14.2.2.2.2.2.2.2.2.2.2.2.2.2.2.2.1, .int u_14.2.2.2.2.2.2.2.2.2.2.2.2.2.2.2.2.1, .int u_14.2.2.2.2.2.2.2.2.2.2.2.2.2.2.2.2.2.1, .int u_14.2.2.2.2.2.2.2.2.2.2.2.2.2.2.2.2.2.2.1, .long u_14.2.2.2.2.2.2.2.2.2.2.2.2.2.2.2.2.2.2.2.1, .long u_14.2.2.2.2.2.2.2.2.2.2.2.2.2.2.2.2.2.2.2.2.1, .ref a5])), (a1, .inl (ca 0, 4725, .inl u_14.2.1)), (a2, .inl (ca 2, 1500, .inl u_14.2.2.1)), (a3, .inl (ca 3, 3, .inl u_14.2.2.2.1)), (a4, .inl (ca 0, 22, .inl u_14.2.2.2.2.2.2.2.2.2.2.2.2.2.1)), (a5, .inl (ca 0, 256, .inl u_14.2.2.2.2.2.2.2.2.2.2.2.2.2.2.2.2.2.2.2.2.2))]) ⟨hx, hb, hml, hown, hts⟩ (c_X12_starts l D ca zz a0 a1 a2 a3 a4 a5 _ u_12 u_14 hc14) (cwV 0 hts (gV gw_6_70 gw_6_72 gw_s_3_11 gw_1_15 gw_6_73) rfl rfl rfl (by decide +kernel) ⟨(Nat.le_of_ble_eq_true rfl), (Nat.le_of_ble_eq_true rfl)⟩) hK hN hZ hA hP hD hS [0, 1, 2, 3, 4, 5] [some 0, some 1, some 2, some 3, some 4, some 5] (by decide +kernel) rfl rfl rfl rfl 0 rfl rfl hl.1 rfl (Nat.le_of_ble_eq_true rfl) dX12_alarms_87 ⟨Nat.zero_le _, Nat.zero_le _⟩ rfl (fun H locs hP hD hS => ?_)
        obtain ⟨x_15, ex_15, hf⟩ := bnd_el hf
        refine lv_iinc (v := x_15) (lv' := [(4, .int x_15), (6, .int r_11), (5, .int x_10), (0, .ref a0), (3, .int x3)]) hx hb dX12_alarms_90 hl (k := 4) rfl (by rw [ex_15]; rfl) (Nat.le_of_ble_eq_true rfl) rfl (fun ls hl => ?_)
        refine lv_goto (tgt := 48) hx hb dX12_alarms_93 (by decide) ?_
        exact q48 u_14 x3 x_15 hf _ _ _ hP hD hS (lv_sub hl [3, 4, 0] rfl)
  have b48 : ∀ (n : Nat) (v0 : V12) (x3 : Int32) (x4 : Int32), fb_X12_alarms_48 n v0 x3 x4 = some (r, v0') → ∀ (H : Heap) (locs : List Loc) (ls : Array Slot), va_P D vwCl [(a0, .inr (12, [.int v0.1, .ref a1, .ref a2, .ref a3, .int v0.2.2.2.2.1, .int v0.2.2.2.2.2.1, .int v0.2.2.2.2.2.2.1, .int v0.2.2.2.2.2.2.2.1, .int v0.2.2.2.2.2.2.2.2.1, .long v0.2.2.2.2.2.2.2.2.2.1, .int v0.2.2.2.2.2.2.2.2.2.2.1, .int v0.2.2.2.2.2.2.2.2.2.2.2.1, .int v0.2.2.2.2.2.2.2.2.2.2.2.2.1, .ref a4, .int v0.2.2.2.2.2.2.2.2.2.2.2.2.2.2.1, .int v0.2.2.2.2.2.2.2.2.2.2.2.2.2.2.2.1, .int v0.2.2.2.2.2.2.2.2.2.2.2.2.2.2.2.2.1, .int v0.2.2.2.2.2.2.2.2.2.2.2.2.2.2.2.2.2.1, .int v0.2.2.2.2.2.2.2.2.2.2.2.2.2.2.2.2.2.2.1, .long v0.2.2.2.2.2.2.2.2.2.2.2.2.2.2.2.2.2.2.2.1, .long v0.2.2.2.2.2.2.2.2.2.2.2.2.2.2.2.2.2.2.2.2.1, .ref a5])), (a1, .inl (ca 0, 4725, .inl v0.2.1)), (a2, .inl (ca 2, 1500, .inl v0.2.2.1)), (a3, .inl (ca 3, 3, .inl v0.2.2.2.1)), (a4, .inl (ca 0, 22, .inl v0.2.2.2.2.2.2.2.2.2.2.2.2.2.1)), (a5, .inl (ca 0, 256, .inl v0.2.2.2.2.2.2.2.2.2.2.2.2.2.2.2.2.2.2.2.2.2))] H → va_D A [(a0, .inr (12, [.int v0.1, .ref a1, .ref a2, .ref a3, .int v0.2.2.2.2.1, .int v0.2.2.2.2.2.1, .int v0.2.2.2.2.2.2.1, .int v0.2.2.2.2.2.2.2.1, .int v0.2.2.2.2.2.2.2.2.1, .long v0.2.2.2.2.2.2.2.2.2.1, .int v0.2.2.2.2.2.2.2.2.2.2.1, .int v0.2.2.2.2.2.2.2.2.2.2.2.1, .int v0.2.2.2.2.2.2.2.2.2.2.2.2.1, .ref a4, .int v0.2.2.2.2.2.2.2.2.2.2.2.2.2.2.1, .int v0.2.2.2.2.2.2.2.2.2.2.2.2.2.2.2.1, .int v0.2.2.2.2.2.2.2.2.2.2.2.2.2.2.2.2.1, .int v0.2.2.2.2.2.2.2.2.2.2.2.2.2.2.2.2.2.1, .int v0.2.2.2.2.2.2.2.2.2.2.2.2.2.2.2.2.2.2.1, .long v0.2.2.2.2.2.2.2.2.2.2.2.2.2.2.2.2.2.2.2.1, .long v0.2.2.2.2.2.2.2.2.2.2.2.2.2.2.2.2.2.2.2.2.1, .ref a5])), (a1, .inl (ca 0, 4725, .inl v0.2.1)), (a2, .inl (ca 2, 1500, .inl v0.2.2.1)), (a3, .inl (ca 3, 3, .inl v0.2.2.2.1)), (a4, .inl (ca 0, 22, .inl v0.2.2.2.2.2.2.2.2.2.2.2.2.2.1)), (a5, .inl (ca 0, 256, .inl v0.2.2.2.2.2.2.2.2.2.2.2.2.2.2.2.2.2.2.2.2.2))] → va_S A s.heap H locs → lv_has ls 7 [(0, .ref a0), (3, .int x3), (4, .int x4)] → W p l e ({ frames := 4, cells := 0, slots := 0, locals := 91 } : Room) s m args below meth c H locs 0 0 Q (F0 m 48 ls []) := by
    intro n
    induction n with
    | zero => intro v0 x3 x4 hf; exact no_el hf
    | succ n ih => exact bl48 (fb_X12_alarms_48 n) ih
  unfold f_X12_alarms at hf
  refine lv_aload_n hx hb dX12_alarms_0 rfl (lv_at hl 0 rfl) ?_
  refine lv_iconst (v := 0) hx hb dX12_alarms_1 rfl ?_
  refine lv_iconst (v := 4) hx hb dX12_alarms_2 rfl ?_
  obtain ⟨u_1, hc1, hf⟩ := bnd1_el hf
  refine xV_V (As := [.int (0 : Int32), .int (4 : Int32)]) (wx := [(a0, .inr (12, [.int u_1.1, .ref a1, .ref a2, .ref a3, .int u_1.2.2.2.2.1, .int u_1.2.2.2.2.2.1, .int u_1.2.2.2.2.2.2.1, .int u_1.2.2.2.2.2.2.2.1, .int u_1.2.2.2.2.2.2.2.2.1, .long u_1.2.2.2.2.2.2.2.2.2.1, .int u_1.2.2.2.2.2.2.2.2.2.2.1, .int u_1.2.2.2.2.2.2.2.2.2.2.2.1, .int u_1.2.2.2.2.2.2.2.2.2.2.2.2.1, .ref a4, .int u_1.2.2.2.2.2.2.2.2.2.2.2.2.2.2.1, .int u_1.2.2.2.2.2.2.2.2.2.2.2.2.2.2.2.1, .int u_1.2.2.2.2.2.2.2.2.2.2.2.2.2.2.2.2.1, .int u_1.2.2.2.2.2.2.2.2.2.2.2.2.2.2.2.2.2.1, .int u_1.2.2.2.2.2.2.2.2.2.2.2.2.2.2.2.2.2.2.1, .long u_1.2.2.2.2.2.2.2.2.2.2.2.2.2.2.2.2.2.2.2.1, .long u_1.2.2.2.2.2.2.2.2.2.2.2.2.2.2.2.2.2.2.2.2.1, .ref a5])), (a1, .inl (ca 0, 4725, .inl u_1.2.1)), (a2, .inl (ca 2, 1500, .inl u_1.2.2.1)), (a3, .inl (ca 3, 3, .inl u_1.2.2.2.1)), (a4, .inl (ca 0, 22, .inl u_1.2.2.2.2.2.2.2.2.2.2.2.2.2.1)), (a5, .inl (ca 0, 256, .inl u_1.2.2.2.2.2.2.2.2.2.2.2.2.2.2.2.2.2.2.2.2.2))]) ⟨hx, hb, hml, hown, hts⟩ (c_X12_copies l D ca zz a0 a1 a2 a3 a4 a5 _ v0 (0 : Int32) (4 : Int32) u_1 hc1) (cwV 2 hts (gV gw_7_29 gw_7_31 gw_s_5_9 gw_1_15 gw_7_32) rfl rfl rfl (by decide +kernel) ⟨(Nat.le_of_ble_eq_true rfl), (Nat.le_of_ble_eq_true rfl)⟩) hK hN hZ hA hP hD hS [0, 1, 2, 3, 4, 5] [some 0, some 1, some 2, some 3, some 4, some 5] (by decide +kernel) rfl rfl rfl rfl 0 rfl rfl hl.1 rfl (Nat.le_of_ble_eq_true rfl) dX12_alarms_3 ⟨Nat.zero_le _, Nat.zero_le _⟩ rfl (fun H locs hP hD hS => ?_)
  refine lv_aload_n hx hb dX12_alarms_6 rfl (lv_at hl 0 rfl) ?_
  refine va_get (C := RX12) (T := TX12) (N := 22) hx hb hts i12 hown hK hP 0 rfl rfl 1 (Nat.le_of_ble_eq_true rfl) w0 (fun _ h9 => h9) rfl dX12_alarms_7 ?_
  refine lv_sipush (v := 300) hx hb dX12_alarms_10 rfl ?_
  refine xiald hx hb hK hP 1 rfl hf dX12_alarms_13 (fun hf => ?_)
  refine xnm hf (fun x_2 hf => ?_)
  refine lv_istore_n (lv' := [(3, .int x_2), (0, .ref a0), (1, .int p1), (2, .int p2)]) hx hb dX12_alarms_14 rfl hl (Nat.le_of_ble_eq_true rfl) rfl (fun ls hl => ?_)
  refine lv_aload_n hx hb dX12_alarms_15 rfl (lv_at hl 1 rfl) ?_
  refine va_get (C := RX12) (T := TX12) (N := 22) hx hb hts i12 hown hK hP 0 rfl rfl 1 (Nat.le_of_ble_eq_true rfl) w0 (fun _ h9 => h9) rfl dX12_alarms_16 ?_
  refine lv_iconst (v := 0) hx hb dX12_alarms_19 rfl ?_
  refine lv_iload_n hx hb dX12_alarms_20 rfl (lv_at hl 2 rfl) ?_
  refine xiast (wx := [(a0, .inr (12, [.int u_1.1, .ref a1, .ref a2, .ref a3, .int u_1.2.2.2.2.1, .int u_1.2.2.2.2.2.1, .int u_1.2.2.2.2.2.2.1, .int u_1.2.2.2.2.2.2.2.1, .int u_1.2.2.2.2.2.2.2.2.1, .long u_1.2.2.2.2.2.2.2.2.2.1, .int u_1.2.2.2.2.2.2.2.2.2.2.1, .int u_1.2.2.2.2.2.2.2.2.2.2.2.1, .int u_1.2.2.2.2.2.2.2.2.2.2.2.2.1, .ref a4, .int u_1.2.2.2.2.2.2.2.2.2.2.2.2.2.2.1, .int u_1.2.2.2.2.2.2.2.2.2.2.2.2.2.2.2.1, .int u_1.2.2.2.2.2.2.2.2.2.2.2.2.2.2.2.2.1, .int u_1.2.2.2.2.2.2.2.2.2.2.2.2.2.2.2.2.2.1, .int u_1.2.2.2.2.2.2.2.2.2.2.2.2.2.2.2.2.2.2.1, .long u_1.2.2.2.2.2.2.2.2.2.2.2.2.2.2.2.2.2.2.2.1, .long u_1.2.2.2.2.2.2.2.2.2.2.2.2.2.2.2.2.2.2.2.2.1, .ref a5])), (a1, .inl (ca 0, 4725, .inl ((upd u_1.2.1 ((0 : Int32)).toNatClampNeg p1)))), (a2, .inl (ca 2, 1500, .inl u_1.2.2.1)), (a3, .inl (ca 3, 3, .inl u_1.2.2.2.1)), (a4, .inl (ca 0, 22, .inl u_1.2.2.2.2.2.2.2.2.2.2.2.2.2.1)), (a5, .inl (ca 0, 256, .inl u_1.2.2.2.2.2.2.2.2.2.2.2.2.2.2.2.2.2.2.2.2.2))]) hx hb hK hP hD hS 1 rfl hf dX12_alarms_21 rfl (fun H locs hf hP hD hS => ?_)
  obtain ⟨y_3, ey_3, hf⟩ := bnd_el hf
  rw [← ey_3] at hP hD
  refine lv_aload_n hx hb dX12_alarms_22 rfl (lv_at hl 1 rfl) ?_
  refine va_get (C := RX12) (T := TX12) (N := 22) hx hb hts i12 hown hK hP 0 rfl rfl 1 (Nat.le_of_ble_eq_true rfl) w0 (fun _ h9 => h9) rfl dX12_alarms_23 ?_
  refine lv_iconst (v := 1) hx hb dX12_alarms_26 rfl ?_
  refine lv_iload_n hx hb dX12_alarms_27 rfl (lv_at hl 3 rfl) ?_
  refine xiast (wx := [(a0, .inr (12, [.int u_1.1, .ref a1, .ref a2, .ref a3, .int u_1.2.2.2.2.1, .int u_1.2.2.2.2.2.1, .int u_1.2.2.2.2.2.2.1, .int u_1.2.2.2.2.2.2.2.1, .int u_1.2.2.2.2.2.2.2.2.1, .long u_1.2.2.2.2.2.2.2.2.2.1, .int u_1.2.2.2.2.2.2.2.2.2.2.1, .int u_1.2.2.2.2.2.2.2.2.2.2.2.1, .int u_1.2.2.2.2.2.2.2.2.2.2.2.2.1, .ref a4, .int u_1.2.2.2.2.2.2.2.2.2.2.2.2.2.2.1, .int u_1.2.2.2.2.2.2.2.2.2.2.2.2.2.2.2.1, .int u_1.2.2.2.2.2.2.2.2.2.2.2.2.2.2.2.2.1, .int u_1.2.2.2.2.2.2.2.2.2.2.2.2.2.2.2.2.2.1, .int u_1.2.2.2.2.2.2.2.2.2.2.2.2.2.2.2.2.2.2.1, .long u_1.2.2.2.2.2.2.2.2.2.2.2.2.2.2.2.2.2.2.2.1, .long u_1.2.2.2.2.2.2.2.2.2.2.2.2.2.2.2.2.2.2.2.2.1, .ref a5])), (a1, .inl (ca 0, 4725, .inl ((upd y_3 ((1 : Int32)).toNatClampNeg p2)))), (a2, .inl (ca 2, 1500, .inl u_1.2.2.1)), (a3, .inl (ca 3, 3, .inl u_1.2.2.2.1)), (a4, .inl (ca 0, 22, .inl u_1.2.2.2.2.2.2.2.2.2.2.2.2.2.1)), (a5, .inl (ca 0, 256, .inl u_1.2.2.2.2.2.2.2.2.2.2.2.2.2.2.2.2.2.2.2.2.2))]) hx hb hK hP hD hS 1 rfl hf dX12_alarms_28 rfl (fun H locs hf hP hD hS => ?_)
  obtain ⟨y_4, ey_4, hf⟩ := bnd_el hf
  rw [← ey_4] at hP hD
  refine lv_aload_n hx hb dX12_alarms_29 rfl (lv_at hl 1 rfl) ?_
  refine va_get (C := RX12) (T := TX12) (N := 22) hx hb hts i12 hown hK hP 0 rfl rfl 1 (Nat.le_of_ble_eq_true rfl) w0 (fun _ h9 => h9) rfl dX12_alarms_30 ?_
  refine lv_bipush (v := 27) hx hb dX12_alarms_33 rfl ?_
  refine lv_iconst (v := 0) hx hb dX12_alarms_35 rfl ?_
  refine xiast (wx := [(a0, .inr (12, [.int u_1.1, .ref a1, .ref a2, .ref a3, .int u_1.2.2.2.2.1, .int u_1.2.2.2.2.2.1, .int u_1.2.2.2.2.2.2.1, .int u_1.2.2.2.2.2.2.2.1, .int u_1.2.2.2.2.2.2.2.2.1, .long u_1.2.2.2.2.2.2.2.2.2.1, .int u_1.2.2.2.2.2.2.2.2.2.2.1, .int u_1.2.2.2.2.2.2.2.2.2.2.2.1, .int u_1.2.2.2.2.2.2.2.2.2.2.2.2.1, .ref a4, .int u_1.2.2.2.2.2.2.2.2.2.2.2.2.2.2.1, .int u_1.2.2.2.2.2.2.2.2.2.2.2.2.2.2.2.1, .int u_1.2.2.2.2.2.2.2.2.2.2.2.2.2.2.2.2.1, .int u_1.2.2.2.2.2.2.2.2.2.2.2.2.2.2.2.2.2.1, .int u_1.2.2.2.2.2.2.2.2.2.2.2.2.2.2.2.2.2.2.1, .long u_1.2.2.2.2.2.2.2.2.2.2.2.2.2.2.2.2.2.2.2.1, .long u_1.2.2.2.2.2.2.2.2.2.2.2.2.2.2.2.2.2.2.2.2.1, .ref a5])), (a1, .inl (ca 0, 4725, .inl ((upd y_4 ((27 : Int32)).toNatClampNeg (0 : Int32))))), (a2, .inl (ca 2, 1500, .inl u_1.2.2.1)), (a3, .inl (ca 3, 3, .inl u_1.2.2.2.1)), (a4, .inl (ca 0, 22, .inl u_1.2.2.2.2.2.2.2.2.2.2.2.2.2.1)), (a5, .inl (ca 0, 256, .inl u_1.2.2.2.2.2.2.2.2.2.2.2.2.2.2.2.2.2.2.2.2.2))]) hx hb hK hP hD hS 1 rfl hf dX12_alarms_36 rfl (fun H locs hf hP hD hS => ?_)
  obtain ⟨y_5, ey_5, hf⟩ := bnd_el hf
  rw [← ey_5] at hP hD
  refine lv_aload_n hx hb dX12_alarms_37 rfl (lv_at hl 1 rfl) ?_
  obtain ⟨u_6, hc6, hf⟩ := bnd1_el hf
  have hMhc6 := fun sz => c_X12_laysLimits l D ca zz a0 a1 a2 a3 a4 a5 sz ((u_1.1, y_5, u_1.2.2)) u_6 hc6
  dsimp only at hMhc6
  refine xV_V (As := []) (wx := [(a0, .inr (12, [.int u_6.1, .ref a1, .ref a2, .ref a3, .int u_6.2.2.2.2.1, .int u_6.2.2.2.2.2.1, .int u_6.2.2.2.2.2.2.1, .int u_6.2.2.2.2.2.2.2.1, .int u_6.2.2.2.2.2.2.2.2.1, .long u_6.2.2.2.2.2.2.2.2.2.1, .int u_6.2.2.2.2.2.2.2.2.2.2.1, .int u_6.2.2.2.2.2.2.2.2.2.2.2.1, .int u_6.2.2.2.2.2.2.2.2.2.2.2.2.1, .ref a4, .int u_6.2.2.2.2.2.2.2.2.2.2.2.2.2.2.1, .int u_6.2.2.2.2.2.2.2.2.2.2.2.2.2.2.2.1, .int u_6.2.2.2.2.2.2.2.2.2.2.2.2.2.2.2.2.1, .int u_6.2.2.2.2.2.2.2.2.2.2.2.2.2.2.2.2.2.1, .int u_6.2.2.2.2.2.2.2.2.2.2.2.2.2.2.2.2.2.2.1, .long u_6.2.2.2.2.2.2.2.2.2.2.2.2.2.2.2.2.2.2.2.1, .long u_6.2.2.2.2.2.2.2.2.2.2.2.2.2.2.2.2.2.2.2.2.1, .ref a5])), (a1, .inl (ca 0, 4725, .inl u_6.2.1)), (a2, .inl (ca 2, 1500, .inl u_6.2.2.1)), (a3, .inl (ca 3, 3, .inl u_6.2.2.2.1)), (a4, .inl (ca 0, 22, .inl u_6.2.2.2.2.2.2.2.2.2.2.2.2.2.1)), (a5, .inl (ca 0, 256, .inl u_6.2.2.2.2.2.2.2.2.2.2.2.2.2.2.2.2.2.2.2.2.2))]) ⟨hx, hb, hml, hown, hts⟩ (hMhc6 _) (cwV 0 hts (gV gw_6_94 gw_6_96 gw_s_3_15 gw_1_15 gw_6_97) rfl rfl rfl (by decide +kernel) ⟨(Nat.le_of_ble_eq_true rfl), (Nat.le_of_ble_eq_true rfl)⟩) hK hN hZ hA hP hD hS [0, 1, 2, 3, 4, 5] [some 0, some 1, some 2, some 3, some 4, some 5] (by decide +kernel) rfl rfl rfl rfl 0 rfl rfl hl.1 rfl (Nat.le_of_ble_eq_true rfl) dX12_alarms_38 ⟨Nat.zero_le _, Nat.zero_le _⟩ rfl (fun H locs hP hD hS => ?_)
  refine lv_aload_n hx hb dX12_alarms_41 rfl (lv_at hl 1 rfl) ?_
  obtain ⟨u_7, hc7, hf⟩ := bnd1_el hf
  refine xV_V (As := []) (wx := [(a0, .inr (12, [.int u_7.1, .ref a1, .ref a2, .ref a3, .int u_7.2.2.2.2.1, .int u_7.2.2.2.2.2.1, .int u_7.2.2.2.2.2.2.1, .int u_7.2.2.2.2.2.2.2.1, .int u_7.2.2.2.2.2.2.2.2.1, .long u_7.2.2.2.2.2.2.2.2.2.1, .int u_7.2.2.2.2.2.2.2.2.2.2.1, .int u_7.2.2.2.2.2.2.2.2.2.2.2.1, .int u_7.2.2.2.2.2.2.2.2.2.2.2.2.1, .ref a4, .int u_7.2.2.2.2.2.2.2.2.2.2.2.2.2.2.1, .int u_7.2.2.2.2.2.2.2.2.2.2.2.2.2.2.2.1, .int u_7.2.2.2.2.2.2.2.2.2.2.2.2.2.2.2.2.1, .int u_7.2.2.2.2.2.2.2.2.2.2.2.2.2.2.2.2.2.1, .int u_7.2.2.2.2.2.2.2.2.2.2.2.2.2.2.2.2.2.2.1, .long u_7.2.2.2.2.2.2.2.2.2.2.2.2.2.2.2.2.2.2.2.1, .long u_7.2.2.2.2.2.2.2.2.2.2.2.2.2.2.2.2.2.2.2.2.1, .ref a5])), (a1, .inl (ca 0, 4725, .inl u_7.2.1)), (a2, .inl (ca 2, 1500, .inl u_7.2.2.1)), (a3, .inl (ca 3, 3, .inl u_7.2.2.2.1)), (a4, .inl (ca 0, 22, .inl u_7.2.2.2.2.2.2.2.2.2.2.2.2.2.1)), (a5, .inl (ca 0, 256, .inl u_7.2.2.2.2.2.2.2.2.2.2.2.2.2.2.2.2.2.2.2.2.2))]) ⟨hx, hb, hml, hown, hts⟩ (c_X12_starts l D ca zz a0 a1 a2 a3 a4 a5 _ u_6 u_7 hc7) (cwV 0 hts (gV gw_6_70 gw_6_72 gw_s_3_11 gw_1_15 gw_6_73) rfl rfl rfl (by decide +kernel) ⟨(Nat.le_of_ble_eq_true rfl), (Nat.le_of_ble_eq_true rfl)⟩) hK hN hZ hA hP hD hS [0, 1, 2, 3, 4, 5] [some 0, some 1, some 2, some 3, some 4, some 5] (by decide +kernel) rfl rfl rfl rfl 0 rfl rfl hl.1 rfl (Nat.le_of_ble_eq_true rfl) dX12_alarms_42 ⟨Nat.zero_le _, Nat.zero_le _⟩ rfl (fun H locs hP hD hS => ?_)
  refine lv_iconst (v := 0) hx hb dX12_alarms_45 rfl ?_
  refine lv_istore (lv' := [(4, .int (0 : Int32)), (3, .int x_2), (0, .ref a0), (1, .int p1), (2, .int p2)]) hx hb dX12_alarms_46 hl (Nat.le_of_ble_eq_true rfl) rfl (fun ls hl => ?_)
  exact b48 FU u_7 x_2 (0 : Int32) hf _ _ _ hP hD hS (lv_sub hl [2, 1, 0] rfl)
abbrev wq_X12_replayed : List Cond := Cond.code yX12_replayed cX12_replayed 2 (some .int) :: GL
set_option maxHeartbeats 4000000 in
set_option maxRecDepth 100000 in
theorem c_X12_replayed (l : Launch) (D : va_G) (ca : Nat → ClassId) (zz : Nat → Nat) (a0 a1 a2 a3 a4 a5 : Nat) (sz : Nat) (v0 : V12) (p1 : Int32) (r : Int32) (v0' : V12) (hf : f_X12_replayed v0 p1 = some (r, v0')) : Met l yX12_replayed wq_X12_replayed ({ frames := 5, cells := 0, slots := 0, locals := 117 } : Room) (PR D ca zz [.ref a0, .int p1] sz [(a0, .inr (12, [.int v0.1, .ref a1, .ref a2, .ref a3, .int v0.2.2.2.2.1, .int v0.2.2.2.2.2.1, .int v0.2.2.2.2.2.2.1, .int v0.2.2.2.2.2.2.2.1, .int v0.2.2.2.2.2.2.2.2.1, .long v0.2.2.2.2.2.2.2.2.2.1, .int v0.2.2.2.2.2.2.2.2.2.2.1, .int v0.2.2.2.2.2.2.2.2.2.2.2.1, .int v0.2.2.2.2.2.2.2.2.2.2.2.2.1, .ref a4, .int v0.2.2.2.2.2.2.2.2.2.2.2.2.2.2.1, .int v0.2.2.2.2.2.2.2.2.2.2.2.2.2.2.2.1, .int v0.2.2.2.2.2.2.2.2.2.2.2.2.2.2.2.2.1, .int v0.2.2.2.2.2.2.2.2.2.2.2.2.2.2.2.2.2.1, .int v0.2.2.2.2.2.2.2.2.2.2.2.2.2.2.2.2.2.2.1, .long v0.2.2.2.2.2.2.2.2.2.2.2.2.2.2.2.2.2.2.2.1, .long v0.2.2.2.2.2.2.2.2.2.2.2.2.2.2.2.2.2.2.2.2.1, .ref a5])), (a1, .inl (ca 0, 4725, .inl v0.2.1)), (a2, .inl (ca 2, 1500, .inl v0.2.2.1)), (a3, .inl (ca 3, 3, .inl v0.2.2.2.1)), (a4, .inl (ca 0, 22, .inl v0.2.2.2.2.2.2.2.2.2.2.2.2.2.1)), (a5, .inl (ca 0, 256, .inl v0.2.2.2.2.2.2.2.2.2.2.2.2.2.2.2.2.2.2.2.2.2))]) (QI D ca r [(a0, .inr (12, [.int v0'.1, .ref a1, .ref a2, .ref a3, .int v0'.2.2.2.2.1, .int v0'.2.2.2.2.2.1, .int v0'.2.2.2.2.2.2.1, .int v0'.2.2.2.2.2.2.2.1, .int v0'.2.2.2.2.2.2.2.2.1, .long v0'.2.2.2.2.2.2.2.2.2.1, .int v0'.2.2.2.2.2.2.2.2.2.2.1, .int v0'.2.2.2.2.2.2.2.2.2.2.2.1, .int v0'.2.2.2.2.2.2.2.2.2.2.2.2.1, .ref a4, .int v0'.2.2.2.2.2.2.2.2.2.2.2.2.2.2.1, .int v0'.2.2.2.2.2.2.2.2.2.2.2.2.2.2.2.1, .int v0'.2.2.2.2.2.2.2.2.2.2.2.2.2.2.2.2.1, .int v0'.2.2.2.2.2.2.2.2.2.2.2.2.2.2.2.2.2.1, .int v0'.2.2.2.2.2.2.2.2.2.2.2.2.2.2.2.2.2.2.1, .long v0'.2.2.2.2.2.2.2.2.2.2.2.2.2.2.2.2.2.2.2.1, .long v0'.2.2.2.2.2.2.2.2.2.2.2.2.2.2.2.2.2.2.2.2.1, .ref a5])), (a1, .inl (ca 0, 4725, .inl v0'.2.1)), (a2, .inl (ca 2, 1500, .inl v0'.2.2.1)), (a3, .inl (ca 3, 3, .inl v0'.2.2.2.1)), (a4, .inl (ca 0, 22, .inl v0'.2.2.2.2.2.2.2.2.2.2.2.2.2.1)), (a5, .inl (ca 0, 256, .inl v0'.2.2.2.2.2.2.2.2.2.2.2.2.2.2.2.2.2.2.2.2.2))] (va_A [(a0, .inr (12, [.int v0.1, .ref a1, .ref a2, .ref a3, .int v0.2.2.2.2.1, .int v0.2.2.2.2.2.1, .int v0.2.2.2.2.2.2.1, .int v0.2.2.2.2.2.2.2.1, .int v0.2.2.2.2.2.2.2.2.1, .long v0.2.2.2.2.2.2.2.2.2.1, .int v0.2.2.2.2.2.2.2.2.2.2.1, .int v0.2.2.2.2.2.2.2.2.2.2.2.1, .int v0.2.2.2.2.2.2.2.2.2.2.2.2.1, .ref a4, .int v0.2.2.2.2.2.2.2.2.2.2.2.2.2.2.1, .int v0.2.2.2.2.2.2.2.2.2.2.2.2.2.2.2.1, .int v0.2.2.2.2.2.2.2.2.2.2.2.2.2.2.2.2.1, .int v0.2.2.2.2.2.2.2.2.2.2.2.2.2.2.2.2.2.1, .int v0.2.2.2.2.2.2.2.2.2.2.2.2.2.2.2.2.2.2.1, .long v0.2.2.2.2.2.2.2.2.2.2.2.2.2.2.2.2.2.2.2.1, .long v0.2.2.2.2.2.2.2.2.2.2.2.2.2.2.2.2.2.2.2.2.1, .ref a5])), (a1, .inl (ca 0, 4725, .inl v0.2.1)), (a2, .inl (ca 2, 1500, .inl v0.2.2.1)), (a3, .inl (ca 3, 3, .inl v0.2.2.2.1)), (a4, .inl (ca 0, 22, .inl v0.2.2.2.2.2.2.2.2.2.2.2.2.2.1)), (a5, .inl (ca 0, 256, .inl v0.2.2.2.2.2.2.2.2.2.2.2.2.2.2.2.2.2.2.2.2.2))] sz)) 0 0 (va_A [(a0, .inr (12, [.int v0.1, .ref a1, .ref a2, .ref a3, .int v0.2.2.2.2.1, .int v0.2.2.2.2.2.1, .int v0.2.2.2.2.2.2.1, .int v0.2.2.2.2.2.2.2.1, .int v0.2.2.2.2.2.2.2.2.1, .long v0.2.2.2.2.2.2.2.2.2.1, .int v0.2.2.2.2.2.2.2.2.2.2.1, .int v0.2.2.2.2.2.2.2.2.2.2.2.1, .int v0.2.2.2.2.2.2.2.2.2.2.2.2.1, .ref a4, .int v0.2.2.2.2.2.2.2.2.2.2.2.2.2.2.1, .int v0.2.2.2.2.2.2.2.2.2.2.2.2.2.2.2.1, .int v0.2.2.2.2.2.2.2.2.2.2.2.2.2.2.2.2.1, .int v0.2.2.2.2.2.2.2.2.2.2.2.2.2.2.2.2.2.1, .int v0.2.2.2.2.2.2.2.2.2.2.2.2.2.2.2.2.2.2.1, .long v0.2.2.2.2.2.2.2.2.2.2.2.2.2.2.2.2.2.2.2.1, .long v0.2.2.2.2.2.2.2.2.2.2.2.2.2.2.2.2.2.2.2.2.1, .ref a5])), (a1, .inl (ca 0, 4725, .inl v0.2.1)), (a2, .inl (ca 2, 1500, .inl v0.2.2.1)), (a3, .inl (ca 3, 3, .inl v0.2.2.2.1)), (a4, .inl (ca 0, 22, .inl v0.2.2.2.2.2.2.2.2.2.2.2.2.2.1)), (a5, .inl (ca 0, 256, .inl v0.2.2.2.2.2.2.2.2.2.2.2.2.2.2.2.2.2.2.2.2.2))] sz) := by
  refine en (y := yX12_replayed) (wsm := wq_X12_replayed) (av := [.ref a0, .int p1]) (cc := cX12_replayed) (maxL := 2) (ret := (some .int)) (Qf := fun A => (QI D ca r [(a0, .inr (12, [.int v0'.1, .ref a1, .ref a2, .ref a3, .int v0'.2.2.2.2.1, .int v0'.2.2.2.2.2.1, .int v0'.2.2.2.2.2.2.1, .int v0'.2.2.2.2.2.2.2.1, .int v0'.2.2.2.2.2.2.2.2.1, .long v0'.2.2.2.2.2.2.2.2.2.1, .int v0'.2.2.2.2.2.2.2.2.2.2.1, .int v0'.2.2.2.2.2.2.2.2.2.2.2.1, .int v0'.2.2.2.2.2.2.2.2.2.2.2.2.1, .ref a4, .int v0'.2.2.2.2.2.2.2.2.2.2.2.2.2.2.1, .int v0'.2.2.2.2.2.2.2.2.2.2.2.2.2.2.2.1, .int v0'.2.2.2.2.2.2.2.2.2.2.2.2.2.2.2.2.1, .int v0'.2.2.2.2.2.2.2.2.2.2.2.2.2.2.2.2.2.1, .int v0'.2.2.2.2.2.2.2.2.2.2.2.2.2.2.2.2.2.2.1, .long v0'.2.2.2.2.2.2.2.2.2.2.2.2.2.2.2.2.2.2.2.1, .long v0'.2.2.2.2.2.2.2.2.2.2.2.2.2.2.2.2.2.2.2.2.1, .ref a5])), (a1, .inl (ca 0, 4725, .inl v0'.2.1)), (a2, .inl (ca 2, 1500, .inl v0'.2.2.1)), (a3, .inl (ca 3, 3, .inl v0'.2.2.2.1)), (a4, .inl (ca 0, 22, .inl v0'.2.2.2.2.2.2.2.2.2.2.2.2.2.1)), (a5, .inl (ca 0, 256, .inl v0'.2.2.2.2.2.2.2.2.2.2.2.2.2.2.2.2.2.2.2.2.2))] A)) (by decide) rfl (Nat.le_of_ble_eq_true rfl) ?_
  intro p e s m args below meth c A Q ls hx hb hr hml hown hts hlocks hnm hA hN hZ hK hQ hP hD hS hl
  have w0 := hts _ (List.mem_cons_of_mem _ gw_5_115)
  have w1 := hts _ (List.mem_cons_of_mem _ gw_5_116)
  have i12 : ∀ w ∈ u_ws RX12 TX12 22, w ∈ wq_X12_replayed := fun w h => List.mem_cons_of_mem _ (inX12 w h)
  unfold f_X12_replayed at hf
  refine lv_aload_n hx hb dX12_replayed_0 rfl (lv_at hl 0 rfl) ?_
  refine lv_iconst (v := 0) hx hb dX12_replayed_1 rfl ?_
  refine xput (C := RX12) (T := TX12) (N := 22) (wx := [(a0, .inr (12, [.int (0 : Int32), .ref a1, .ref a2, .ref a3, .int v0.2.2.2.2.1, .int v0.2.2.2.2.2.1, .int v0.2.2.2.2.2.2.1, .int v0.2.2.2.2.2.2.2.1, .int v0.2.2.2.2.2.2.2.2.1, .long v0.2.2.2.2.2.2.2.2.2.1, .int v0.2.2.2.2.2.2.2.2.2.2.1, .int v0.2.2.2.2.2.2.2.2.2.2.2.1, .int v0.2.2.2.2.2.2.2.2.2.2.2.2.1, .ref a4, .int v0.2.2.2.2.2.2.2.2.2.2.2.2.2.2.1, .int v0.2.2.2.2.2.2.2.2.2.2.2.2.2.2.2.1, .int v0.2.2.2.2.2.2.2.2.2.2.2.2.2.2.2.2.1, .int v0.2.2.2.2.2.2.2.2.2.2.2.2.2.2.2.2.2.1, .int v0.2.2.2.2.2.2.2.2.2.2.2.2.2.2.2.2.2.2.1, .long v0.2.2.2.2.2.2.2.2.2.2.2.2.2.2.2.2.2.2.2.1, .long v0.2.2.2.2.2.2.2.2.2.2.2.2.2.2.2.2.2.2.2.2.1, .ref a5])), (a1, .inl (ca 0, 4725, .inl v0.2.1)), (a2, .inl (ca 2, 1500, .inl v0.2.2.1)), (a3, .inl (ca 3, 3, .inl v0.2.2.2.1)), (a4, .inl (ca 0, 22, .inl v0.2.2.2.2.2.2.2.2.2.2.2.2.2.1)), (a5, .inl (ca 0, 256, .inl v0.2.2.2.2.2.2.2.2.2.2.2.2.2.2.2.2.2.2.2.2.2))]) hx hb hts i12 tyX12 tyX12_ok nmX12 hown hK hP hD hS 0 rfl rfl 0 (Nat.le_of_ble_eq_true rfl) w0 (fun _ h9 => h9) rfl rfl rfl rfl (Nat.le_of_ble_eq_true rfl) dX12_replayed_2 rfl (fun H locs hP hD hS => ?_)
  refine lv_iload_n hx hb dX12_replayed_5 rfl (lv_at hl 1 rfl) ?_
  refine lv_bipush (v := 8) hx hb dX12_replayed_6 rfl ?_
  refine lv_bipush (v := 15) hx hb dX12_replayed_8 rfl ?_
  obtain ⟨r_1, hc1, hf⟩ := bnd1_el hf
  refine xS_I (As := [.int p1, .int (8 : Int32), .int (15 : Int32)]) (wx := [(a0, .inr (12, [.int (0 : Int32), .ref a1, .ref a2, .ref a3, .int v0.2.2.2.2.1, .int v0.2.2.2.2.2.1, .int v0.2.2.2.2.2.2.1, .int v0.2.2.2.2.2.2.2.1, .int v0.2.2.2.2.2.2.2.2.1, .long v0.2.2.2.2.2.2.2.2.2.1, .int v0.2.2.2.2.2.2.2.2.2.2.1, .int v0.2.2.2.2.2.2.2.2.2.2.2.1, .int v0.2.2.2.2.2.2.2.2.2.2.2.2.1, .ref a4, .int v0.2.2.2.2.2.2.2.2.2.2.2.2.2.2.1, .int v0.2.2.2.2.2.2.2.2.2.2.2.2.2.2.2.1, .int v0.2.2.2.2.2.2.2.2.2.2.2.2.2.2.2.2.1, .int v0.2.2.2.2.2.2.2.2.2.2.2.2.2.2.2.2.2.1, .int v0.2.2.2.2.2.2.2.2.2.2.2.2.2.2.2.2.2.2.1, .long v0.2.2.2.2.2.2.2.2.2.2.2.2.2.2.2.2.2.2.2.1, .long v0.2.2.2.2.2.2.2.2.2.2.2.2.2.2.2.2.2.2.2.2.1, .ref a5])), (a1, .inl (ca 0, 4725, .inl v0.2.1)), (a2, .inl (ca 2, 1500, .inl v0.2.2.1)), (a3, .inl (ca 3, 3, .inl v0.2.2.2.1)), (a4, .inl (ca 0, 22, .inl v0.2.2.2.2.2.2.2.2.2.2.2.2.2.1)), (a5, .inl (ca 0, 256, .inl v0.2.2.2.2.2.2.2.2.2.2.2.2.2.2.2.2.2.2.2.2.2))]) ⟨hx, hb, hml, hown, hts⟩ (c_X12_in l D ca zz  _ p1 (8 : Int32) (15 : Int32) r_1 hc1) (va_cwS 3 hts (gS gw_5_204 gw_5_205 gw_1_15 gw_5_206) rfl rfl rfl (by decide +kernel) ⟨(Nat.le_of_ble_eq_true rfl), (Nat.le_of_ble_eq_true rfl)⟩) hK hN hZ hA hP hD hS [] [none, none, none, none, none, none] (by decide +kernel) rfl rfl rfl rfl hl.1 rfl (Nat.le_of_ble_eq_true rfl) dX12_replayed_10 ⟨Nat.zero_le _, Nat.zero_le _⟩ rfl (fun H locs hP hD hS => ?_)
  refine xi_eq (tgt := 30) hx hb dX12_replayed_13 (by decide) hf (fun hf => ?_) (fun hf => ?_)
  · refine lv_iconst (v := -1) hx hb dX12_replayed_30 rfl ?_
    have he := Option.some.inj hf
    obtain ⟨e_r, he⟩ := Prod.mk.inj he
    have e_v0 := he
    refine rt_I hx hb hr hlocks hK hP hD hS hQ e_r ?_ dX12_replayed_31
    simp only [← e_v0]
  · refine lv_aload_n hx hb dX12_replayed_16 rfl (lv_at hl 0 rfl) ?_
    refine lv_iload_n hx hb dX12_replayed_17 rfl (lv_at hl 1 rfl) ?_
    refine lv_aload_n hx hb dX12_replayed_18 rfl (lv_at hl 0 rfl) ?_
    refine va_get (C := RX12) (T := TX12) (N := 22) hx hb hts i12 hown hK hP 0 rfl rfl 1 (Nat.le_of_ble_eq_true rfl) w1 (fun _ h9 => h9) rfl dX12_replayed_19 ?_
    refine lv_iconst (v := 1) hx hb dX12_replayed_22 rfl ?_
    refine xiald hx hb hK hP 1 rfl hf dX12_replayed_23 (fun hf => ?_)
    obtain ⟨r_2, u_3, hc3, hf⟩ := bnd2_el hf
    have hMhc3 := fun sz => c_X12_alarms l D ca zz a0 a1 a2 a3 a4 a5 sz (((0 : Int32), v0.2)) p1 (v0.2.1 ((1 : Int32)).toNatClampNeg) r_2 u_3 hc3
    dsimp only at hMhc3
    refine xV_I (As := [.int p1, .int (v0.2.1 ((1 : Int32)).toNatClampNeg)]) (wx := [(a0, .inr (12, [.int u_3.1, .ref a1, .ref a2, .ref a3, .int u_3.2.2.2.2.1, .int u_3.2.2.2.2.2.1, .int u_3.2.2.2.2.2.2.1, .int u_3.2.2.2.2.2.2.2.1, .int u_3.2.2.2.2.2.2.2.2.1, .long u_3.2.2.2.2.2.2.2.2.2.1, .int u_3.2.2.2.2.2.2.2.2.2.2.1, .int u_3.2.2.2.2.2.2.2.2.2.2.2.1, .int u_3.2.2.2.2.2.2.2.2.2.2.2.2.1, .ref a4, .int u_3.2.2.2.2.2.2.2.2.2.2.2.2.2.2.1, .int u_3.2.2.2.2.2.2.2.2.2.2.2.2.2.2.2.1, .int u_3.2.2.2.2.2.2.2.2.2.2.2.2.2.2.2.2.1, .int u_3.2.2.2.2.2.2.2.2.2.2.2.2.2.2.2.2.2.1, .int u_3.2.2.2.2.2.2.2.2.2.2.2.2.2.2.2.2.2.2.1, .long u_3.2.2.2.2.2.2.2.2.2.2.2.2.2.2.2.2.2.2.2.1, .long u_3.2.2.2.2.2.2.2.2.2.2.2.2.2.2.2.2.2.2.2.2.1, .ref a5])), (a1, .inl (ca 0, 4725, .inl u_3.2.1)), (a2, .inl (ca 2, 1500, .inl u_3.2.2.1)), (a3, .inl (ca 3, 3, .inl u_3.2.2.2.1)), (a4, .inl (ca 0, 22, .inl u_3.2.2.2.2.2.2.2.2.2.2.2.2.2.1)), (a5, .inl (ca 0, 256, .inl u_3.2.2.2.2.2.2.2.2.2.2.2.2.2.2.2.2.2.2.2.2.2))]) ⟨hx, hb, hml, hown, hts⟩ (hMhc3 _) (cwV 2 hts (gV gw_7_45 gw_7_47 gw_s_5_11 gw_1_15 gw_7_48) rfl rfl rfl (by decide +kernel) ⟨(Nat.le_of_ble_eq_true rfl), (Nat.le_of_ble_eq_true rfl)⟩) hK hN hZ hA hP hD hS [0, 1, 2, 3, 4, 5] [some 0, some 1, some 2, some 3, some 4, some 5] (by decide +kernel) rfl rfl rfl rfl 0 rfl rfl hl.1 rfl (Nat.le_of_ble_eq_true rfl) dX12_replayed_24 ⟨Nat.zero_le _, Nat.zero_le _⟩ rfl (fun H locs hP hD hS => ?_)
    refine lv_goto (tgt := 31) hx hb dX12_replayed_27 (by decide) ?_
    have he := Option.some.inj hf
    obtain ⟨e_r, he⟩ := Prod.mk.inj he
    have e_v0 := he
    refine rt_I hx hb hr hlocks hK hP hD hS hQ e_r ?_ dX12_replayed_31
    simp only [← e_v0]
abbrev wq_X12_fit : List Cond := Cond.code yX12_fit cX12_fit 2 (some .int) :: GL
set_option maxHeartbeats 4000000 in
set_option maxRecDepth 100000 in
theorem c_X12_fit (l : Launch) (D : va_G) (ca : Nat → ClassId) (zz : Nat → Nat) (a0 a1 a2 a3 a4 a5 : Nat) (sz : Nat) (v0 : V12) (r : Int32) (v0' : V12) (hf : f_X12_fit v0 = some (r, v0')) : Met l yX12_fit wq_X12_fit ({ frames := 5, cells := 0, slots := 0, locals := 117 } : Room) (PR D ca zz [.ref a0] sz [(a0, .inr (12, [.int v0.1, .ref a1, .ref a2, .ref a3, .int v0.2.2.2.2.1, .int v0.2.2.2.2.2.1, .int v0.2.2.2.2.2.2.1, .int v0.2.2.2.2.2.2.2.1, .int v0.2.2.2.2.2.2.2.2.1, .long v0.2.2.2.2.2.2.2.2.2.1, .int v0.2.2.2.2.2.2.2.2.2.2.1, .int v0.2.2.2.2.2.2.2.2.2.2.2.1, .int v0.2.2.2.2.2.2.2.2.2.2.2.2.1, .ref a4, .int v0.2.2.2.2.2.2.2.2.2.2.2.2.2.2.1, .int v0.2.2.2.2.2.2.2.2.2.2.2.2.2.2.2.1, .int v0.2.2.2.2.2.2.2.2.2.2.2.2.2.2.2.2.1, .int v0.2.2.2.2.2.2.2.2.2.2.2.2.2.2.2.2.2.1, .int v0.2.2.2.2.2.2.2.2.2.2.2.2.2.2.2.2.2.2.1, .long v0.2.2.2.2.2.2.2.2.2.2.2.2.2.2.2.2.2.2.2.1, .long v0.2.2.2.2.2.2.2.2.2.2.2.2.2.2.2.2.2.2.2.2.1, .ref a5])), (a1, .inl (ca 0, 4725, .inl v0.2.1)), (a2, .inl (ca 2, 1500, .inl v0.2.2.1)), (a3, .inl (ca 3, 3, .inl v0.2.2.2.1)), (a4, .inl (ca 0, 22, .inl v0.2.2.2.2.2.2.2.2.2.2.2.2.2.1)), (a5, .inl (ca 0, 256, .inl v0.2.2.2.2.2.2.2.2.2.2.2.2.2.2.2.2.2.2.2.2.2))]) (QI D ca r [(a0, .inr (12, [.int v0'.1, .ref a1, .ref a2, .ref a3, .int v0'.2.2.2.2.1, .int v0'.2.2.2.2.2.1, .int v0'.2.2.2.2.2.2.1, .int v0'.2.2.2.2.2.2.2.1, .int v0'.2.2.2.2.2.2.2.2.1, .long v0'.2.2.2.2.2.2.2.2.2.1, .int v0'.2.2.2.2.2.2.2.2.2.2.1, .int v0'.2.2.2.2.2.2.2.2.2.2.2.1, .int v0'.2.2.2.2.2.2.2.2.2.2.2.2.1, .ref a4, .int v0'.2.2.2.2.2.2.2.2.2.2.2.2.2.2.1, .int v0'.2.2.2.2.2.2.2.2.2.2.2.2.2.2.2.1, .int v0'.2.2.2.2.2.2.2.2.2.2.2.2.2.2.2.2.1, .int v0'.2.2.2.2.2.2.2.2.2.2.2.2.2.2.2.2.2.1, .int v0'.2.2.2.2.2.2.2.2.2.2.2.2.2.2.2.2.2.2.1, .long v0'.2.2.2.2.2.2.2.2.2.2.2.2.2.2.2.2.2.2.2.1, .long v0'.2.2.2.2.2.2.2.2.2.2.2.2.2.2.2.2.2.2.2.2.1, .ref a5])), (a1, .inl (ca 0, 4725, .inl v0'.2.1)), (a2, .inl (ca 2, 1500, .inl v0'.2.2.1)), (a3, .inl (ca 3, 3, .inl v0'.2.2.2.1)), (a4, .inl (ca 0, 22, .inl v0'.2.2.2.2.2.2.2.2.2.2.2.2.2.1)), (a5, .inl (ca 0, 256, .inl v0'.2.2.2.2.2.2.2.2.2.2.2.2.2.2.2.2.2.2.2.2.2))] (va_A [(a0, .inr (12, [.int v0.1, .ref a1, .ref a2, .ref a3, .int v0.2.2.2.2.1, .int v0.2.2.2.2.2.1, .int v0.2.2.2.2.2.2.1, .int v0.2.2.2.2.2.2.2.1, .int v0.2.2.2.2.2.2.2.2.1, .long v0.2.2.2.2.2.2.2.2.2.1, .int v0.2.2.2.2.2.2.2.2.2.2.1, .int v0.2.2.2.2.2.2.2.2.2.2.2.1, .int v0.2.2.2.2.2.2.2.2.2.2.2.2.1, .ref a4, .int v0.2.2.2.2.2.2.2.2.2.2.2.2.2.2.1, .int v0.2.2.2.2.2.2.2.2.2.2.2.2.2.2.2.1, .int v0.2.2.2.2.2.2.2.2.2.2.2.2.2.2.2.2.1, .int v0.2.2.2.2.2.2.2.2.2.2.2.2.2.2.2.2.2.1, .int v0.2.2.2.2.2.2.2.2.2.2.2.2.2.2.2.2.2.2.1, .long v0.2.2.2.2.2.2.2.2.2.2.2.2.2.2.2.2.2.2.2.1, .long v0.2.2.2.2.2.2.2.2.2.2.2.2.2.2.2.2.2.2.2.2.1, .ref a5])), (a1, .inl (ca 0, 4725, .inl v0.2.1)), (a2, .inl (ca 2, 1500, .inl v0.2.2.1)), (a3, .inl (ca 3, 3, .inl v0.2.2.2.1)), (a4, .inl (ca 0, 22, .inl v0.2.2.2.2.2.2.2.2.2.2.2.2.2.1)), (a5, .inl (ca 0, 256, .inl v0.2.2.2.2.2.2.2.2.2.2.2.2.2.2.2.2.2.2.2.2.2))] sz)) 0 0 (va_A [(a0, .inr (12, [.int v0.1, .ref a1, .ref a2, .ref a3, .int v0.2.2.2.2.1, .int v0.2.2.2.2.2.1, .int v0.2.2.2.2.2.2.1, .int v0.2.2.2.2.2.2.2.1, .int v0.2.2.2.2.2.2.2.2.1, .long v0.2.2.2.2.2.2.2.2.2.1, .int v0.2.2.2.2.2.2.2.2.2.2.1, .int v0.2.2.2.2.2.2.2.2.2.2.2.1, .int v0.2.2.2.2.2.2.2.2.2.2.2.2.1, .ref a4, .int v0.2.2.2.2.2.2.2.2.2.2.2.2.2.2.1, .int v0.2.2.2.2.2.2.2.2.2.2.2.2.2.2.2.1, .int v0.2.2.2.2.2.2.2.2.2.2.2.2.2.2.2.2.1, .int v0.2.2.2.2.2.2.2.2.2.2.2.2.2.2.2.2.2.1, .int v0.2.2.2.2.2.2.2.2.2.2.2.2.2.2.2.2.2.2.1, .long v0.2.2.2.2.2.2.2.2.2.2.2.2.2.2.2.2.2.2.2.1, .long v0.2.2.2.2.2.2.2.2.2.2.2.2.2.2.2.2.2.2.2.2.1, .ref a5])), (a1, .inl (ca 0, 4725, .inl v0.2.1)), (a2, .inl (ca 2, 1500, .inl v0.2.2.1)), (a3, .inl (ca 3, 3, .inl v0.2.2.2.1)), (a4, .inl (ca 0, 22, .inl v0.2.2.2.2.2.2.2.2.2.2.2.2.2.1)), (a5, .inl (ca 0, 256, .inl v0.2.2.2.2.2.2.2.2.2.2.2.2.2.2.2.2.2.2.2.2.2))] sz) := by
  refine en (y := yX12_fit) (wsm := wq_X12_fit) (av := [.ref a0]) (cc := cX12_fit) (maxL := 2) (ret := (some .int)) (Qf := fun A => (QI D ca r [(a0, .inr (12, [.int v0'.1, .ref a1, .ref a2, .ref a3, .int v0'.2.2.2.2.1, .int v0'.2.2.2.2.2.1, .int v0'.2.2.2.2.2.2.1, .int v0'.2.2.2.2.2.2.2.1, .int v0'.2.2.2.2.2.2.2.2.1, .long v0'.2.2.2.2.2.2.2.2.2.1, .int v0'.2.2.2.2.2.2.2.2.2.2.1, .int v0'.2.2.2.2.2.2.2.2.2.2.2.1, .int v0'.2.2.2.2.2.2.2.2.2.2.2.2.1, .ref a4, .int v0'.2.2.2.2.2.2.2.2.2.2.2.2.2.2.1, .int v0'.2.2.2.2.2.2.2.2.2.2.2.2.2.2.2.1, .int v0'.2.2.2.2.2.2.2.2.2.2.2.2.2.2.2.2.1, .int v0'.2.2.2.2.2.2.2.2.2.2.2.2.2.2.2.2.2.1, .int v0'.2.2.2.2.2.2.2.2.2.2.2.2.2.2.2.2.2.2.1, .long v0'.2.2.2.2.2.2.2.2.2.2.2.2.2.2.2.2.2.2.2.1, .long v0'.2.2.2.2.2.2.2.2.2.2.2.2.2.2.2.2.2.2.2.2.1, .ref a5])), (a1, .inl (ca 0, 4725, .inl v0'.2.1)), (a2, .inl (ca 2, 1500, .inl v0'.2.2.1)), (a3, .inl (ca 3, 3, .inl v0'.2.2.2.1)), (a4, .inl (ca 0, 22, .inl v0'.2.2.2.2.2.2.2.2.2.2.2.2.2.1)), (a5, .inl (ca 0, 256, .inl v0'.2.2.2.2.2.2.2.2.2.2.2.2.2.2.2.2.2.2.2.2.2))] A)) (by decide) rfl (Nat.le_of_ble_eq_true rfl) ?_
  intro p e s m args below meth c A Q ls hx hb hr hml hown hts hlocks hnm hA hN hZ hK hQ hP hD hS hl
  have w0 := hts _ (List.mem_cons_of_mem _ gw_5_115)
  have w1 := hts _ (List.mem_cons_of_mem _ gw_5_116)
  have i12 : ∀ w ∈ u_ws RX12 TX12 22, w ∈ wq_X12_fit := fun w h => List.mem_cons_of_mem _ (inX12 w h)
  have bl8 : ∀ (k8 : V12 → Int32 → Option (Int32 × V12)) (q8 : ∀ (v0 : V12) (x1 : Int32), k8 v0 x1 = some (r, v0') → ∀ (H : Heap) (locs : List Loc) (ls : Array Slot), va_P D vwCl [(a0, .inr (12, [.int v0.1, .ref a1, .ref a2, .ref a3, .int v0.2.2.2.2.1, .int v0.2.2.2.2.2.1, .int v0.2.2.2.2.2.2.1, .int v0.2.2.2.2.2.2.2.1, .int v0.2.2.2.2.2.2.2.2.1, .long v0.2.2.2.2.2.2.2.2.2.1, .int v0.2.2.2.2.2.2.2.2.2.2.1, .int v0.2.2.2.2.2.2.2.2.2.2.2.1, .int v0.2.2.2.2.2.2.2.2.2.2.2.2.1, .ref a4, .int v0.2.2.2.2.2.2.2.2.2.2.2.2.2.2.1, .int v0.2.2.2.2.2.2.2.2.2.2.2.2.2.2.2.1, .int v0.2.2.2.2.2.2.2.2.2.2.2.2.2.2.2.2.1, .int v0.2.2.2.2.2.2.2.2.2.2.2.2.2.2.2.2.2.1, .int v0.2.2.2.2.2.2.2.2.2.2.2.2.2.2.2.2.2.2.1, .long v0.2.2.2.2.2.2.2.2.2.2.2.2.2.2.2.2.2.2.2.1, .long v0.2.2.2.2.2.2.2.2.2.2.2.2.2.2.2.2.2.2.2.2.1, .ref a5])), (a1, .inl (ca 0, 4725, .inl v0.2.1)), (a2, .inl (ca 2, 1500, .inl v0.2.2.1)), (a3, .inl (ca 3, 3, .inl v0.2.2.2.1)), (a4, .inl (ca 0, 22, .inl v0.2.2.2.2.2.2.2.2.2.2.2.2.2.1)), (a5, .inl (ca 0, 256, .inl v0.2.2.2.2.2.2.2.2.2.2.2.2.2.2.2.2.2.2.2.2.2))] H → va_D A [(a0, .inr (12, [.int v0.1, .ref a1, .ref a2, .ref a3, .int v0.2.2.2.2.1, .int v0.2.2.2.2.2.1, .int v0.2.2.2.2.2.2.1, .int v0.2.2.2.2.2.2.2.1, .int v0.2.2.2.2.2.2.2.2.1, .long v0.2.2.2.2.2.2.2.2.2.1, .int v0.2.2.2.2.2.2.2.2.2.2.1, .int v0.2.2.2.2.2.2.2.2.2.2.2.1, .int v0.2.2.2.2.2.2.2.2.2.2.2.2.1, .ref a4, .int v0.2.2.2.2.2.2.2.2.2.2.2.2.2.2.1, .int v0.2.2.2.2.2.2.2.2.2.2.2.2.2.2.2.1, .int v0.2.2.2.2.2.2.2.2.2.2.2.2.2.2.2.2.1, .int v0.2.2.2.2.2.2.2.2.2.2.2.2.2.2.2.2.2.1, .int v0.2.2.2.2.2.2.2.2.2.2.2.2.2.2.2.2.2.2.1, .long v0.2.2.2.2.2.2.2.2.2.2.2.2.2.2.2.2.2.2.2.1, .long v0.2.2.2.2.2.2.2.2.2.2.2.2.2.2.2.2.2.2.2.2.1, .ref a5])), (a1, .inl (ca 0, 4725, .inl v0.2.1)), (a2, .inl (ca 2, 1500, .inl v0.2.2.1)), (a3, .inl (ca 3, 3, .inl v0.2.2.2.1)), (a4, .inl (ca 0, 22, .inl v0.2.2.2.2.2.2.2.2.2.2.2.2.2.1)), (a5, .inl (ca 0, 256, .inl v0.2.2.2.2.2.2.2.2.2.2.2.2.2.2.2.2.2.2.2.2.2))] → va_S A s.heap H locs → lv_has ls 2 [(0, .ref a0), (1, .int x1)] → W p l e ({ frames := 5, cells := 0, slots := 0, locals := 117 } : Room) s m args below meth c H locs 0 0 Q (F0 m 8 ls [])) (v0 : V12) (x1 : Int32), fl_X12_fit_8 k8 v0 x1 = some (r, v0') → ∀ (H : Heap) (locs : List Loc) (ls : Array Slot), va_P D vwCl [(a0, .inr (12, [.int v0.1, .ref a1, .ref a2, .ref a3, .int v0.2.2.2.2.1, .int v0.2.2.2.2.2.1, .int v0.2.2.2.2.2.2.1, .int v0.2.2.2.2.2.2.2.1, .int v0.2.2.2.2.2.2.2.2.1, .long v0.2.2.2.2.2.2.2.2.2.1, .int v0.2.2.2.2.2.2.2.2.2.2.1, .int v0.2.2.2.2.2.2.2.2.2.2.2.1, .int v0.2.2.2.2.2.2.2.2.2.2.2.2.1, .ref a4, .int v0.2.2.2.2.2.2.2.2.2.2.2.2.2.2.1, .int v0.2.2.2.2.2.2.2.2.2.2.2.2.2.2.2.1, .int v0.2.2.2.2.2.2.2.2.2.2.2.2.2.2.2.2.1, .int v0.2.2.2.2.2.2.2.2.2.2.2.2.2.2.2.2.2.1, .int v0.2.2.2.2.2.2.2.2.2.2.2.2.2.2.2.2.2.2.1, .long v0.2.2.2.2.2.2.2.2.2.2.2.2.2.2.2.2.2.2.2.1, .long v0.2.2.2.2.2.2.2.2.2.2.2.2.2.2.2.2.2.2.2.2.1, .ref a5])), (a1, .inl (ca 0, 4725, .inl v0.2.1)), (a2, .inl (ca 2, 1500, .inl v0.2.2.1)), (a3, .inl (ca 3, 3, .inl v0.2.2.2.1)), (a4, .inl (ca 0, 22, .inl v0.2.2.2.2.2.2.2.2.2.2.2.2.2.1)), (a5, .inl (ca 0, 256, .inl v0.2.2.2.2.2.2.2.2.2.2.2.2.2.2.2.2.2.2.2.2.2))] H → va_D A [(a0, .inr (12, [.int v0.1, .ref a1, .ref a2, .ref a3, .int v0.2.2.2.2.1, .int v0.2.2.2.2.2.1, .int v0.2.2.2.2.2.2.1, .int v0.2.2.2.2.2.2.2.1, .int v0.2.2.2.2.2.2.2.2.1, .long v0.2.2.2.2.2.2.2.2.2.1, .int v0.2.2.2.2.2.2.2.2.2.2.1, .int v0.2.2.2.2.2.2.2.2.2.2.2.1, .int v0.2.2.2.2.2.2.2.2.2.2.2.2.1, .ref a4, .int v0.2.2.2.2.2.2.2.2.2.2.2.2.2.2.1, .int v0.2.2.2.2.2.2.2.2.2.2.2.2.2.2.2.1, .int v0.2.2.2.2.2.2.2.2.2.2.2.2.2.2.2.2.1, .int v0.2.2.2.2.2.2.2.2.2.2.2.2.2.2.2.2.2.1, .int v0.2.2.2.2.2.2.2.2.2.2.2.2.2.2.2.2.2.2.1, .long v0.2.2.2.2.2.2.2.2.2.2.2.2.2.2.2.2.2.2.2.1, .long v0.2.2.2.2.2.2.2.2.2.2.2.2.2.2.2.2.2.2.2.2.1, .ref a5])), (a1, .inl (ca 0, 4725, .inl v0.2.1)), (a2, .inl (ca 2, 1500, .inl v0.2.2.1)), (a3, .inl (ca 3, 3, .inl v0.2.2.2.1)), (a4, .inl (ca 0, 22, .inl v0.2.2.2.2.2.2.2.2.2.2.2.2.2.1)), (a5, .inl (ca 0, 256, .inl v0.2.2.2.2.2.2.2.2.2.2.2.2.2.2.2.2.2.2.2.2.2))] → va_S A s.heap H locs → lv_has ls 2 [(0, .ref a0), (1, .int x1)] → W p l e ({ frames := 5, cells := 0, slots := 0, locals := 117 } : Room) s m args below meth c H locs 0 0 Q (F0 m 8 ls []) := by
    intro k8 q8 v0 x1 hf H locs ls hP hD hS hl
    unfold fl_X12_fit_8 at hf
    refine lv_iload_n hx hb dX12_fit_8 rfl (lv_at hl 1 rfl) ?_
    refine lv_bipush (v := 16) hx hb dX12_fit_9 rfl ?_
    refine xc_ge (tgt := 36) hx hb dX12_fit_11 (by decide) hf (fun hf => ?_) (fun hf => ?_)
    · refine lv_iconst (v := -1) hx hb dX12_fit_36 rfl ?_
      have he := Option.some.inj hf
      obtain ⟨e_r, he⟩ := Prod.mk.inj he
      have e_v0 := he
      refine rt_I hx hb hr hlocks hK hP hD hS hQ e_r ?_ dX12_fit_37
      simp only [← e_v0]
    · refine lv_aload_n hx hb dX12_fit_14 rfl (lv_at hl 0 rfl) ?_
      refine lv_iload_n hx hb dX12_fit_15 rfl (lv_at hl 1 rfl) ?_
      refine lv_aload_n hx hb dX12_fit_16 rfl (lv_at hl 0 rfl) ?_
      refine va_get (C := RX12) (T := TX12) (N := 22) hx hb hts i12 hown hK hP 0 rfl rfl 1 (Nat.le_of_ble_eq_true rfl) w1 (fun _ h9 => h9) rfl dX12_fit_17 ?_
      refine lv_iconst (v := 1) hx hb dX12_fit_20 rfl ?_
      refine xiald hx hb hK hP 1 rfl hf dX12_fit_21 (fun hf => ?_)
      obtain ⟨r_1, u_2, hc2, hf⟩ := bnd2_el hf
      refine xV_I (As := [.int x1, .int (v0.2.1 ((1 : Int32)).toNatClampNeg)]) (wx := [(a0, .inr (12, [.int u_2.1, .ref a1, .ref a2, .ref a3, .int u_2.2.2.2.2.1, .int u_2.2.2.2.2.2.1, .int u_2.2.2.2.2.2.2.1, .int u_2.2.2.2.2.2.2.2.1, .int u_2.2.2.2.2.2.2.2.2.1, .long u_2.2.2.2.2.2.2.2.2.2.1, .int u_2.2.2.2.2.2.2.2.2.2.2.1, .int u_2.2.2.2.2.2.2.2.2.2.2.2.1, .int u_2.2.2.2.2.2.2.2.2.2.2.2.2.1, .ref a4, .int u_2.2.2.2.2.2.2.2.2.2.2.2.2.2.2.1, .int u_2.2.2.2.2.2.2.2.2.2.2.2.2.2.2.2.1, .int u_2.2.2.2.2.2.2.2.2.2.2.2.2.2.2.2.2.1, .int u_2.2.2.2.2.2.2.2.2.2.2.2.2.2.2.2.2.2.1, .int u_2.2.2.2.2.2.2.2.2.2.2.2.2.2.2.2.2.2.2.1, .long u_2.2.2.2.2.2.2.2.2.2.2.2.2.2.2.2.2.2.2.2.1, .long u_2.2.2.2.2.2.2.2.2.2.2.2.2.2.2.2.2.2.2.2.2.1, .ref a5])), (a1, .inl (ca 0, 4725, .inl u_2.2.1)), (a2, .inl (ca 2, 1500, .inl u_2.2.2.1)), (a3, .inl (ca 3, 3, .inl u_2.2.2.2.1)), (a4, .inl (ca 0, 22, .inl u_2.2.2.2.2.2.2.2.2.2.2.2.2.2.1)), (a5, .inl (ca 0, 256, .inl u_2.2.2.2.2.2.2.2.2.2.2.2.2.2.2.2.2.2.2.2.2.2))]) ⟨hx, hb, hml, hown, hts⟩ (c_X12_alarms l D ca zz a0 a1 a2 a3 a4 a5 _ v0 x1 (v0.2.1 ((1 : Int32)).toNatClampNeg) r_1 u_2 hc2) (cwV 2 hts (gV gw_7_45 gw_7_47 gw_s_5_11 gw_1_15 gw_7_48) rfl rfl rfl (by decide +kernel) ⟨(Nat.le_of_ble_eq_true rfl), (Nat.le_of_ble_eq_true rfl)⟩) hK hN hZ hA hP hD hS [0, 1, 2, 3, 4, 5] [some 0, some 1, some 2, some 3, some 4, some 5] (by decide +kernel) rfl rfl rfl rfl 0 rfl rfl hl.1 rfl (Nat.le_of_ble_eq_true rfl) dX12_fit_22 ⟨Nat.zero_le _, Nat.zero_le _⟩ rfl (fun H locs hP hD hS => ?_)
      refine xi_ne (tgt := 30) hx hb dX12_fit_25 (by decide) hf (fun hf => ?_) (fun hf => ?_)
      · obtain ⟨x_3, ex_3, hf⟩ := bnd_el hf
        refine lv_iinc (v := x_3) (lv' := [(1, .int x_3), (0, .ref a0)]) hx hb dX12_fit_30 hl (k := 1) rfl (by rw [ex_3]; rfl) (Nat.le_of_ble_eq_true rfl) rfl (fun ls hl => ?_)
        refine lv_goto (tgt := 8) hx hb dX12_fit_33 (by decide) ?_
        exact q8 u_2 x_3 hf _ _ _ hP hD hS (lv_sub hl [1, 0] rfl)
      · refine lv_iload_n hx hb dX12_fit_28 rfl (lv_at hl 1 rfl) ?_
        have he := Option.some.inj hf
        obtain ⟨e_r, he⟩ := Prod.mk.inj he
        have e_v0 := he
        refine rt_I hx hb hr hlocks hK hP hD hS hQ e_r ?_ dX12_fit_29
        simp only [← e_v0]
  have b8 : ∀ (n : Nat) (v0 : V12) (x1 : Int32), fb_X12_fit_8 n v0 x1 = some (r, v0') → ∀ (H : Heap) (locs : List Loc) (ls : Array Slot), va_P D vwCl [(a0, .inr (12, [.int v0.1, .ref a1, .ref a2, .ref a3, .int v0.2.2.2.2.1, .int v0.2.2.2.2.2.1, .int v0.2.2.2.2.2.2.1, .int v0.2.2.2.2.2.2.2.1, .int v0.2.2.2.2.2.2.2.2.1, .long v0.2.2.2.2.2.2.2.2.2.1, .int v0.2.2.2.2.2.2.2.2.2.2.1, .int v0.2.2.2.2.2.2.2.2.2.2.2.1, .int v0.2.2.2.2.2.2.2.2.2.2.2.2.1, .ref a4, .int v0.2.2.2.2.2.2.2.2.2.2.2.2.2.2.1, .int v0.2.2.2.2.2.2.2.2.2.2.2.2.2.2.2.1, .int v0.2.2.2.2.2.2.2.2.2.2.2.2.2.2.2.2.1, .int v0.2.2.2.2.2.2.2.2.2.2.2.2.2.2.2.2.2.1, .int v0.2.2.2.2.2.2.2.2.2.2.2.2.2.2.2.2.2.2.1, .long v0.2.2.2.2.2.2.2.2.2.2.2.2.2.2.2.2.2.2.2.1, .long v0.2.2.2.2.2.2.2.2.2.2.2.2.2.2.2.2.2.2.2.2.1, .ref a5])), (a1, .inl (ca 0, 4725, .inl v0.2.1)), (a2, .inl (ca 2, 1500, .inl v0.2.2.1)), (a3, .inl (ca 3, 3, .inl v0.2.2.2.1)), (a4, .inl (ca 0, 22, .inl v0.2.2.2.2.2.2.2.2.2.2.2.2.2.1)), (a5, .inl (ca 0, 256, .inl v0.2.2.2.2.2.2.2.2.2.2.2.2.2.2.2.2.2.2.2.2.2))] H → va_D A [(a0, .inr (12, [.int v0.1, .ref a1, .ref a2, .ref a3, .int v0.2.2.2.2.1, .int v0.2.2.2.2.2.1, .int v0.2.2.2.2.2.2.1, .int v0.2.2.2.2.2.2.2.1, .int v0.2.2.2.2.2.2.2.2.1, .long v0.2.2.2.2.2.2.2.2.2.1, .int v0.2.2.2.2.2.2.2.2.2.2.1, .int v0.2.2.2.2.2.2.2.2.2.2.2.1, .int v0.2.2.2.2.2.2.2.2.2.2.2.2.1, .ref a4, .int v0.2.2.2.2.2.2.2.2.2.2.2.2.2.2.1, .int v0.2.2.2.2.2.2.2.2.2.2.2.2.2.2.2.1, .int v0.2.2.2.2.2.2.2.2.2.2.2.2.2.2.2.2.1, .int v0.2.2.2.2.2.2.2.2.2.2.2.2.2.2.2.2.2.1, .int v0.2.2.2.2.2.2.2.2.2.2.2.2.2.2.2.2.2.2.1, .long v0.2.2.2.2.2.2.2.2.2.2.2.2.2.2.2.2.2.2.2.1, .long v0.2.2.2.2.2.2.2.2.2.2.2.2.2.2.2.2.2.2.2.2.1, .ref a5])), (a1, .inl (ca 0, 4725, .inl v0.2.1)), (a2, .inl (ca 2, 1500, .inl v0.2.2.1)), (a3, .inl (ca 3, 3, .inl v0.2.2.2.1)), (a4, .inl (ca 0, 22, .inl v0.2.2.2.2.2.2.2.2.2.2.2.2.2.1)), (a5, .inl (ca 0, 256, .inl v0.2.2.2.2.2.2.2.2.2.2.2.2.2.2.2.2.2.2.2.2.2))] → va_S A s.heap H locs → lv_has ls 2 [(0, .ref a0), (1, .int x1)] → W p l e ({ frames := 5, cells := 0, slots := 0, locals := 117 } : Room) s m args below meth c H locs 0 0 Q (F0 m 8 ls []) := by
    intro n
    induction n with
    | zero => intro v0 x1 hf; exact no_el hf
    | succ n ih => exact bl8 (fb_X12_fit_8 n) ih
  unfold f_X12_fit at hf
  refine lv_aload_n hx hb dX12_fit_0 rfl (lv_at hl 0 rfl) ?_
  refine lv_iconst (v := 0) hx hb dX12_fit_1 rfl ?_
  refine xput (C := RX12) (T := TX12) (N := 22) (wx := [(a0, .inr (12, [.int (0 : Int32), .ref a1, .ref a2, .ref a3, .int v0.2.2.2.2.1, .int v0.2.2.2.2.2.1, .int v0.2.2.2.2.2.2.1, .int v0.2.2.2.2.2.2.2.1, .int v0.2.2.2.2.2.2.2.2.1, .long v0.2.2.2.2.2.2.2.2.2.1, .int v0.2.2.2.2.2.2.2.2.2.2.1, .int v0.2.2.2.2.2.2.2.2.2.2.2.1, .int v0.2.2.2.2.2.2.2.2.2.2.2.2.1, .ref a4, .int v0.2.2.2.2.2.2.2.2.2.2.2.2.2.2.1, .int v0.2.2.2.2.2.2.2.2.2.2.2.2.2.2.2.1, .int v0.2.2.2.2.2.2.2.2.2.2.2.2.2.2.2.2.1, .int v0.2.2.2.2.2.2.2.2.2.2.2.2.2.2.2.2.2.1, .int v0.2.2.2.2.2.2.2.2.2.2.2.2.2.2.2.2.2.2.1, .long v0.2.2.2.2.2.2.2.2.2.2.2.2.2.2.2.2.2.2.2.1, .long v0.2.2.2.2.2.2.2.2.2.2.2.2.2.2.2.2.2.2.2.2.1, .ref a5])), (a1, .inl (ca 0, 4725, .inl v0.2.1)), (a2, .inl (ca 2, 1500, .inl v0.2.2.1)), (a3, .inl (ca 3, 3, .inl v0.2.2.2.1)), (a4, .inl (ca 0, 22, .inl v0.2.2.2.2.2.2.2.2.2.2.2.2.2.1)), (a5, .inl (ca 0, 256, .inl v0.2.2.2.2.2.2.2.2.2.2.2.2.2.2.2.2.2.2.2.2.2))]) hx hb hts i12 tyX12 tyX12_ok nmX12 hown hK hP hD hS 0 rfl rfl 0 (Nat.le_of_ble_eq_true rfl) w0 (fun _ h9 => h9) rfl rfl rfl rfl (Nat.le_of_ble_eq_true rfl) dX12_fit_2 rfl (fun H locs hP hD hS => ?_)
  refine lv_bipush (v := 8) hx hb dX12_fit_5 rfl ?_
  refine lv_istore_n (lv' := [(1, .int (8 : Int32)), (0, .ref a0)]) hx hb dX12_fit_7 rfl hl (Nat.le_of_ble_eq_true rfl) rfl (fun ls hl => ?_)
  have jb := b8 FU (((0 : Int32), v0.2)) (8 : Int32)
  dsimp only at jb
  exact jb hf _ _ _ hP hD hS (lv_sub hl [1, 0] rfl)
end mp_14_cM18
section mp_14_cM19
abbrev wq_X12_keen : List Cond := Cond.code yX12_keen cX12_keen 2 (some .int) :: GL
set_option maxHeartbeats 4000000 in
set_option maxRecDepth 100000 in
theorem c_X12_keen (l : Launch) (D : va_G) (ca : Nat → ClassId) (zz : Nat → Nat) (a0 a1 a2 a3 a4 a5 : Nat) (sz : Nat) (v0 : V12) (r : Int32) (v0' : V12) (hf : f_X12_keen v0 = some (r, v0')) : Met l yX12_keen wq_X12_keen ({ frames := 5, cells := 0, slots := 0, locals := 117 } : Room) (PR D ca zz [.ref a0] sz [(a0, .inr (12, [.int v0.1, .ref a1, .ref a2, .ref a3, .int v0.2.2.2.2.1, .int v0.2.2.2.2.2.1, .int v0.2.2.2.2.2.2.1, .int v0.2.2.2.2.2.2.2.1, .int v0.2.2.2.2.2.2.2.2.1, .long v0.2.2.2.2.2.2.2.2.2.1, .int v0.2.2.2.2.2.2.2.2.2.2.1, .int v0.2.2.2.2.2.2.2.2.2.2.2.1, .int v0.2.2.2.2.2.2.2.2.2.2.2.2.1, .ref a4, .int v0.2.2.2.2.2.2.2.2.2.2.2.2.2.2.1, .int v0.2.2.2.2.2.2.2.2.2.2.2.2.2.2.2.1, .int v0.2.2.2.2.2.2.2.2.2.2.2.2.2.2.2.2.1, .int v0.2.2.2.2.2.2.2.2.2.2.2.2.2.2.2.2.2.1, .int v0.2.2.2.2.2.2.2.2.2.2.2.2.2.2.2.2.2.2.1, .long v0.2.2.2.2.2.2.2.2.2.2.2.2.2.2.2.2.2.2.2.1, .long v0.2.2.2.2.2.2.2.2.2.2.2.2.2.2.2.2.2.2.2.2.1, .ref a5])), (a1, .inl (ca 0, 4725, .inl v0.2.1)), (a2, .inl (ca 2, 1500, .inl v0.2.2.1)), (a3, .inl (ca 3, 3, .inl v0.2.2.2.1)), (a4, .inl (ca 0, 22, .inl v0.2.2.2.2.2.2.2.2.2.2.2.2.2.1)), (a5, .inl (ca 0, 256, .inl v0.2.2.2.2.2.2.2.2.2.2.2.2.2.2.2.2.2.2.2.2.2))]) (QI D ca r [(a0, .inr (12, [.int v0'.1, .ref a1, .ref a2, .ref a3, .int v0'.2.2.2.2.1, .int v0'.2.2.2.2.2.1, .int v0'.2.2.2.2.2.2.1, .int v0'.2.2.2.2.2.2.2.1, .int v0'.2.2.2.2.2.2.2.2.1, .long v0'.2.2.2.2.2.2.2.2.2.1, .int v0'.2.2.2.2.2.2.2.2.2.2.1, .int v0'.2.2.2.2.2.2.2.2.2.2.2.1, .int v0'.2.2.2.2.2.2.2.2.2.2.2.2.1, .ref a4, .int v0'.2.2.2.2.2.2.2.2.2.2.2.2.2.2.1, .int v0'.2.2.2.2.2.2.2.2.2.2.2.2.2.2.2.1, .int v0'.2.2.2.2.2.2.2.2.2.2.2.2.2.2.2.2.1, .int v0'.2.2.2.2.2.2.2.2.2.2.2.2.2.2.2.2.2.1, .int v0'.2.2.2.2.2.2.2.2.2.2.2.2.2.2.2.2.2.2.1, .long v0'.2.2.2.2.2.2.2.2.2.2.2.2.2.2.2.2.2.2.2.1, .long v0'.2.2.2.2.2.2.2.2.2.2.2.2.2.2.2.2.2.2.2.2.1, .ref a5])), (a1, .inl (ca 0, 4725, .inl v0'.2.1)), (a2, .inl (ca 2, 1500, .inl v0'.2.2.1)), (a3, .inl (ca 3, 3, .inl v0'.2.2.2.1)), (a4, .inl (ca 0, 22, .inl v0'.2.2.2.2.2.2.2.2.2.2.2.2.2.1)), (a5, .inl (ca 0, 256, .inl v0'.2.2.2.2.2.2.2.2.2.2.2.2.2.2.2.2.2.2.2.2.2))] (va_A [(a0, .inr (12, [.int v0.1, .ref a1, .ref a2, .ref a3, .int v0.2.2.2.2.1, .int v0.2.2.2.2.2.1, .int v0.2.2.2.2.2.2.1, .int v0.2.2.2.2.2.2.2.1, .int v0.2.2.2.2.2.2.2.2.1, .long v0.2.2.2.2.2.2.2.2.2.1, .int v0.2.2.2.2.2.2.2.2.2.2.1, .int v0.2.2.2.2.2.2.2.2.2.2.2.1, .int v0.2.2.2.2.2.2.2.2.2.2.2.2.1, .ref a4, .int v0.2.2.2.2.2.2.2.2.2.2.2.2.2.2.1, .int v0.2.2.2.2.2.2.2.2.2.2.2.2.2.2.2.1, .int v0.2.2.2.2.2.2.2.2.2.2.2.2.2.2.2.2.1, .int v0.2.2.2.2.2.2.2.2.2.2.2.2.2.2.2.2.2.1, .int v0.2.2.2.2.2.2.2.2.2.2.2.2.2.2.2.2.2.2.1, .long v0.2.2.2.2.2.2.2.2.2.2.2.2.2.2.2.2.2.2.2.1, .long v0.2.2.2.2.2.2.2.2.2.2.2.2.2.2.2.2.2.2.2.2.1, .ref a5])), (a1, .inl (ca 0, 4725, .inl v0.2.1)), (a2, .inl (ca 2, 1500, .inl v0.2.2.1)), (a3, .inl (ca 3, 3, .inl v0.2.2.2.1)), (a4, .inl (ca 0, 22, .inl v0.2.2.2.2.2.2.2.2.2.2.2.2.2.1)), (a5, .inl (ca 0, 256, .inl v0.2.2.2.2.2.2.2.2.2.2.2.2.2.2.2.2.2.2.2.2.2))] sz)) 0 0 (va_A [(a0, .inr (12, [.int v0.1, .ref a1, .ref a2, .ref a3, .int v0.2.2.2.2.1, .int v0.2.2.2.2.2.1, .int v0.2.2.2.2.2.2.1, .int v0.2.2.2.2.2.2.2.1, .int v0.2.2.2.2.2.2.2.2.1, .long v0.2.2.2.2.2.2.2.2.2.1, .int v0.2.2.2.2.2.2.2.2.2.2.1, .int v0.2.2.2.2.2.2.2.2.2.2.2.1, .int v0.2.2.2.2.2.2.2.2.2.2.2.2.1, .ref a4, .int v0.2.2.2.2.2.2.2.2.2.2.2.2.2.2.1, .int v0.2.2.2.2.2.2.2.2.2.2.2.2.2.2.2.1, .int v0.2.2.2.2.2.2.2.2.2.2.2.2.2.2.2.2.1, .int v0.2.2.2.2.2.2.2.2.2.2.2.2.2.2.2.2.2.1, .int v0.2.2.2.2.2.2.2.2.2.2.2.2.2.2.2.2.2.2.1, .long v0.2.2.2.2.2.2.2.2.2.2.2.2.2.2.2.2.2.2.2.1, .long v0.2.2.2.2.2.2.2.2.2.2.2.2.2.2.2.2.2.2.2.2.1, .ref a5])), (a1, .inl (ca 0, 4725, .inl v0.2.1)), (a2, .inl (ca 2, 1500, .inl v0.2.2.1)), (a3, .inl (ca 3, 3, .inl v0.2.2.2.1)), (a4, .inl (ca 0, 22, .inl v0.2.2.2.2.2.2.2.2.2.2.2.2.2.1)), (a5, .inl (ca 0, 256, .inl v0.2.2.2.2.2.2.2.2.2.2.2.2.2.2.2.2.2.2.2.2.2))] sz) := by
  refine en (y := yX12_keen) (wsm := wq_X12_keen) (av := [.ref a0]) (cc := cX12_keen) (maxL := 2) (ret := (some .int)) (Qf := fun A => (QI D ca r [(a0, .inr (12, [.int v0'.1, .ref a1, .ref a2, .ref a3, .int v0'.2.2.2.2.1, .int v0'.2.2.2.2.2.1, .int v0'.2.2.2.2.2.2.1, .int v0'.2.2.2.2.2.2.2.1, .int v0'.2.2.2.2.2.2.2.2.1, .long v0'.2.2.2.2.2.2.2.2.2.1, .int v0'.2.2.2.2.2.2.2.2.2.2.1, .int v0'.2.2.2.2.2.2.2.2.2.2.2.1, .int v0'.2.2.2.2.2.2.2.2.2.2.2.2.1, .ref a4, .int v0'.2.2.2.2.2.2.2.2.2.2.2.2.2.2.1, .int v0'.2.2.2.2.2.2.2.2.2.2.2.2.2.2.2.1, .int v0'.2.2.2.2.2.2.2.2.2.2.2.2.2.2.2.2.1, .int v0'.2.2.2.2.2.2.2.2.2.2.2.2.2.2.2.2.2.1, .int v0'.2.2.2.2.2.2.2.2.2.2.2.2.2.2.2.2.2.2.1, .long v0'.2.2.2.2.2.2.2.2.2.2.2.2.2.2.2.2.2.2.2.1, .long v0'.2.2.2.2.2.2.2.2.2.2.2.2.2.2.2.2.2.2.2.2.1, .ref a5])), (a1, .inl (ca 0, 4725, .inl v0'.2.1)), (a2, .inl (ca 2, 1500, .inl v0'.2.2.1)), (a3, .inl (ca 3, 3, .inl v0'.2.2.2.1)), (a4, .inl (ca 0, 22, .inl v0'.2.2.2.2.2.2.2.2.2.2.2.2.2.1)), (a5, .inl (ca 0, 256, .inl v0'.2.2.2.2.2.2.2.2.2.2.2.2.2.2.2.2.2.2.2.2.2))] A)) (by decide) rfl (Nat.le_of_ble_eq_true rfl) ?_
  intro p e s m args below meth c A Q ls hx hb hr hml hown hts hlocks hnm hA hN hZ hK hQ hP hD hS hl
  have w0 := hts _ (List.mem_cons_of_mem _ gw_5_115)
  have w1 := hts _ (List.mem_cons_of_mem _ gw_5_116)
  have i12 : ∀ w ∈ u_ws RX12 TX12 22, w ∈ wq_X12_keen := fun w h => List.mem_cons_of_mem _ (inX12 w h)
  have bl7 : ∀ (k7 : V12 → Int32 → Option (Int32 × V12)) (q7 : ∀ (v0 : V12) (x1 : Int32), k7 v0 x1 = some (r, v0') → ∀ (H : Heap) (locs : List Loc) (ls : Array Slot), va_P D vwCl [(a0, .inr (12, [.int v0.1, .ref a1, .ref a2, .ref a3, .int v0.2.2.2.2.1, .int v0.2.2.2.2.2.1, .int v0.2.2.2.2.2.2.1, .int v0.2.2.2.2.2.2.2.1, .int v0.2.2.2.2.2.2.2.2.1, .long v0.2.2.2.2.2.2.2.2.2.1, .int v0.2.2.2.2.2.2.2.2.2.2.1, .int v0.2.2.2.2.2.2.2.2.2.2.2.1, .int v0.2.2.2.2.2.2.2.2.2.2.2.2.1, .ref a4, .int v0.2.2.2.2.2.2.2.2.2.2.2.2.2.2.1, .int v0.2.2.2.2.2.2.2.2.2.2.2.2.2.2.2.1, .int v0.2.2.2.2.2.2.2.2.2.2.2.2.2.2.2.2.1, .int v0.2.2.2.2.2.2.2.2.2.2.2.2.2.2.2.2.2.1, .int v0.2.2.2.2.2.2.2.2.2.2.2.2.2.2.2.2.2.2.1, .long v0.2.2.2.2.2.2.2.2.2.2.2.2.2.2.2.2.2.2.2.1, .long v0.2.2.2.2.2.2.2.2.2.2.2.2.2.2.2.2.2.2.2.2.1, .ref a5])), (a1, .inl (ca 0, 4725, .inl v0.2.1)), (a2, .inl (ca 2, 1500, .inl v0.2.2.1)), (a3, .inl (ca 3, 3, .inl v0.2.2.2.1)), (a4, .inl (ca 0, 22, .inl v0.2.2.2.2.2.2.2.2.2.2.2.2.2.1)), (a5, .inl (ca 0, 256, .inl v0.2.2.2.2.2.2.2.2.2.2.2.2.2.2.2.2.2.2.2.2.2))] H → va_D A [(a0, .inr (12, [.int v0.1, .ref a1, .ref a2, .ref a3, .int v0.2.2.2.2.1, .int v0.2.2.2.2.2.1, .int v0.2.2.2.2.2.2.1, .int v0.2.2.2.2.2.2.2.1, .int v0.2.2.2.2.2.2.2.2.1, .long v0.2.2.2.2.2.2.2.2.2.1, .int v0.2.2.2.2.2.2.2.2.2.2.1, .int v0.2.2.2.2.2.2.2.2.2.2.2.1, .int v0.2.2.2.2.2.2.2.2.2.2.2.2.1, .ref a4, .int v0.2.2.2.2.2.2.2.2.2.2.2.2.2.2.1, .int v0.2.2.2.2.2.2.2.2.2.2.2.2.2.2.2.1, .int v0.2.2.2.2.2.2.2.2.2.2.2.2.2.2.2.2.1, .int v0.2.2.2.2.2.2.2.2.2.2.2.2.2.2.2.2.2.1, .int v0.2.2.2.2.2.2.2.2.2.2.2.2.2.2.2.2.2.2.1, .long v0.2.2.2.2.2.2.2.2.2.2.2.2.2.2.2.2.2.2.2.1, .long v0.2.2.2.2.2.2.2.2.2.2.2.2.2.2.2.2.2.2.2.2.1, .ref a5])), (a1, .inl (ca 0, 4725, .inl v0.2.1)), (a2, .inl (ca 2, 1500, .inl v0.2.2.1)), (a3, .inl (ca 3, 3, .inl v0.2.2.2.1)), (a4, .inl (ca 0, 22, .inl v0.2.2.2.2.2.2.2.2.2.2.2.2.2.1)), (a5, .inl (ca 0, 256, .inl v0.2.2.2.2.2.2.2.2.2.2.2.2.2.2.2.2.2.2.2.2.2))] → va_S A s.heap H locs → lv_has ls 2 [(0, .ref a0), (1, .int x1)] → W p l e ({ frames := 5, cells := 0, slots := 0, locals := 117 } : Room) s m args below meth c H locs 0 0 Q (F0 m 7 ls [])) (v0 : V12) (x1 : Int32), fl_X12_keen_7 k7 v0 x1 = some (r, v0') → ∀ (H : Heap) (locs : List Loc) (ls : Array Slot), va_P D vwCl [(a0, .inr (12, [.int v0.1, .ref a1, .ref a2, .ref a3, .int v0.2.2.2.2.1, .int v0.2.2.2.2.2.1, .int v0.2.2.2.2.2.2.1, .int v0.2.2.2.2.2.2.2.1, .int v0.2.2.2.2.2.2.2.2.1, .long v0.2.2.2.2.2.2.2.2.2.1, .int v0.2.2.2.2.2.2.2.2.2.2.1, .int v0.2.2.2.2.2.2.2.2.2.2.2.1, .int v0.2.2.2.2.2.2.2.2.2.2.2.2.1, .ref a4, .int v0.2.2.2.2.2.2.2.2.2.2.2.2.2.2.1, .int v0.2.2.2.2.2.2.2.2.2.2.2.2.2.2.2.1, .int v0.2.2.2.2.2.2.2.2.2.2.2.2.2.2.2.2.1, .int v0.2.2.2.2.2.2.2.2.2.2.2.2.2.2.2.2.2.1, .int v0.2.2.2.2.2.2.2.2.2.2.2.2.2.2.2.2.2.2.1, .long v0.2.2.2.2.2.2.2.2.2.2.2.2.2.2.2.2.2.2.2.1, .long v0.2.2.2.2.2.2.2.2.2.2.2.2.2.2.2.2.2.2.2.2.1, .ref a5])), (a1, .inl (ca 0, 4725, .inl v0.2.1)), (a2, .inl (ca 2, 1500, .inl v0.2.2.1)), (a3, .inl (ca 3, 3, .inl v0.2.2.2.1)), (a4, .inl (ca 0, 22, .inl v0.2.2.2.2.2.2.2.2.2.2.2.2.2.1)), (a5, .inl (ca 0, 256, .inl v0.2.2.2.2.2.2.2.2.2.2.2.2.2.2.2.2.2.2.2.2.2))] H → va_D A [(a0, .inr (12, [.int v0.1, .ref a1, .ref a2, .ref a3, .int v0.2.2.2.2.1, .int v0.2.2.2.2.2.1, .int v0.2.2.2.2.2.2.1, .int v0.2.2.2.2.2.2.2.1, .int v0.2.2.2.2.2.2.2.2.1, .long v0.2.2.2.2.2.2.2.2.2.1, .int v0.2.2.2.2.2.2.2.2.2.2.1, .int v0.2.2.2.2.2.2.2.2.2.2.2.1, .int v0.2.2.2.2.2.2.2.2.2.2.2.2.1, .ref a4, .int v0.2.2.2.2.2.2.2.2.2.2.2.2.2.2.1, .int v0.2.2.2.2.2.2.2.2.2.2.2.2.2.2.2.1, .int v0.2.2.2.2.2.2.2.2.2.2.2.2.2.2.2.2.1, .int v0.2.2.2.2.2.2.2.2.2.2.2.2.2.2.2.2.2.1, .int v0.2.2.2.2.2.2.2.2.2.2.2.2.2.2.2.2.2.2.1, .long v0.2.2.2.2.2.2.2.2.2.2.2.2.2.2.2.2.2.2.2.1, .long v0.2.2.2.2.2.2.2.2.2.2.2.2.2.2.2.2.2.2.2.2.1, .ref a5])), (a1, .inl (ca 0, 4725, .inl v0.2.1)), (a2, .inl (ca 2, 1500, .inl v0.2.2.1)), (a3, .inl (ca 3, 3, .inl v0.2.2.2.1)), (a4, .inl (ca 0, 22, .inl v0.2.2.2.2.2.2.2.2.2.2.2.2.2.1)), (a5, .inl (ca 0, 256, .inl v0.2.2.2.2.2.2.2.2.2.2.2.2.2.2.2.2.2.2.2.2.2))] → va_S A s.heap H locs → lv_has ls 2 [(0, .ref a0), (1, .int x1)] → W p l e ({ frames := 5, cells := 0, slots := 0, locals := 117 } : Room) s m args below meth c H locs 0 0 Q (F0 m 7 ls []) := by
    intro k7 q7 v0 x1 hf H locs ls hP hD hS hl
    unfold fl_X12_keen_7 at hf
    refine lv_iload_n hx hb dX12_keen_7 rfl (lv_at hl 1 rfl) ?_
    refine lv_bipush (v := 40) hx hb dX12_keen_8 rfl ?_
    refine xc_gt (tgt := 35) hx hb dX12_keen_10 (by decide) hf (fun hf => ?_) (fun hf => ?_)
    · refine lv_iconst (v := -1) hx hb dX12_keen_35 rfl ?_
      have he := Option.some.inj hf
      obtain ⟨e_r, he⟩ := Prod.mk.inj he
      have e_v0 := he
      refine rt_I hx hb hr hlocks hK hP hD hS hQ e_r ?_ dX12_keen_36
      simp only [← e_v0]
    · refine lv_aload_n hx hb dX12_keen_13 rfl (lv_at hl 0 rfl) ?_
      refine lv_aload_n hx hb dX12_keen_14 rfl (lv_at hl 0 rfl) ?_
      refine va_get (C := RX12) (T := TX12) (N := 22) hx hb hts i12 hown hK hP 0 rfl rfl 1 (Nat.le_of_ble_eq_true rfl) w1 (fun _ h9 => h9) rfl dX12_keen_15 ?_
      refine lv_iconst (v := 0) hx hb dX12_keen_18 rfl ?_
      refine xiald hx hb hK hP 1 rfl hf dX12_keen_19 (fun hf => ?_)
      refine lv_iload_n hx hb dX12_keen_20 rfl (lv_at hl 1 rfl) ?_
      obtain ⟨r_1, u_2, hc2, hf⟩ := bnd2_el hf
      refine xV_I (As := [.int (v0.2.1 ((0 : Int32)).toNatClampNeg), .int x1]) (wx := [(a0, .inr (12, [.int u_2.1, .ref a1, .ref a2, .ref a3, .int u_2.2.2.2.2.1, .int u_2.2.2.2.2.2.1, .int u_2.2.2.2.2.2.2.1, .int u_2.2.2.2.2.2.2.2.1, .int u_2.2.2.2.2.2.2.2.2.1, .long u_2.2.2.2.2.2.2.2.2.2.1, .int u_2.2.2.2.2.2.2.2.2.2.2.1, .int u_2.2.2.2.2.2.2.2.2.2.2.2.1, .int u_2.2.2.2.2.2.2.2.2.2.2.2.2.1, .ref a4, .int u_2.2.2.2.2.2.2.2.2.2.2.2.2.2.2.1, .int u_2.2.2.2.2.2.2.2.2.2.2.2.2.2.2.2.1, .int u_2.2.2.2.2.2.2.2.2.2.2.2.2.2.2.2.2.1, .int u_2.2.2.2.2.2.2.2.2.2.2.2.2.2.2.2.2.2.1, .int u_2.2.2.2.2.2.2.2.2.2.2.2.2.2.2.2.2.2.2.1, .long u_2.2.2.2.2.2.2.2.2.2.2.2.2.2.2.2.2.2.2.2.1, .long u_2.2.2.2.2.2.2.2.2.2.2.2.2.2.2.2.2.2.2.2.2.1, .ref a5])), (a1, .inl (ca 0, 4725, .inl u_2.2.1)), (a2, .inl (ca 2, 1500, .inl u_2.2.2.1)), (a3, .inl (ca 3, 3, .inl u_2.2.2.2.1)), (a4, .inl (ca 0, 22, .inl u_2.2.2.2.2.2.2.2.2.2.2.2.2.2.1)), (a5, .inl (ca 0, 256, .inl u_2.2.2.2.2.2.2.2.2.2.2.2.2.2.2.2.2.2.2.2.2.2))]) ⟨hx, hb, hml, hown, hts⟩ (c_X12_alarms l D ca zz a0 a1 a2 a3 a4 a5 _ v0 (v0.2.1 ((0 : Int32)).toNatClampNeg) x1 r_1 u_2 hc2) (cwV 2 hts (gV gw_7_45 gw_7_47 gw_s_5_11 gw_1_15 gw_7_48) rfl rfl rfl (by decide +kernel) ⟨(Nat.le_of_ble_eq_true rfl), (Nat.le_of_ble_eq_true rfl)⟩) hK hN hZ hA hP hD hS [0, 1, 2, 3, 4, 5] [some 0, some 1, some 2, some 3, some 4, some 5] (by decide +kernel) rfl rfl rfl rfl 0 rfl rfl hl.1 rfl (Nat.le_of_ble_eq_true rfl) dX12_keen_21 ⟨Nat.zero_le _, Nat.zero_le _⟩ rfl (fun H locs hP hD hS => ?_)
      refine xi_ne (tgt := 29) hx hb dX12_keen_24 (by decide) hf (fun hf => ?_) (fun hf => ?_)
      · obtain ⟨x_3, ex_3, hf⟩ := bnd_el hf
        refine lv_iinc (v := x_3) (lv' := [(1, .int x_3), (0, .ref a0)]) hx hb dX12_keen_29 hl (k := 1) rfl (by rw [ex_3]; rfl) (Nat.le_of_ble_eq_true rfl) rfl (fun ls hl => ?_)
        refine lv_goto (tgt := 7) hx hb dX12_keen_32 (by decide) ?_
        exact q7 u_2 x_3 hf _ _ _ hP hD hS (lv_sub hl [1, 0] rfl)
      · refine lv_iload_n hx hb dX12_keen_27 rfl (lv_at hl 1 rfl) ?_
        have he := Option.some.inj hf
        obtain ⟨e_r, he⟩ := Prod.mk.inj he
        have e_v0 := he
        refine rt_I hx hb hr hlocks hK hP hD hS hQ e_r ?_ dX12_keen_28
        simp only [← e_v0]
  have b7 : ∀ (n : Nat) (v0 : V12) (x1 : Int32), fb_X12_keen_7 n v0 x1 = some (r, v0') → ∀ (H : Heap) (locs : List Loc) (ls : Array Slot), va_P D vwCl [(a0, .inr (12, [.int v0.1, .ref a1, .ref a2, .ref a3, .int v0.2.2.2.2.1, .int v0.2.2.2.2.2.1, .int v0.2.2.2.2.2.2.1, .int v0.2.2.2.2.2.2.2.1, .int v0.2.2.2.2.2.2.2.2.1, .long v0.2.2.2.2.2.2.2.2.2.1, .int v0.2.2.2.2.2.2.2.2.2.2.1, .int v0.2.2.2.2.2.2.2.2.2.2.2.1, .int v0.2.2.2.2.2.2.2.2.2.2.2.2.1, .ref a4, .int v0.2.2.2.2.2.2.2.2.2.2.2.2.2.2.1, .int v0.2.2.2.2.2.2.2.2.2.2.2.2.2.2.2.1, .int v0.2.2.2.2.2.2.2.2.2.2.2.2.2.2.2.2.1, .int v0.2.2.2.2.2.2.2.2.2.2.2.2.2.2.2.2.2.1, .int v0.2.2.2.2.2.2.2.2.2.2.2.2.2.2.2.2.2.2.1, .long v0.2.2.2.2.2.2.2.2.2.2.2.2.2.2.2.2.2.2.2.1, .long v0.2.2.2.2.2.2.2.2.2.2.2.2.2.2.2.2.2.2.2.2.1, .ref a5])), (a1, .inl (ca 0, 4725, .inl v0.2.1)), (a2, .inl (ca 2, 1500, .inl v0.2.2.1)), (a3, .inl (ca 3, 3, .inl v0.2.2.2.1)), (a4, .inl (ca 0, 22, .inl v0.2.2.2.2.2.2.2.2.2.2.2.2.2.1)), (a5, .inl (ca 0, 256, .inl v0.2.2.2.2.2.2.2.2.2.2.2.2.2.2.2.2.2.2.2.2.2))] H → va_D A [(a0, .inr (12, [.int v0.1, .ref a1, .ref a2, .ref a3, .int v0.2.2.2.2.1, .int v0.2.2.2.2.2.1, .int v0.2.2.2.2.2.2.1, .int v0.2.2.2.2.2.2.2.1, .int v0.2.2.2.2.2.2.2.2.1, .long v0.2.2.2.2.2.2.2.2.2.1, .int v0.2.2.2.2.2.2.2.2.2.2.1, .int v0.2.2.2.2.2.2.2.2.2.2.2.1, .int v0.2.2.2.2.2.2.2.2.2.2.2.2.1, .ref a4, .int v0.2.2.2.2.2.2.2.2.2.2.2.2.2.2.1, .int v0.2.2.2.2.2.2.2.2.2.2.2.2.2.2.2.1, .int v0.2.2.2.2.2.2.2.2.2.2.2.2.2.2.2.2.1, .int v0.2.2.2.2.2.2.2.2.2.2.2.2.2.2.2.2.2.1, .int v0.2.2.2.2.2.2.2.2.2.2.2.2.2.2.2.2.2.2.1, .long v0.2.2.2.2.2.2.2.2.2.2.2.2.2.2.2.2.2.2.2.1, .long v0.2.2.2.2.2.2.2.2.2.2.2.2.2.2.2.2.2.2.2.2.1, .ref a5])), (a1, .inl (ca 0, 4725, .inl v0.2.1)), (a2, .inl (ca 2, 1500, .inl v0.2.2.1)), (a3, .inl (ca 3, 3, .inl v0.2.2.2.1)), (a4, .inl (ca 0, 22, .inl v0.2.2.2.2.2.2.2.2.2.2.2.2.2.1)), (a5, .inl (ca 0, 256, .inl v0.2.2.2.2.2.2.2.2.2.2.2.2.2.2.2.2.2.2.2.2.2))] → va_S A s.heap H locs → lv_has ls 2 [(0, .ref a0), (1, .int x1)] → W p l e ({ frames := 5, cells := 0, slots := 0, locals := 117 } : Room) s m args below meth c H locs 0 0 Q (F0 m 7 ls []) := by
    intro n
    induction n with
    | zero => intro v0 x1 hf; exact no_el hf
    | succ n ih => exact bl7 (fb_X12_keen_7 n) ih
  unfold f_X12_keen at hf
  refine lv_aload_n hx hb dX12_keen_0 rfl (lv_at hl 0 rfl) ?_
  refine lv_iconst (v := 0) hx hb dX12_keen_1 rfl ?_
  refine xput (C := RX12) (T := TX12) (N := 22) (wx := [(a0, .inr (12, [.int (0 : Int32), .ref a1, .ref a2, .ref a3, .int v0.2.2.2.2.1, .int v0.2.2.2.2.2.1, .int v0.2.2.2.2.2.2.1, .int v0.2.2.2.2.2.2.2.1, .int v0.2.2.2.2.2.2.2.2.1, .long v0.2.2.2.2.2.2.2.2.2.1, .int v0.2.2.2.2.2.2.2.2.2.2.1, .int v0.2.2.2.2.2.2.2.2.2.2.2.1, .int v0.2.2.2.2.2.2.2.2.2.2.2.2.1, .ref a4, .int v0.2.2.2.2.2.2.2.2.2.2.2.2.2.2.1, .int v0.2.2.2.2.2.2.2.2.2.2.2.2.2.2.2.1, .int v0.2.2.2.2.2.2.2.2.2.2.2.2.2.2.2.2.1, .int v0.2.2.2.2.2.2.2.2.2.2.2.2.2.2.2.2.2.1, .int v0.2.2.2.2.2.2.2.2.2.2.2.2.2.2.2.2.2.2.1, .long v0.2.2.2.2.2.2.2.2.2.2.2.2.2.2.2.2.2.2.2.1, .long v0.2.2.2.2.2.2.2.2.2.2.2.2.2.2.2.2.2.2.2.2.1, .ref a5])), (a1, .inl (ca 0, 4725, .inl v0.2.1)), (a2, .inl (ca 2, 1500, .inl v0.2.2.1)), (a3, .inl (ca 3, 3, .inl v0.2.2.2.1)), (a4, .inl (ca 0, 22, .inl v0.2.2.2.2.2.2.2.2.2.2.2.2.2.1)), (a5, .inl (ca 0, 256, .inl v0.2.2.2.2.2.2.2.2.2.2.2.2.2.2.2.2.2.2.2.2.2))]) hx hb hts i12 tyX12 tyX12_ok nmX12 hown hK hP hD hS 0 rfl rfl 0 (Nat.le_of_ble_eq_true rfl) w0 (fun _ h9 => h9) rfl rfl rfl rfl (Nat.le_of_ble_eq_true rfl) dX12_keen_2 rfl (fun H locs hP hD hS => ?_)
  refine lv_iconst (v := 1) hx hb dX12_keen_5 rfl ?_
  refine lv_istore_n (lv' := [(1, .int (1 : Int32)), (0, .ref a0)]) hx hb dX12_keen_6 rfl hl (Nat.le_of_ble_eq_true rfl) rfl (fun ls hl => ?_)
  have jb := b7 FU (((0 : Int32), v0.2)) (1 : Int32)
  dsimp only at jb
  exact jb hf _ _ _ hP hD hS (lv_sub hl [1, 0] rfl)
abbrev wq_X12_copiesText : List Cond := Cond.code yX12_copiesText cX12_copiesText 4 none :: GL
set_option maxHeartbeats 4000000 in
set_option maxRecDepth 100000 in
theorem c_X12_copiesText (l : Launch) (D : va_G) (ca : Nat → ClassId) (zz : Nat → Nat) (a0 a1 a2 a3 a4 a5 : Nat) (sz : Nat) (v0 : V12) (p1 : Int32) (p2 : Int32) (v0' : V12) (hf : f_X12_copiesText v0 p1 p2 = some v0') : Met l yX12_copiesText wq_X12_copiesText ({ frames := 1, cells := 0, slots := 0, locals := 23 } : Room) (PR D ca zz [.ref a0, .int p1, .int p2] sz [(a0, .inr (12, [.int v0.1, .ref a1, .ref a2, .ref a3, .int v0.2.2.2.2.1, .int v0.2.2.2.2.2.1, .int v0.2.2.2.2.2.2.1, .int v0.2.2.2.2.2.2.2.1, .int v0.2.2.2.2.2.2.2.2.1, .long v0.2.2.2.2.2.2.2.2.2.1, .int v0.2.2.2.2.2.2.2.2.2.2.1, .int v0.2.2.2.2.2.2.2.2.2.2.2.1, .int v0.2.2.2.2.2.2.2.2.2.2.2.2.1, .ref a4, .int v0.2.2.2.2.2.2.2.2.2.2.2.2.2.2.1, .int v0.2.2.2.2.2.2.2.2.2.2.2.2.2.2.2.1, .int v0.2.2.2.2.2.2.2.2.2.2.2.2.2.2.2.2.1, .int v0.2.2.2.2.2.2.2.2.2.2.2.2.2.2.2.2.2.1, .int v0.2.2.2.2.2.2.2.2.2.2.2.2.2.2.2.2.2.2.1, .long v0.2.2.2.2.2.2.2.2.2.2.2.2.2.2.2.2.2.2.2.1, .long v0.2.2.2.2.2.2.2.2.2.2.2.2.2.2.2.2.2.2.2.2.1, .ref a5])), (a1, .inl (ca 0, 4725, .inl v0.2.1)), (a2, .inl (ca 2, 1500, .inl v0.2.2.1)), (a3, .inl (ca 3, 3, .inl v0.2.2.2.1)), (a4, .inl (ca 0, 22, .inl v0.2.2.2.2.2.2.2.2.2.2.2.2.2.1)), (a5, .inl (ca 0, 256, .inl v0.2.2.2.2.2.2.2.2.2.2.2.2.2.2.2.2.2.2.2.2.2))]) (QV D ca [(a0, .inr (12, [.int v0'.1, .ref a1, .ref a2, .ref a3, .int v0'.2.2.2.2.1, .int v0'.2.2.2.2.2.1, .int v0'.2.2.2.2.2.2.1, .int v0'.2.2.2.2.2.2.2.1, .int v0'.2.2.2.2.2.2.2.2.1, .long v0'.2.2.2.2.2.2.2.2.2.1, .int v0'.2.2.2.2.2.2.2.2.2.2.1, .int v0'.2.2.2.2.2.2.2.2.2.2.2.1, .int v0'.2.2.2.2.2.2.2.2.2.2.2.2.1, .ref a4, .int v0'.2.2.2.2.2.2.2.2.2.2.2.2.2.2.1, .int v0'.2.2.2.2.2.2.2.2.2.2.2.2.2.2.2.1, .int v0'.2.2.2.2.2.2.2.2.2.2.2.2.2.2.2.2.1, .int v0'.2.2.2.2.2.2.2.2.2.2.2.2.2.2.2.2.2.1, .int v0'.2.2.2.2.2.2.2.2.2.2.2.2.2.2.2.2.2.2.1, .long v0'.2.2.2.2.2.2.2.2.2.2.2.2.2.2.2.2.2.2.2.1, .long v0'.2.2.2.2.2.2.2.2.2.2.2.2.2.2.2.2.2.2.2.2.1, .ref a5])), (a1, .inl (ca 0, 4725, .inl v0'.2.1)), (a2, .inl (ca 2, 1500, .inl v0'.2.2.1)), (a3, .inl (ca 3, 3, .inl v0'.2.2.2.1)), (a4, .inl (ca 0, 22, .inl v0'.2.2.2.2.2.2.2.2.2.2.2.2.2.1)), (a5, .inl (ca 0, 256, .inl v0'.2.2.2.2.2.2.2.2.2.2.2.2.2.2.2.2.2.2.2.2.2))] (va_A [(a0, .inr (12, [.int v0.1, .ref a1, .ref a2, .ref a3, .int v0.2.2.2.2.1, .int v0.2.2.2.2.2.1, .int v0.2.2.2.2.2.2.1, .int v0.2.2.2.2.2.2.2.1, .int v0.2.2.2.2.2.2.2.2.1, .long v0.2.2.2.2.2.2.2.2.2.1, .int v0.2.2.2.2.2.2.2.2.2.2.1, .int v0.2.2.2.2.2.2.2.2.2.2.2.1, .int v0.2.2.2.2.2.2.2.2.2.2.2.2.1, .ref a4, .int v0.2.2.2.2.2.2.2.2.2.2.2.2.2.2.1, .int v0.2.2.2.2.2.2.2.2.2.2.2.2.2.2.2.1, .int v0.2.2.2.2.2.2.2.2.2.2.2.2.2.2.2.2.1, .int v0.2.2.2.2.2.2.2.2.2.2.2.2.2.2.2.2.2.1, .int v0.2.2.2.2.2.2.2.2.2.2.2.2.2.2.2.2.2.2.1, .long v0.2.2.2.2.2.2.2.2.2.2.2.2.2.2.2.2.2.2.2.1, .long v0.2.2.2.2.2.2.2.2.2.2.2.2.2.2.2.2.2.2.2.2.1, .ref a5])), (a1, .inl (ca 0, 4725, .inl v0.2.1)), (a2, .inl (ca 2, 1500, .inl v0.2.2.1)), (a3, .inl (ca 3, 3, .inl v0.2.2.2.1)), (a4, .inl (ca 0, 22, .inl v0.2.2.2.2.2.2.2.2.2.2.2.2.2.1)), (a5, .inl (ca 0, 256, .inl v0.2.2.2.2.2.2.2.2.2.2.2.2.2.2.2.2.2.2.2.2.2))] sz)) 0 0 (va_A [(a0, .inr (12, [.int v0.1, .ref a1, .ref a2, .ref a3, .int v0.2.2.2.2.1, .int v0.2.2.2.2.2.1, .int v0.2.2.2.2.2.2.1, .int v0.2.2.2.2.2.2.2.1, .int v0.2.2.2.2.2.2.2.2.1, .long v0.2.2.2.2.2.2.2.2.2.1, .int v0.2.2.2.2.2.2.2.2.2.2.1, .int v0.2.2.2.2.2.2.2.2.2.2.2.1, .int v0.2.2.2.2.2.2.2.2.2.2.2.2.1, .ref a4, .int v0.2.2.2.2.2.2.2.2.2.2.2.2.2.2.1, .int v0.2.2.2.2.2.2.2.2.2.2.2.2.2.2.2.1, .int v0.2.2.2.2.2.2.2.2.2.2.2.2.2.2.2.2.1, .int v0.2.2.2.2.2.2.2.2.2.2.2.2.2.2.2.2.2.1, .int v0.2.2.2.2.2.2.2.2.2.2.2.2.2.2.2.2.2.2.1, .long v0.2.2.2.2.2.2.2.2.2.2.2.2.2.2.2.2.2.2.2.1, .long v0.2.2.2.2.2.2.2.2.2.2.2.2.2.2.2.2.2.2.2.2.1, .ref a5])), (a1, .inl (ca 0, 4725, .inl v0.2.1)), (a2, .inl (ca 2, 1500, .inl v0.2.2.1)), (a3, .inl (ca 3, 3, .inl v0.2.2.2.1)), (a4, .inl (ca 0, 22, .inl v0.2.2.2.2.2.2.2.2.2.2.2.2.2.1)), (a5, .inl (ca 0, 256, .inl v0.2.2.2.2.2.2.2.2.2.2.2.2.2.2.2.2.2.2.2.2.2))] sz) := by
  refine en (y := yX12_copiesText) (wsm := wq_X12_copiesText) (av := [.ref a0, .int p1, .int p2]) (cc := cX12_copiesText) (maxL := 4) (ret := none) (Qf := fun A => (QV D ca [(a0, .inr (12, [.int v0'.1, .ref a1, .ref a2, .ref a3, .int v0'.2.2.2.2.1, .int v0'.2.2.2.2.2.1, .int v0'.2.2.2.2.2.2.1, .int v0'.2.2.2.2.2.2.2.1, .int v0'.2.2.2.2.2.2.2.2.1, .long v0'.2.2.2.2.2.2.2.2.2.1, .int v0'.2.2.2.2.2.2.2.2.2.2.1, .int v0'.2.2.2.2.2.2.2.2.2.2.2.1, .int v0'.2.2.2.2.2.2.2.2.2.2.2.2.1, .ref a4, .int v0'.2.2.2.2.2.2.2.2.2.2.2.2.2.2.1, .int v0'.2.2.2.2.2.2.2.2.2.2.2.2.2.2.2.1, .int v0'.2.2.2.2.2.2.2.2.2.2.2.2.2.2.2.2.1, .int v0'.2.2.2.2.2.2.2.2.2.2.2.2.2.2.2.2.2.1, .int v0'.2.2.2.2.2.2.2.2.2.2.2.2.2.2.2.2.2.2.1, .long v0'.2.2.2.2.2.2.2.2.2.2.2.2.2.2.2.2.2.2.2.1, .long v0'.2.2.2.2.2.2.2.2.2.2.2.2.2.2.2.2.2.2.2.2.1, .ref a5])), (a1, .inl (ca 0, 4725, .inl v0'.2.1)), (a2, .inl (ca 2, 1500, .inl v0'.2.2.1)), (a3, .inl (ca 3, 3, .inl v0'.2.2.2.1)), (a4, .inl (ca 0, 22, .inl v0'.2.2.2.2.2.2.2.2.2.2.2.2.2.1)), (a5, .inl (ca 0, 256, .inl v0'.2.2.2.2.2.2.2.2.2.2.2.2.2.2.2.2.2.2.2.2.2))] A)) (by decide) rfl (Nat.le_of_ble_eq_true rfl) ?_
  intro p e s m args below meth c A Q ls hx hb hr hml hown hts hlocks hnm hA hN hZ hK hQ hP hD hS hl
  have w0 := hts _ (List.mem_cons_of_mem _ gw_5_117)
  have i12 : ∀ w ∈ u_ws RX12 TX12 22, w ∈ wq_X12_copiesText := fun w h => List.mem_cons_of_mem _ (inX12 w h)
  have bl8 : ∀ (k8 : V12 → Int32 → Int32 → Int32 → Option (V12)) (q8 : ∀ (v0 : V12) (x1 : Int32) (x2 : Int32) (x3 : Int32), k8 v0 x1 x2 x3 = some v0' → ∀ (H : Heap) (locs : List Loc) (ls : Array Slot), va_P D vwCl [(a0, .inr (12, [.int v0.1, .ref a1, .ref a2, .ref a3, .int v0.2.2.2.2.1, .int v0.2.2.2.2.2.1, .int v0.2.2.2.2.2.2.1, .int v0.2.2.2.2.2.2.2.1, .int v0.2.2.2.2.2.2.2.2.1, .long v0.2.2.2.2.2.2.2.2.2.1, .int v0.2.2.2.2.2.2.2.2.2.2.1, .int v0.2.2.2.2.2.2.2.2.2.2.2.1, .int v0.2.2.2.2.2.2.2.2.2.2.2.2.1, .ref a4, .int v0.2.2.2.2.2.2.2.2.2.2.2.2.2.2.1, .int v0.2.2.2.2.2.2.2.2.2.2.2.2.2.2.2.1, .int v0.2.2.2.2.2.2.2.2.2.2.2.2.2.2.2.2.1, .int v0.2.2.2.2.2.2.2.2.2.2.2.2.2.2.2.2.2.1, .int v0.2.2.2.2.2.2.2.2.2.2.2.2.2.2.2.2.2.2.1, .long v0.2.2.2.2.2.2.2.2.2.2.2.2.2.2.2.2.2.2.2.1, .long v0.2.2.2.2.2.2.2.2.2.2.2.2.2.2.2.2.2.2.2.2.1, .ref a5])), (a1, .inl (ca 0, 4725, .inl v0.2.1)), (a2, .inl (ca 2, 1500, .inl v0.2.2.1)), (a3, .inl (ca 3, 3, .inl v0.2.2.2.1)), (a4, .inl (ca 0, 22, .inl v0.2.2.2.2.2.2.2.2.2.2.2.2.2.1)), (a5, .inl (ca 0, 256, .inl v0.2.2.2.2.2.2.2.2.2.2.2.2.2.2.2.2.2.2.2.2.2))] H → va_D A [(a0, .inr (12, [.int v0.1, .ref a1, .ref a2, .ref a3, .int v0.2.2.2.2.1, .int v0.2.2.2.2.2.1, .int v0.2.2.2.2.2.2.1, .int v0.2.2.2.2.2.2.2.1, .int v0.2.2.2.2.2.2.2.2.1, .long v0.2.2.2.2.2.2.2.2.2.1, .int v0.2.2.2.2.2.2.2.2.2.2.1, .int v0.2.2.2.2.2.2.2.2.2.2.2.1, .int v0.2.2.2.2.2.2.2.2.2.2.2.2.1, .ref a4, .int v0.2.2.2.2.2.2.2.2.2.2.2.2.2.2.1, .int v0.2.2.2.2.2.2.2.2.2.2.2.2.2.2.2.1, .int v0.2.2.2.2.2.2.2.2.2.2.2.2.2.2.2.2.1, .int v0.2.2.2.2.2.2.2.2.2.2.2.2.2.2.2.2.2.1, .int v0.2.2.2.2.2.2.2.2.2.2.2.2.2.2.2.2.2.2.1, .long v0.2.2.2.2.2.2.2.2.2.2.2.2.2.2.2.2.2.2.2.1, .long v0.2.2.2.2.2.2.2.2.2.2.2.2.2.2.2.2.2.2.2.2.1, .ref a5])), (a1, .inl (ca 0, 4725, .inl v0.2.1)), (a2, .inl (ca 2, 1500, .inl v0.2.2.1)), (a3, .inl (ca 3, 3, .inl v0.2.2.2.1)), (a4, .inl (ca 0, 22, .inl v0.2.2.2.2.2.2.2.2.2.2.2.2.2.1)), (a5, .inl (ca 0, 256, .inl v0.2.2.2.2.2.2.2.2.2.2.2.2.2.2.2.2.2.2.2.2.2))] → va_S A s.heap H locs → lv_has ls 4 [(0, .ref a0), (1, .int x1), (2, .int x2), (3, .int x3)] → W p l e ({ frames := 1, cells := 0, slots := 0, locals := 23 } : Room) s m args below meth c H locs 0 0 Q (F0 m 8 ls [])) (v0 : V12) (x1 : Int32) (x2 : Int32) (x3 : Int32), fl_X12_copiesText_8 k8 v0 x1 x2 x3 = some v0' → ∀ (H : Heap) (locs : List Loc) (ls : Array Slot), va_P D vwCl [(a0, .inr (12, [.int v0.1, .ref a1, .ref a2, .ref a3, .int v0.2.2.2.2.1, .int v0.2.2.2.2.2.1, .int v0.2.2.2.2.2.2.1, .int v0.2.2.2.2.2.2.2.1, .int v0.2.2.2.2.2.2.2.2.1, .long v0.2.2.2.2.2.2.2.2.2.1, .int v0.2.2.2.2.2.2.2.2.2.2.1, .int v0.2.2.2.2.2.2.2.2.2.2.2.1, .int v0.2.2.2.2.2.2.2.2.2.2.2.2.1, .ref a4, .int v0.2.2.2.2.2.2.2.2.2.2.2.2.2.2.1, .int v0.2.2.2.2.2.2.2.2.2.2.2.2.2.2.2.1, .int v0.2.2.2.2.2.2.2.2.2.2.2.2.2.2.2.2.1, .int v0.2.2.2.2.2.2.2.2.2.2.2.2.2.2.2.2.2.1, .int v0.2.2.2.2.2.2.2.2.2.2.2.2.2.2.2.2.2.2.1, .long v0.2.2.2.2.2.2.2.2.2.2.2.2.2.2.2.2.2.2.2.1, .long v0.2.2.2.2.2.2.2.2.2.2.2.2.2.2.2.2.2.2.2.2.1, .ref a5])), (a1, .inl (ca 0, 4725, .inl v0.2.1)), (a2, .inl (ca 2, 1500, .inl v0.2.2.1)), (a3, .inl (ca 3, 3, .inl v0.2.2.2.1)), (a4, .inl (ca 0, 22, .inl v0.2.2.2.2.2.2.2.2.2.2.2.2.2.1)), (a5, .inl (ca 0, 256, .inl v0.2.2.2.2.2.2.2.2.2.2.2.2.2.2.2.2.2.2.2.2.2))] H → va_D A [(a0, .inr (12, [.int v0.1, .ref a1, .ref a2, .ref a3, .int v0.2.2.2.2.1, .int v0.2.2.2.2.2.1, .int v0.2.2.2.2.2.2.1, .int v0.2.2.2.2.2.2.2.1, .int v0.2.2.2.2.2.2.2.2.1, .long v0.2.2.2.2.2.2.2.2.2.1, .int v0.2.2.2.2.2.2.2.2.2.2.1, .int v0.2.2.2.2.2.2.2.2.2.2.2.1, .int v0.2.2.2.2.2.2.2.2.2.2.2.2.1, .ref a4, .int v0.2.2.2.2.2.2.2.2.2.2.2.2.2.2.1, .int v0.2.2.2.2.2.2.2.2.2.2.2.2.2.2.2.1, .int v0.2.2.2.2.2.2.2.2.2.2.2.2.2.2.2.2.1, .int v0.2.2.2.2.2.2.2.2.2.2.2.2.2.2.2.2.2.1, .int v0.2.2.2.2.2.2.2.2.2.2.2.2.2.2.2.2.2.2.1, .long v0.2.2.2.2.2.2.2.2.2.2.2.2.2.2.2.2.2.2.2.1, .long v0.2.2.2.2.2.2.2.2.2.2.2.2.2.2.2.2.2.2.2.2.1, .ref a5])), (a1, .inl (ca 0, 4725, .inl v0.2.1)), (a2, .inl (ca 2, 1500, .inl v0.2.2.1)), (a3, .inl (ca 3, 3, .inl v0.2.2.2.1)), (a4, .inl (ca 0, 22, .inl v0.2.2.2.2.2.2.2.2.2.2.2.2.2.1)), (a5, .inl (ca 0, 256, .inl v0.2.2.2.2.2.2.2.2.2.2.2.2.2.2.2.2.2.2.2.2.2))] → va_S A s.heap H locs → lv_has ls 4 [(0, .ref a0), (1, .int x1), (2, .int x2), (3, .int x3)] → W p l e ({ frames := 1, cells := 0, slots := 0, locals := 23 } : Room) s m args below meth c H locs 0 0 Q (F0 m 8 ls []) := by
    intro k8 q8 v0 x1 x2 x3 hf H locs ls hP hD hS hl
    unfold fl_X12_copiesText_8 at hf
    refine lv_iload_n hx hb dX12_copiesText_8 rfl (lv_at hl 3 rfl) ?_
    refine lv_sipush (v := 300) hx hb dX12_copiesText_9 rfl ?_
    refine xc_ge (tgt := 45) hx hb dX12_copiesText_12 (by decide) hf (fun hf => ?_) (fun hf => ?_)
    · have he := Option.some.inj hf
      have e_v0 := he
      refine rt_V hx hb hr hlocks hK hP hD hS hQ ?_ dX12_copiesText_45
      simp only [← e_v0]
    · refine lv_aload_n hx hb dX12_copiesText_15 rfl (lv_at hl 0 rfl) ?_
      refine va_get (C := RX12) (T := TX12) (N := 22) hx hb hts i12 hown hK hP 0 rfl rfl 2 (Nat.le_of_ble_eq_true rfl) w0 (fun _ h9 => h9) rfl dX12_copiesText_16 ?_
      refine lv_sipush (v := 300) hx hb dX12_copiesText_19 rfl ?_
      refine lv_iload_n hx hb dX12_copiesText_22 rfl (lv_at hl 2 rfl) ?_
      refine lv_imul hx hb dX12_copiesText_23 ?_
      refine lv_iload_n hx hb dX12_copiesText_24 rfl (lv_at hl 3 rfl) ?_
      refine lv_iadd hx hb dX12_copiesText_25 ?_
      refine lv_aload_n hx hb dX12_copiesText_26 rfl (lv_at hl 0 rfl) ?_
      refine va_get (C := RX12) (T := TX12) (N := 22) hx hb hts i12 hown hK hP 0 rfl rfl 2 (Nat.le_of_ble_eq_true rfl) w0 (fun _ h9 => h9) rfl dX12_copiesText_27 ?_
      refine lv_sipush (v := 300) hx hb dX12_copiesText_30 rfl ?_
      refine lv_iload_n hx hb dX12_copiesText_33 rfl (lv_at hl 1 rfl) ?_
      refine lv_imul hx hb dX12_copiesText_34 ?_
      refine lv_iload_n hx hb dX12_copiesText_35 rfl (lv_at hl 3 rfl) ?_
      refine lv_iadd hx hb dX12_copiesText_36 ?_
      refine xbald hx hb hK hP 2 rfl hf dX12_copiesText_37 (fun hf => ?_)
      refine xbast (wx := [(a0, .inr (12, [.int v0.1, .ref a1, .ref a2, .ref a3, .int v0.2.2.2.2.1, .int v0.2.2.2.2.2.1, .int v0.2.2.2.2.2.2.1, .int v0.2.2.2.2.2.2.2.1, .int v0.2.2.2.2.2.2.2.2.1, .long v0.2.2.2.2.2.2.2.2.2.1, .int v0.2.2.2.2.2.2.2.2.2.2.1, .int v0.2.2.2.2.2.2.2.2.2.2.2.1, .int v0.2.2.2.2.2.2.2.2.2.2.2.2.1, .ref a4, .int v0.2.2.2.2.2.2.2.2.2.2.2.2.2.2.1, .int v0.2.2.2.2.2.2.2.2.2.2.2.2.2.2.2.1, .int v0.2.2.2.2.2.2.2.2.2.2.2.2.2.2.2.2.1, .int v0.2.2.2.2.2.2.2.2.2.2.2.2.2.2.2.2.2.1, .int v0.2.2.2.2.2.2.2.2.2.2.2.2.2.2.2.2.2.2.1, .long v0.2.2.2.2.2.2.2.2.2.2.2.2.2.2.2.2.2.2.2.1, .long v0.2.2.2.2.2.2.2.2.2.2.2.2.2.2.2.2.2.2.2.2.1, .ref a5])), (a1, .inl (ca 0, 4725, .inl v0.2.1)), (a2, .inl (ca 2, 1500, .inl ((upd v0.2.2.1 (((300 : Int32) * x2) + x3).toNatClampNeg (vp_nar .byte (v0.2.2.1 (((300 : Int32) * x1) + x3).toNatClampNeg)))))), (a3, .inl (ca 3, 3, .inl v0.2.2.2.1)), (a4, .inl (ca 0, 22, .inl v0.2.2.2.2.2.2.2.2.2.2.2.2.2.1)), (a5, .inl (ca 0, 256, .inl v0.2.2.2.2.2.2.2.2.2.2.2.2.2.2.2.2.2.2.2.2.2))]) hx hb hK hP hD hS 2 rfl hf dX12_copiesText_38 rfl (fun H locs hf hP hD hS => ?_)
      obtain ⟨y_2, ey_2, hf⟩ := bnd_el hf
      rw [← ey_2] at hP hD
      obtain ⟨x_3, ex_3, hf⟩ := bnd_el hf
      refine lv_iinc (v := x_3) (lv' := [(3, .int x_3), (0, .ref a0), (1, .int x1), (2, .int x2)]) hx hb dX12_copiesText_39 hl (k := 3) rfl (by rw [ex_3]; rfl) (Nat.le_of_ble_eq_true rfl) rfl (fun ls hl => ?_)
      refine lv_goto (tgt := 8) hx hb dX12_copiesText_42 (by decide) ?_
      have jb := q8 ((v0.1, v0.2.1, y_2, v0.2.2.2)) x1 x2 x_3
      dsimp only at jb
      exact jb hf _ _ _ hP hD hS (lv_sub hl [1, 2, 3, 0] rfl)
  have b8 : ∀ (n : Nat) (v0 : V12) (x1 : Int32) (x2 : Int32) (x3 : Int32), fb_X12_copiesText_8 n v0 x1 x2 x3 = some v0' → ∀ (H : Heap) (locs : List Loc) (ls : Array Slot), va_P D vwCl [(a0, .inr (12, [.int v0.1, .ref a1, .ref a2, .ref a3, .int v0.2.2.2.2.1, .int v0.2.2.2.2.2.1, .int v0.2.2.2.2.2.2.1, .int v0.2.2.2.2.2.2.2.1, .int v0.2.2.2.2.2.2.2.2.1, .long v0.2.2.2.2.2.2.2.2.2.1, .int v0.2.2.2.2.2.2.2.2.2.2.1, .int v0.2.2.2.2.2.2.2.2.2.2.2.1, .int v0.2.2.2.2.2.2.2.2.2.2.2.2.1, .ref a4, .int v0.2.2.2.2.2.2.2.2.2.2.2.2.2.2.1, .int v0.2.2.2.2.2.2.2.2.2.2.2.2.2.2.2.1, .int v0.2.2.2.2.2.2.2.2.2.2.2.2.2.2.2.2.1, .int v0.2.2.2.2.2.2.2.2.2.2.2.2.2.2.2.2.2.1, .int v0.2.2.2.2.2.2.2.2.2.2.2.2.2.2.2.2.2.2.1, .long v0.2.2.2.2.2.2.2.2.2.2.2.2.2.2.2.2.2.2.2.1, .long v0.2.2.2.2.2.2.2.2.2.2.2.2.2.2.2.2.2.2.2.2.1, .ref a5])), (a1, .inl (ca 0, 4725, .inl v0.2.1)), (a2, .inl (ca 2, 1500, .inl v0.2.2.1)), (a3, .inl (ca 3, 3, .inl v0.2.2.2.1)), (a4, .inl (ca 0, 22, .inl v0.2.2.2.2.2.2.2.2.2.2.2.2.2.1)), (a5, .inl (ca 0, 256, .inl v0.2.2.2.2.2.2.2.2.2.2.2.2.2.2.2.2.2.2.2.2.2))] H → va_D A [(a0, .inr (12, [.int v0.1, .ref a1, .ref a2, .ref a3, .int v0.2.2.2.2.1, .int v0.2.2.2.2.2.1, .int v0.2.2.2.2.2.2.1, .int v0.2.2.2.2.2.2.2.1, .int v0.2.2.2.2.2.2.2.2.1, .long v0.2.2.2.2.2.2.2.2.2.1, .int v0.2.2.2.2.2.2.2.2.2.2.1, .int v0.2.2.2.2.2.2.2.2.2.2.2.1, .int v0.2.2.2.2.2.2.2.2.2.2.2.2.1, .ref a4, .int v0.2.2.2.2.2.2.2.2.2.2.2.2.2.2.1, .int v0.2.2.2.2.2.2.2.2.2.2.2.2.2.2.2.1, .int v0.2.2.2.2.2.2.2.2.2.2.2.2.2.2.2.2.1, .int v0.2.2.2.2.2.2.2.2.2.2.2.2.2.2.2.2.2.1, .int v0.2.2.2.2.2.2.2.2.2.2.2.2.2.2.2.2.2.2.1, .long v0.2.2.2.2.2.2.2.2.2.2.2.2.2.2.2.2.2.2.2.1, .long v0.2.2.2.2.2.2.2.2.2.2.2.2.2.2.2.2.2.2.2.2.1, .ref a5])), (a1, .inl (ca 0, 4725, .inl v0.2.1)), (a2, .inl (ca 2, 1500, .inl v0.2.2.1)), (a3, .inl (ca 3, 3, .inl v0.2.2.2.1)), (a4, .inl (ca 0, 22, .inl v0.2.2.2.2.2.2.2.2.2.2.2.2.2.1)), (a5, .inl (ca 0, 256, .inl v0.2.2.2.2.2.2.2.2.2.2.2.2.2.2.2.2.2.2.2.2.2))] → va_S A s.heap H locs → lv_has ls 4 [(0, .ref a0), (1, .int x1), (2, .int x2), (3, .int x3)] → W p l e ({ frames := 1, cells := 0, slots := 0, locals := 23 } : Room) s m args below meth c H locs 0 0 Q (F0 m 8 ls []) := by
    intro n
    induction n with
    | zero => intro v0 x1 x2 x3 hf; exact no_el hf
    | succ n ih => exact bl8 (fb_X12_copiesText_8 n) ih
  unfold f_X12_copiesText at hf
  refine lv_aload_n hx hb dX12_copiesText_0 rfl (lv_at hl 0 rfl) ?_
  refine lv_iload_n hx hb dX12_copiesText_1 rfl (lv_at hl 1 rfl) ?_
  refine lv_iload_n hx hb dX12_copiesText_2 rfl (lv_at hl 2 rfl) ?_
  obtain ⟨u_1, hc1, hf⟩ := bnd1_el hf
  refine xV_V (As := [.int p1, .int p2]) (wx := [(a0, .inr (12, [.int u_1.1, .ref a1, .ref a2, .ref a3, .int u_1.2.2.2.2.1, .int u_1.2.2.2.2.2.1, .int u_1.2.2.2.2.2.2.1, .int u_1.2.2.2.2.2.2.2.1, .int u_1.2.2.2.2.2.2.2.2.1, .long u_1.2.2.2.2.2.2.2.2.2.1, .int u_1.2.2.2.2.2.2.2.2.2.2.1, .int u_1.2.2.2.2.2.2.2.2.2.2.2.1, .int u_1.2.2.2.2.2.2.2.2.2.2.2.2.1, .ref a4, .int u_1.2.2.2.2.2.2.2.2.2.2.2.2.2.2.1, .int u_1.2.2.2.2.2.2.2.2.2.2.2.2.2.2.2.1, .int u_1.2.2.2.2.2.2.2.2.2.2.2.2.2.2.2.2.1, .int u_1.2.2.2.2.2.2.2.2.2.2.2.2.2.2.2.2.2.1, .int u_1.2.2.2.2.2.2.2.2.2.2.2.2.2.2.2.2.2.2.1, .long u_1.2.2.2.2.2.2.2.2.2.2.2.2.2.2.2.2.2.2.2.1, .long u_1.2.2.2.2.2.2.2.2.2.2.2.2.2.2.2.2.2.2.2.2.1, .ref a5])), (a1, .inl (ca 0, 4725, .inl u_1.2.1)), (a2, .inl (ca 2, 1500, .inl u_1.2.2.1)), (a3, .inl (ca 3, 3, .inl u_1.2.2.2.1)), (a4, .inl (ca 0, 22, .inl u_1.2.2.2.2.2.2.2.2.2.2.2.2.2.1)), (a5, .inl (ca 0, 256, .inl u_1.2.2.2.2.2.2.2.2.2.2.2.2.2.2.2.2.2.2.2.2.2))]) ⟨hx, hb, hml, hown, hts⟩ (c_X12_copies l D ca zz a0 a1 a2 a3 a4 a5 _ v0 p1 p2 u_1 hc1) (cwV 2 hts (gV gw_7_29 gw_7_31 gw_s_5_9 gw_1_15 gw_7_32) rfl rfl rfl (by decide +kernel) ⟨(Nat.le_of_ble_eq_true rfl), (Nat.le_of_ble_eq_true rfl)⟩) hK hN hZ hA hP hD hS [0, 1, 2, 3, 4, 5] [some 0, some 1, some 2, some 3, some 4, some 5] (by decide +kernel) rfl rfl rfl rfl 0 rfl rfl hl.1 rfl (Nat.le_of_ble_eq_true rfl) dX12_copiesText_3 ⟨Nat.zero_le _, Nat.zero_le _⟩ rfl (fun H locs hP hD hS => ?_)
  refine lv_iconst (v := 0) hx hb dX12_copiesText_6 rfl ?_
  refine lv_istore_n (lv' := [(3, .int (0 : Int32)), (0, .ref a0), (1, .int p1), (2, .int p2)]) hx hb dX12_copiesText_7 rfl hl (Nat.le_of_ble_eq_true rfl) rfl (fun ls hl => ?_)
  exact b8 FU u_1 p1 p2 (0 : Int32) hf _ _ _ hP hD hS (lv_sub hl [1, 2, 3, 0] rfl)
abbrev wq_X12_image : List Cond := Cond.code yX12_image cX12_image 2 (some .boolean) :: GL
set_option maxHeartbeats 4000000 in
set_option maxRecDepth 100000 in
theorem c_X12_image (l : Launch) (D : va_G) (ca : Nat → ClassId) (zz : Nat → Nat) (a0 a1 a2 a3 a4 a5 : Nat) (sz : Nat) (v0 : V12) (p1 : Int32) (r : Int32) (v0' : V12) (hf : f_X12_image v0 p1 = some (r, v0')) : Met l yX12_image wq_X12_image ({ frames := 2, cells := 0, slots := 0, locals := 46 } : Room) (PR D ca zz [.ref a0, .int p1] sz [(a0, .inr (12, [.int v0.1, .ref a1, .ref a2, .ref a3, .int v0.2.2.2.2.1, .int v0.2.2.2.2.2.1, .int v0.2.2.2.2.2.2.1, .int v0.2.2.2.2.2.2.2.1, .int v0.2.2.2.2.2.2.2.2.1, .long v0.2.2.2.2.2.2.2.2.2.1, .int v0.2.2.2.2.2.2.2.2.2.2.1, .int v0.2.2.2.2.2.2.2.2.2.2.2.1, .int v0.2.2.2.2.2.2.2.2.2.2.2.2.1, .ref a4, .int v0.2.2.2.2.2.2.2.2.2.2.2.2.2.2.1, .int v0.2.2.2.2.2.2.2.2.2.2.2.2.2.2.2.1, .int v0.2.2.2.2.2.2.2.2.2.2.2.2.2.2.2.2.1, .int v0.2.2.2.2.2.2.2.2.2.2.2.2.2.2.2.2.2.1, .int v0.2.2.2.2.2.2.2.2.2.2.2.2.2.2.2.2.2.2.1, .long v0.2.2.2.2.2.2.2.2.2.2.2.2.2.2.2.2.2.2.2.1, .long v0.2.2.2.2.2.2.2.2.2.2.2.2.2.2.2.2.2.2.2.2.1, .ref a5])), (a1, .inl (ca 0, 4725, .inl v0.2.1)), (a2, .inl (ca 2, 1500, .inl v0.2.2.1)), (a3, .inl (ca 3, 3, .inl v0.2.2.2.1)), (a4, .inl (ca 0, 22, .inl v0.2.2.2.2.2.2.2.2.2.2.2.2.2.1)), (a5, .inl (ca 0, 256, .inl v0.2.2.2.2.2.2.2.2.2.2.2.2.2.2.2.2.2.2.2.2.2))]) (QI D ca r [(a0, .inr (12, [.int v0'.1, .ref a1, .ref a2, .ref a3, .int v0'.2.2.2.2.1, .int v0'.2.2.2.2.2.1, .int v0'.2.2.2.2.2.2.1, .int v0'.2.2.2.2.2.2.2.1, .int v0'.2.2.2.2.2.2.2.2.1, .long v0'.2.2.2.2.2.2.2.2.2.1, .int v0'.2.2.2.2.2.2.2.2.2.2.1, .int v0'.2.2.2.2.2.2.2.2.2.2.2.1, .int v0'.2.2.2.2.2.2.2.2.2.2.2.2.1, .ref a4, .int v0'.2.2.2.2.2.2.2.2.2.2.2.2.2.2.1, .int v0'.2.2.2.2.2.2.2.2.2.2.2.2.2.2.2.1, .int v0'.2.2.2.2.2.2.2.2.2.2.2.2.2.2.2.2.1, .int v0'.2.2.2.2.2.2.2.2.2.2.2.2.2.2.2.2.2.1, .int v0'.2.2.2.2.2.2.2.2.2.2.2.2.2.2.2.2.2.2.1, .long v0'.2.2.2.2.2.2.2.2.2.2.2.2.2.2.2.2.2.2.2.1, .long v0'.2.2.2.2.2.2.2.2.2.2.2.2.2.2.2.2.2.2.2.2.1, .ref a5])), (a1, .inl (ca 0, 4725, .inl v0'.2.1)), (a2, .inl (ca 2, 1500, .inl v0'.2.2.1)), (a3, .inl (ca 3, 3, .inl v0'.2.2.2.1)), (a4, .inl (ca 0, 22, .inl v0'.2.2.2.2.2.2.2.2.2.2.2.2.2.1)), (a5, .inl (ca 0, 256, .inl v0'.2.2.2.2.2.2.2.2.2.2.2.2.2.2.2.2.2.2.2.2.2))] (va_A [(a0, .inr (12, [.int v0.1, .ref a1, .ref a2, .ref a3, .int v0.2.2.2.2.1, .int v0.2.2.2.2.2.1, .int v0.2.2.2.2.2.2.1, .int v0.2.2.2.2.2.2.2.1, .int v0.2.2.2.2.2.2.2.2.1, .long v0.2.2.2.2.2.2.2.2.2.1, .int v0.2.2.2.2.2.2.2.2.2.2.1, .int v0.2.2.2.2.2.2.2.2.2.2.2.1, .int v0.2.2.2.2.2.2.2.2.2.2.2.2.1, .ref a4, .int v0.2.2.2.2.2.2.2.2.2.2.2.2.2.2.1, .int v0.2.2.2.2.2.2.2.2.2.2.2.2.2.2.2.1, .int v0.2.2.2.2.2.2.2.2.2.2.2.2.2.2.2.2.1, .int v0.2.2.2.2.2.2.2.2.2.2.2.2.2.2.2.2.2.1, .int v0.2.2.2.2.2.2.2.2.2.2.2.2.2.2.2.2.2.2.1, .long v0.2.2.2.2.2.2.2.2.2.2.2.2.2.2.2.2.2.2.2.1, .long v0.2.2.2.2.2.2.2.2.2.2.2.2.2.2.2.2.2.2.2.2.1, .ref a5])), (a1, .inl (ca 0, 4725, .inl v0.2.1)), (a2, .inl (ca 2, 1500, .inl v0.2.2.1)), (a3, .inl (ca 3, 3, .inl v0.2.2.2.1)), (a4, .inl (ca 0, 22, .inl v0.2.2.2.2.2.2.2.2.2.2.2.2.2.1)), (a5, .inl (ca 0, 256, .inl v0.2.2.2.2.2.2.2.2.2.2.2.2.2.2.2.2.2.2.2.2.2))] sz)) 0 0 (va_A [(a0, .inr (12, [.int v0.1, .ref a1, .ref a2, .ref a3, .int v0.2.2.2.2.1, .int v0.2.2.2.2.2.1, .int v0.2.2.2.2.2.2.1, .int v0.2.2.2.2.2.2.2.1, .int v0.2.2.2.2.2.2.2.2.1, .long v0.2.2.2.2.2.2.2.2.2.1, .int v0.2.2.2.2.2.2.2.2.2.2.1, .int v0.2.2.2.2.2.2.2.2.2.2.2.1, .int v0.2.2.2.2.2.2.2.2.2.2.2.2.1, .ref a4, .int v0.2.2.2.2.2.2.2.2.2.2.2.2.2.2.1, .int v0.2.2.2.2.2.2.2.2.2.2.2.2.2.2.2.1, .int v0.2.2.2.2.2.2.2.2.2.2.2.2.2.2.2.2.1, .int v0.2.2.2.2.2.2.2.2.2.2.2.2.2.2.2.2.2.1, .int v0.2.2.2.2.2.2.2.2.2.2.2.2.2.2.2.2.2.2.1, .long v0.2.2.2.2.2.2.2.2.2.2.2.2.2.2.2.2.2.2.2.1, .long v0.2.2.2.2.2.2.2.2.2.2.2.2.2.2.2.2.2.2.2.2.1, .ref a5])), (a1, .inl (ca 0, 4725, .inl v0.2.1)), (a2, .inl (ca 2, 1500, .inl v0.2.2.1)), (a3, .inl (ca 3, 3, .inl v0.2.2.2.1)), (a4, .inl (ca 0, 22, .inl v0.2.2.2.2.2.2.2.2.2.2.2.2.2.1)), (a5, .inl (ca 0, 256, .inl v0.2.2.2.2.2.2.2.2.2.2.2.2.2.2.2.2.2.2.2.2.2))] sz) := by
  refine en (y := yX12_image) (wsm := wq_X12_image) (av := [.ref a0, .int p1]) (cc := cX12_image) (maxL := 2) (ret := (some .boolean)) (Qf := fun A => (QI D ca r [(a0, .inr (12, [.int v0'.1, .ref a1, .ref a2, .ref a3, .int v0'.2.2.2.2.1, .int v0'.2.2.2.2.2.1, .int v0'.2.2.2.2.2.2.1, .int v0'.2.2.2.2.2.2.2.1, .int v0'.2.2.2.2.2.2.2.2.1, .long v0'.2.2.2.2.2.2.2.2.2.1, .int v0'.2.2.2.2.2.2.2.2.2.2.1, .int v0'.2.2.2.2.2.2.2.2.2.2.2.1, .int v0'.2.2.2.2.2.2.2.2.2.2.2.2.1, .ref a4, .int v0'.2.2.2.2.2.2.2.2.2.2.2.2.2.2.1, .int v0'.2.2.2.2.2.2.2.2.2.2.2.2.2.2.2.1, .int v0'.2.2.2.2.2.2.2.2.2.2.2.2.2.2.2.2.1, .int v0'.2.2.2.2.2.2.2.2.2.2.2.2.2.2.2.2.2.1, .int v0'.2.2.2.2.2.2.2.2.2.2.2.2.2.2.2.2.2.2.1, .long v0'.2.2.2.2.2.2.2.2.2.2.2.2.2.2.2.2.2.2.2.1, .long v0'.2.2.2.2.2.2.2.2.2.2.2.2.2.2.2.2.2.2.2.2.1, .ref a5])), (a1, .inl (ca 0, 4725, .inl v0'.2.1)), (a2, .inl (ca 2, 1500, .inl v0'.2.2.1)), (a3, .inl (ca 3, 3, .inl v0'.2.2.2.1)), (a4, .inl (ca 0, 22, .inl v0'.2.2.2.2.2.2.2.2.2.2.2.2.2.1)), (a5, .inl (ca 0, 256, .inl v0'.2.2.2.2.2.2.2.2.2.2.2.2.2.2.2.2.2.2.2.2.2))] A)) (by decide) rfl (Nat.le_of_ble_eq_true rfl) ?_
  intro p e s m args below meth c A Q ls hx hb hr hml hown hts hlocks hnm hA hN hZ hK hQ hP hD hS hl
  have w0 := hts _ (List.mem_cons_of_mem _ gw_5_115)
  have w1 := hts _ (List.mem_cons_of_mem _ gw_5_118)
  have i12 : ∀ w ∈ u_ws RX12 TX12 22, w ∈ wq_X12_image := fun w h => List.mem_cons_of_mem _ (inX12 w h)
  unfold f_X12_image at hf
  refine lv_aload_n hx hb dX12_image_0 rfl (lv_at hl 0 rfl) ?_
  refine lv_iconst (v := 0) hx hb dX12_image_1 rfl ?_
  refine xput (C := RX12) (T := TX12) (N := 22) (wx := [(a0, .inr (12, [.int (0 : Int32), .ref a1, .ref a2, .ref a3, .int v0.2.2.2.2.1, .int v0.2.2.2.2.2.1, .int v0.2.2.2.2.2.2.1, .int v0.2.2.2.2.2.2.2.1, .int v0.2.2.2.2.2.2.2.2.1, .long v0.2.2.2.2.2.2.2.2.2.1, .int v0.2.2.2.2.2.2.2.2.2.2.1, .int v0.2.2.2.2.2.2.2.2.2.2.2.1, .int v0.2.2.2.2.2.2.2.2.2.2.2.2.1, .ref a4, .int v0.2.2.2.2.2.2.2.2.2.2.2.2.2.2.1, .int v0.2.2.2.2.2.2.2.2.2.2.2.2.2.2.2.1, .int v0.2.2.2.2.2.2.2.2.2.2.2.2.2.2.2.2.1, .int v0.2.2.2.2.2.2.2.2.2.2.2.2.2.2.2.2.2.1, .int v0.2.2.2.2.2.2.2.2.2.2.2.2.2.2.2.2.2.2.1, .long v0.2.2.2.2.2.2.2.2.2.2.2.2.2.2.2.2.2.2.2.1, .long v0.2.2.2.2.2.2.2.2.2.2.2.2.2.2.2.2.2.2.2.2.1, .ref a5])), (a1, .inl (ca 0, 4725, .inl v0.2.1)), (a2, .inl (ca 2, 1500, .inl v0.2.2.1)), (a3, .inl (ca 3, 3, .inl v0.2.2.2.1)), (a4, .inl (ca 0, 22, .inl v0.2.2.2.2.2.2.2.2.2.2.2.2.2.1)), (a5, .inl (ca 0, 256, .inl v0.2.2.2.2.2.2.2.2.2.2.2.2.2.2.2.2.2.2.2.2.2))]) hx hb hts i12 tyX12 tyX12_ok nmX12 hown hK hP hD hS 0 rfl rfl 0 (Nat.le_of_ble_eq_true rfl) w0 (fun _ h9 => h9) rfl rfl rfl rfl (Nat.le_of_ble_eq_true rfl) dX12_image_2 rfl (fun H locs hP hD hS => ?_)
  refine lv_iload_n hx hb dX12_image_5 rfl (lv_at hl 1 rfl) ?_
  refine lv_iconst (v := 0) hx hb dX12_image_6 rfl ?_
  refine lv_iconst (v := 2) hx hb dX12_image_7 rfl ?_
  obtain ⟨r_1, hc1, hf⟩ := bnd1_el hf
  refine xS_I (As := [.int p1, .int (0 : Int32), .int (2 : Int32)]) (wx := [(a0, .inr (12, [.int (0 : Int32), .ref a1, .ref a2, .ref a3, .int v0.2.2.2.2.1, .int v0.2.2.2.2.2.1, .int v0.2.2.2.2.2.2.1, .int v0.2.2.2.2.2.2.2.1, .int v0.2.2.2.2.2.2.2.2.1, .long v0.2.2.2.2.2.2.2.2.2.1, .int v0.2.2.2.2.2.2.2.2.2.2.1, .int v0.2.2.2.2.2.2.2.2.2.2.2.1, .int v0.2.2.2.2.2.2.2.2.2.2.2.2.1, .ref a4, .int v0.2.2.2.2.2.2.2.2.2.2.2.2.2.2.1, .int v0.2.2.2.2.2.2.2.2.2.2.2.2.2.2.2.1, .int v0.2.2.2.2.2.2.2.2.2.2.2.2.2.2.2.2.1, .int v0.2.2.2.2.2.2.2.2.2.2.2.2.2.2.2.2.2.1, .int v0.2.2.2.2.2.2.2.2.2.2.2.2.2.2.2.2.2.2.1, .long v0.2.2.2.2.2.2.2.2.2.2.2.2.2.2.2.2.2.2.2.1, .long v0.2.2.2.2.2.2.2.2.2.2.2.2.2.2.2.2.2.2.2.2.1, .ref a5])), (a1, .inl (ca 0, 4725, .inl v0.2.1)), (a2, .inl (ca 2, 1500, .inl v0.2.2.1)), (a3, .inl (ca 3, 3, .inl v0.2.2.2.1)), (a4, .inl (ca 0, 22, .inl v0.2.2.2.2.2.2.2.2.2.2.2.2.2.1)), (a5, .inl (ca 0, 256, .inl v0.2.2.2.2.2.2.2.2.2.2.2.2.2.2.2.2.2.2.2.2.2))]) ⟨hx, hb, hml, hown, hts⟩ (c_X12_in l D ca zz  _ p1 (0 : Int32) (2 : Int32) r_1 hc1) (va_cwS 3 hts (gS gw_5_204 gw_5_205 gw_1_15 gw_5_206) rfl rfl rfl (by decide +kernel) ⟨(Nat.le_of_ble_eq_true rfl), (Nat.le_of_ble_eq_true rfl)⟩) hK hN hZ hA hP hD hS [] [none, none, none, none, none, none] (by decide +kernel) rfl rfl rfl rfl hl.1 rfl (Nat.le_of_ble_eq_true rfl) dX12_image_8 ⟨Nat.zero_le _, Nat.zero_le _⟩ rfl (fun H locs hP hD hS => ?_)
  refine xi_ne (tgt := 16) hx hb dX12_image_11 (by decide) hf (fun hf => ?_) (fun hf => ?_)
  · refine lv_aload_n hx hb dX12_image_16 rfl (lv_at hl 0 rfl) ?_
    refine lv_iconst (v := 0) hx hb dX12_image_17 rfl ?_
    refine lv_iload_n hx hb dX12_image_18 rfl (lv_at hl 1 rfl) ?_
    refine lv_iconst (v := 1) hx hb dX12_image_19 rfl ?_
    refine lv_iadd hx hb dX12_image_20 ?_
    obtain ⟨u_2, hc2, hf⟩ := bnd1_el hf
    have hMhc2 := fun sz => c_X12_copiesText l D ca zz a0 a1 a2 a3 a4 a5 sz (((0 : Int32), v0.2)) (0 : Int32) (p1 + (1 : Int32)) u_2 hc2
    dsimp only at hMhc2
    refine xV_V (As := [.int (0 : Int32), .int (p1 + (1 : Int32))]) (wx := [(a0, .inr (12, [.int u_2.1, .ref a1, .ref a2, .ref a3, .int u_2.2.2.2.2.1, .int u_2.2.2.2.2.2.1, .int u_2.2.2.2.2.2.2.1, .int u_2.2.2.2.2.2.2.2.1, .int u_2.2.2.2.2.2.2.2.2.1, .long u_2.2.2.2.2.2.2.2.2.2.1, .int u_2.2.2.2.2.2.2.2.2.2.2.1, .int u_2.2.2.2.2.2.2.2.2.2.2.2.1, .int u_2.2.2.2.2.2.2.2.2.2.2.2.2.1, .ref a4, .int u_2.2.2.2.2.2.2.2.2.2.2.2.2.2.2.1, .int u_2.2.2.2.2.2.2.2.2.2.2.2.2.2.2.2.1, .int u_2.2.2.2.2.2.2.2.2.2.2.2.2.2.2.2.2.1, .int u_2.2.2.2.2.2.2.2.2.2.2.2.2.2.2.2.2.2.1, .int u_2.2.2.2.2.2.2.2.2.2.2.2.2.2.2.2.2.2.2.1, .long u_2.2.2.2.2.2.2.2.2.2.2.2.2.2.2.2.2.2.2.2.1, .long u_2.2.2.2.2.2.2.2.2.2.2.2.2.2.2.2.2.2.2.2.2.1, .ref a5])), (a1, .inl (ca 0, 4725, .inl u_2.2.1)), (a2, .inl (ca 2, 1500, .inl u_2.2.2.1)), (a3, .inl (ca 3, 3, .inl u_2.2.2.2.1)), (a4, .inl (ca 0, 22, .inl u_2.2.2.2.2.2.2.2.2.2.2.2.2.2.1)), (a5, .inl (ca 0, 256, .inl u_2.2.2.2.2.2.2.2.2.2.2.2.2.2.2.2.2.2.2.2.2.2))]) ⟨hx, hb, hml, hown, hts⟩ (hMhc2 _) (cwV 2 hts (gV gw_7_61 gw_7_63 gw_s_5_12 gw_1_15 gw_7_64) rfl rfl rfl (by decide +kernel) ⟨(Nat.le_of_ble_eq_true rfl), (Nat.le_of_ble_eq_true rfl)⟩) hK hN hZ hA hP hD hS [0, 1, 2, 3, 4, 5] [some 0, some 1, some 2, some 3, some 4, some 5] (by decide +kernel) rfl rfl rfl rfl 0 rfl rfl hl.1 rfl (Nat.le_of_ble_eq_true rfl) dX12_image_21 ⟨Nat.zero_le _, Nat.zero_le _⟩ rfl (fun H locs hP hD hS => ?_)
    refine lv_aload_n hx hb dX12_image_24 rfl (lv_at hl 0 rfl) ?_
    refine va_get (C := RX12) (T := TX12) (N := 22) hx hb hts i12 hown hK hP 0 rfl rfl 3 (Nat.le_of_ble_eq_true rfl) w1 (fun _ h9 => h9) rfl dX12_image_25 ?_
    refine lv_iload_n hx hb dX12_image_28 rfl (lv_at hl 1 rfl) ?_
    refine lv_iconst (v := 1) hx hb dX12_image_29 rfl ?_
    refine xzast (wx := [(a0, .inr (12, [.int u_2.1, .ref a1, .ref a2, .ref a3, .int u_2.2.2.2.2.1, .int u_2.2.2.2.2.2.1, .int u_2.2.2.2.2.2.2.1, .int u_2.2.2.2.2.2.2.2.1, .int u_2.2.2.2.2.2.2.2.2.1, .long u_2.2.2.2.2.2.2.2.2.2.1, .int u_2.2.2.2.2.2.2.2.2.2.2.1, .int u_2.2.2.2.2.2.2.2.2.2.2.2.1, .int u_2.2.2.2.2.2.2.2.2.2.2.2.2.1, .ref a4, .int u_2.2.2.2.2.2.2.2.2.2.2.2.2.2.2.1, .int u_2.2.2.2.2.2.2.2.2.2.2.2.2.2.2.2.1, .int u_2.2.2.2.2.2.2.2.2.2.2.2.2.2.2.2.2.1, .int u_2.2.2.2.2.2.2.2.2.2.2.2.2.2.2.2.2.2.1, .int u_2.2.2.2.2.2.2.2.2.2.2.2.2.2.2.2.2.2.2.1, .long u_2.2.2.2.2.2.2.2.2.2.2.2.2.2.2.2.2.2.2.2.1, .long u_2.2.2.2.2.2.2.2.2.2.2.2.2.2.2.2.2.2.2.2.2.1, .ref a5])), (a1, .inl (ca 0, 4725, .inl u_2.2.1)), (a2, .inl (ca 2, 1500, .inl u_2.2.2.1)), (a3, .inl (ca 3, 3, .inl ((upd u_2.2.2.2.1 (p1).toNatClampNeg (vp_nar .boolean (1 : Int32)))))), (a4, .inl (ca 0, 22, .inl u_2.2.2.2.2.2.2.2.2.2.2.2.2.2.1)), (a5, .inl (ca 0, 256, .inl u_2.2.2.2.2.2.2.2.2.2.2.2.2.2.2.2.2.2.2.2.2.2))]) hx hb hK hP hD hS 3 rfl hf dX12_image_30 rfl (fun H locs hf hP hD hS => ?_)
    obtain ⟨y_3, ey_3, hf⟩ := bnd_el hf
    rw [← ey_3] at hP hD
    refine lv_iconst (v := 1) hx hb dX12_image_31 rfl ?_
    have he := Option.some.inj hf
    obtain ⟨e_r, he⟩ := Prod.mk.inj he
    have e_v0 := he
    refine rt_Z hx hb hr hlocks hK hP hD hS hQ (Or.inr rfl) e_r ?_ dX12_image_32
    simp only [← e_v0]
  · refine lv_iconst (v := 0) hx hb dX12_image_14 rfl ?_
    have he := Option.some.inj hf
    obtain ⟨e_r, he⟩ := Prod.mk.inj he
    have e_v0 := he
    refine rt_Z hx hb hr hlocks hK hP hD hS hQ (Or.inl rfl) e_r ?_ dX12_image_15
    simp only [← e_v0]
abbrev wq_X12_again : List Cond := Cond.code yX12_again cX12_again 2 (some .boolean) :: GL
set_option maxHeartbeats 4000000 in
set_option maxRecDepth 100000 in
theorem c_X12_again (l : Launch) (D : va_G) (ca : Nat → ClassId) (zz : Nat → Nat) (a0 a1 a2 a3 a4 a5 : Nat) (sz : Nat) (v0 : V12) (p1 : Int32) (r : Int32) (v0' : V12) (hf : f_X12_again v0 p1 = some (r, v0')) : Met l yX12_again wq_X12_again ({ frames := 2, cells := 0, slots := 0, locals := 46 } : Room) (PR D ca zz [.ref a0, .int p1] sz [(a0, .inr (12, [.int v0.1, .ref a1, .ref a2, .ref a3, .int v0.2.2.2.2.1, .int v0.2.2.2.2.2.1, .int v0.2.2.2.2.2.2.1, .int v0.2.2.2.2.2.2.2.1, .int v0.2.2.2.2.2.2.2.2.1, .long v0.2.2.2.2.2.2.2.2.2.1, .int v0.2.2.2.2.2.2.2.2.2.2.1, .int v0.2.2.2.2.2.2.2.2.2.2.2.1, .int v0.2.2.2.2.2.2.2.2.2.2.2.2.1, .ref a4, .int v0.2.2.2.2.2.2.2.2.2.2.2.2.2.2.1, .int v0.2.2.2.2.2.2.2.2.2.2.2.2.2.2.2.1, .int v0.2.2.2.2.2.2.2.2.2.2.2.2.2.2.2.2.1, .int v0.2.2.2.2.2.2.2.2.2.2.2.2.2.2.2.2.2.1, .int v0.2.2.2.2.2.2.2.2.2.2.2.2.2.2.2.2.2.2.1, .long v0.2.2.2.2.2.2.2.2.2.2.2.2.2.2.2.2.2.2.2.1, .long v0.2.2.2.2.2.2.2.2.2.2.2.2.2.2.2.2.2.2.2.2.1, .ref a5])), (a1, .inl (ca 0, 4725, .inl v0.2.1)), (a2, .inl (ca 2, 1500, .inl v0.2.2.1)), (a3, .inl (ca 3, 3, .inl v0.2.2.2.1)), (a4, .inl (ca 0, 22, .inl v0.2.2.2.2.2.2.2.2.2.2.2.2.2.1)), (a5, .inl (ca 0, 256, .inl v0.2.2.2.2.2.2.2.2.2.2.2.2.2.2.2.2.2.2.2.2.2))]) (QI D ca r [(a0, .inr (12, [.int v0'.1, .ref a1, .ref a2, .ref a3, .int v0'.2.2.2.2.1, .int v0'.2.2.2.2.2.1, .int v0'.2.2.2.2.2.2.1, .int v0'.2.2.2.2.2.2.2.1, .int v0'.2.2.2.2.2.2.2.2.1, .long v0'.2.2.2.2.2.2.2.2.2.1, .int v0'.2.2.2.2.2.2.2.2.2.2.1, .int v0'.2.2.2.2.2.2.2.2.2.2.2.1, .int v0'.2.2.2.2.2.2.2.2.2.2.2.2.1, .ref a4, .int v0'.2.2.2.2.2.2.2.2.2.2.2.2.2.2.1, .int v0'.2.2.2.2.2.2.2.2.2.2.2.2.2.2.2.1, .int v0'.2.2.2.2.2.2.2.2.2.2.2.2.2.2.2.2.1, .int v0'.2.2.2.2.2.2.2.2.2.2.2.2.2.2.2.2.2.1, .int v0'.2.2.2.2.2.2.2.2.2.2.2.2.2.2.2.2.2.2.1, .long v0'.2.2.2.2.2.2.2.2.2.2.2.2.2.2.2.2.2.2.2.1, .long v0'.2.2.2.2.2.2.2.2.2.2.2.2.2.2.2.2.2.2.2.2.1, .ref a5])), (a1, .inl (ca 0, 4725, .inl v0'.2.1)), (a2, .inl (ca 2, 1500, .inl v0'.2.2.1)), (a3, .inl (ca 3, 3, .inl v0'.2.2.2.1)), (a4, .inl (ca 0, 22, .inl v0'.2.2.2.2.2.2.2.2.2.2.2.2.2.1)), (a5, .inl (ca 0, 256, .inl v0'.2.2.2.2.2.2.2.2.2.2.2.2.2.2.2.2.2.2.2.2.2))] (va_A [(a0, .inr (12, [.int v0.1, .ref a1, .ref a2, .ref a3, .int v0.2.2.2.2.1, .int v0.2.2.2.2.2.1, .int v0.2.2.2.2.2.2.1, .int v0.2.2.2.2.2.2.2.1, .int v0.2.2.2.2.2.2.2.2.1, .long v0.2.2.2.2.2.2.2.2.2.1, .int v0.2.2.2.2.2.2.2.2.2.2.1, .int v0.2.2.2.2.2.2.2.2.2.2.2.1, .int v0.2.2.2.2.2.2.2.2.2.2.2.2.1, .ref a4, .int v0.2.2.2.2.2.2.2.2.2.2.2.2.2.2.1, .int v0.2.2.2.2.2.2.2.2.2.2.2.2.2.2.2.1, .int v0.2.2.2.2.2.2.2.2.2.2.2.2.2.2.2.2.1, .int v0.2.2.2.2.2.2.2.2.2.2.2.2.2.2.2.2.2.1, .int v0.2.2.2.2.2.2.2.2.2.2.2.2.2.2.2.2.2.2.1, .long v0.2.2.2.2.2.2.2.2.2.2.2.2.2.2.2.2.2.2.2.1, .long v0.2.2.2.2.2.2.2.2.2.2.2.2.2.2.2.2.2.2.2.2.1, .ref a5])), (a1, .inl (ca 0, 4725, .inl v0.2.1)), (a2, .inl (ca 2, 1500, .inl v0.2.2.1)), (a3, .inl (ca 3, 3, .inl v0.2.2.2.1)), (a4, .inl (ca 0, 22, .inl v0.2.2.2.2.2.2.2.2.2.2.2.2.2.1)), (a5, .inl (ca 0, 256, .inl v0.2.2.2.2.2.2.2.2.2.2.2.2.2.2.2.2.2.2.2.2.2))] sz)) 0 0 (va_A [(a0, .inr (12, [.int v0.1, .ref a1, .ref a2, .ref a3, .int v0.2.2.2.2.1, .int v0.2.2.2.2.2.1, .int v0.2.2.2.2.2.2.1, .int v0.2.2.2.2.2.2.2.1, .int v0.2.2.2.2.2.2.2.2.1, .long v0.2.2.2.2.2.2.2.2.2.1, .int v0.2.2.2.2.2.2.2.2.2.2.1, .int v0.2.2.2.2.2.2.2.2.2.2.2.1, .int v0.2.2.2.2.2.2.2.2.2.2.2.2.1, .ref a4, .int v0.2.2.2.2.2.2.2.2.2.2.2.2.2.2.1, .int v0.2.2.2.2.2.2.2.2.2.2.2.2.2.2.2.1, .int v0.2.2.2.2.2.2.2.2.2.2.2.2.2.2.2.2.1, .int v0.2.2.2.2.2.2.2.2.2.2.2.2.2.2.2.2.2.1, .int v0.2.2.2.2.2.2.2.2.2.2.2.2.2.2.2.2.2.2.1, .long v0.2.2.2.2.2.2.2.2.2.2.2.2.2.2.2.2.2.2.2.1, .long v0.2.2.2.2.2.2.2.2.2.2.2.2.2.2.2.2.2.2.2.2.1, .ref a5])), (a1, .inl (ca 0, 4725, .inl v0.2.1)), (a2, .inl (ca 2, 1500, .inl v0.2.2.1)), (a3, .inl (ca 3, 3, .inl v0.2.2.2.1)), (a4, .inl (ca 0, 22, .inl v0.2.2.2.2.2.2.2.2.2.2.2.2.2.1)), (a5, .inl (ca 0, 256, .inl v0.2.2.2.2.2.2.2.2.2.2.2.2.2.2.2.2.2.2.2.2.2))] sz) := by
  refine en (y := yX12_again) (wsm := wq_X12_again) (av := [.ref a0, .int p1]) (cc := cX12_again) (maxL := 2) (ret := (some .boolean)) (Qf := fun A => (QI D ca r [(a0, .inr (12, [.int v0'.1, .ref a1, .ref a2, .ref a3, .int v0'.2.2.2.2.1, .int v0'.2.2.2.2.2.1, .int v0'.2.2.2.2.2.2.1, .int v0'.2.2.2.2.2.2.2.1, .int v0'.2.2.2.2.2.2.2.2.1, .long v0'.2.2.2.2.2.2.2.2.2.1, .int v0'.2.2.2.2.2.2.2.2.2.2.1, .int v0'.2.2.2.2.2.2.2.2.2.2.2.1, .int v0'.2.2.2.2.2.2.2.2.2.2.2.2.1, .ref a4, .int v0'.2.2.2.2.2.2.2.2.2.2.2.2.2.2.1, .int v0'.2.2.2.2.2.2.2.2.2.2.2.2.2.2.2.1, .int v0'.2.2.2.2.2.2.2.2.2.2.2.2.2.2.2.2.1, .int v0'.2.2.2.2.2.2.2.2.2.2.2.2.2.2.2.2.2.1, .int v0'.2.2.2.2.2.2.2.2.2.2.2.2.2.2.2.2.2.2.1, .long v0'.2.2.2.2.2.2.2.2.2.2.2.2.2.2.2.2.2.2.2.1, .long v0'.2.2.2.2.2.2.2.2.2.2.2.2.2.2.2.2.2.2.2.2.1, .ref a5])), (a1, .inl (ca 0, 4725, .inl v0'.2.1)), (a2, .inl (ca 2, 1500, .inl v0'.2.2.1)), (a3, .inl (ca 3, 3, .inl v0'.2.2.2.1)), (a4, .inl (ca 0, 22, .inl v0'.2.2.2.2.2.2.2.2.2.2.2.2.2.1)), (a5, .inl (ca 0, 256, .inl v0'.2.2.2.2.2.2.2.2.2.2.2.2.2.2.2.2.2.2.2.2.2))] A)) (by decide) rfl (Nat.le_of_ble_eq_true rfl) ?_
  intro p e s m args below meth c A Q ls hx hb hr hml hown hts hlocks hnm hA hN hZ hK hQ hP hD hS hl
  have w0 := hts _ (List.mem_cons_of_mem _ gw_5_115)
  have w1 := hts _ (List.mem_cons_of_mem _ gw_5_118)
  have i12 : ∀ w ∈ u_ws RX12 TX12 22, w ∈ wq_X12_again := fun w h => List.mem_cons_of_mem _ (inX12 w h)
  unfold f_X12_again at hf
  refine lv_aload_n hx hb dX12_again_0 rfl (lv_at hl 0 rfl) ?_
  refine lv_iconst (v := 0) hx hb dX12_again_1 rfl ?_
  refine xput (C := RX12) (T := TX12) (N := 22) (wx := [(a0, .inr (12, [.int (0 : Int32), .ref a1, .ref a2, .ref a3, .int v0.2.2.2.2.1, .int v0.2.2.2.2.2.1, .int v0.2.2.2.2.2.2.1, .int v0.2.2.2.2.2.2.2.1, .int v0.2.2.2.2.2.2.2.2.1, .long v0.2.2.2.2.2.2.2.2.2.1, .int v0.2.2.2.2.2.2.2.2.2.2.1, .int v0.2.2.2.2.2.2.2.2.2.2.2.1, .int v0.2.2.2.2.2.2.2.2.2.2.2.2.1, .ref a4, .int v0.2.2.2.2.2.2.2.2.2.2.2.2.2.2.1, .int v0.2.2.2.2.2.2.2.2.2.2.2.2.2.2.2.1, .int v0.2.2.2.2.2.2.2.2.2.2.2.2.2.2.2.2.1, .int v0.2.2.2.2.2.2.2.2.2.2.2.2.2.2.2.2.2.1, .int v0.2.2.2.2.2.2.2.2.2.2.2.2.2.2.2.2.2.2.1, .long v0.2.2.2.2.2.2.2.2.2.2.2.2.2.2.2.2.2.2.2.1, .long v0.2.2.2.2.2.2.2.2.2.2.2.2.2.2.2.2.2.2.2.2.1, .ref a5])), (a1, .inl (ca 0, 4725, .inl v0.2.1)), (a2, .inl (ca 2, 1500, .inl v0.2.2.1)), (a3, .inl (ca 3, 3, .inl v0.2.2.2.1)), (a4, .inl (ca 0, 22, .inl v0.2.2.2.2.2.2.2.2.2.2.2.2.2.1)), (a5, .inl (ca 0, 256, .inl v0.2.2.2.2.2.2.2.2.2.2.2.2.2.2.2.2.2.2.2.2.2))]) hx hb hts i12 tyX12 tyX12_ok nmX12 hown hK hP hD hS 0 rfl rfl 0 (Nat.le_of_ble_eq_true rfl) w0 (fun _ h9 => h9) rfl rfl rfl rfl (Nat.le_of_ble_eq_true rfl) dX12_again_2 rfl (fun H locs hP hD hS => ?_)
  refine lv_iload_n hx hb dX12_again_5 rfl (lv_at hl 1 rfl) ?_
  refine lv_iconst (v := 0) hx hb dX12_again_6 rfl ?_
  refine lv_iconst (v := 2) hx hb dX12_again_7 rfl ?_
  obtain ⟨r_1, hc1, hf⟩ := bnd1_el hf
  refine xS_I (As := [.int p1, .int (0 : Int32), .int (2 : Int32)]) (wx := [(a0, .inr (12, [.int (0 : Int32), .ref a1, .ref a2, .ref a3, .int v0.2.2.2.2.1, .int v0.2.2.2.2.2.1, .int v0.2.2.2.2.2.2.1, .int v0.2.2.2.2.2.2.2.1, .int v0.2.2.2.2.2.2.2.2.1, .long v0.2.2.2.2.2.2.2.2.2.1, .int v0.2.2.2.2.2.2.2.2.2.2.1, .int v0.2.2.2.2.2.2.2.2.2.2.2.1, .int v0.2.2.2.2.2.2.2.2.2.2.2.2.1, .ref a4, .int v0.2.2.2.2.2.2.2.2.2.2.2.2.2.2.1, .int v0.2.2.2.2.2.2.2.2.2.2.2.2.2.2.2.1, .int v0.2.2.2.2.2.2.2.2.2.2.2.2.2.2.2.2.1, .int v0.2.2.2.2.2.2.2.2.2.2.2.2.2.2.2.2.2.1, .int v0.2.2.2.2.2.2.2.2.2.2.2.2.2.2.2.2.2.2.1, .long v0.2.2.2.2.2.2.2.2.2.2.2.2.2.2.2.2.2.2.2.1, .long v0.2.2.2.2.2.2.2.2.2.2.2.2.2.2.2.2.2.2.2.2.1, .ref a5])), (a1, .inl (ca 0, 4725, .inl v0.2.1)), (a2, .inl (ca 2, 1500, .inl v0.2.2.1)), (a3, .inl (ca 3, 3, .inl v0.2.2.2.1)), (a4, .inl (ca 0, 22, .inl v0.2.2.2.2.2.2.2.2.2.2.2.2.2.1)), (a5, .inl (ca 0, 256, .inl v0.2.2.2.2.2.2.2.2.2.2.2.2.2.2.2.2.2.2.2.2.2))]) ⟨hx, hb, hml, hown, hts⟩ (c_X12_in l D ca zz  _ p1 (0 : Int32) (2 : Int32) r_1 hc1) (va_cwS 3 hts (gS gw_5_204 gw_5_205 gw_1_15 gw_5_206) rfl rfl rfl (by decide +kernel) ⟨(Nat.le_of_ble_eq_true rfl), (Nat.le_of_ble_eq_true rfl)⟩) hK hN hZ hA hP hD hS [] [none, none, none, none, none, none] (by decide +kernel) rfl rfl rfl rfl hl.1 rfl (Nat.le_of_ble_eq_true rfl) dX12_again_8 ⟨Nat.zero_le _, Nat.zero_le _⟩ rfl (fun H locs hP hD hS => ?_)
  refine xi_eq (tgt := 23) hx hb dX12_again_11 (by decide) hf (fun hf => ?_) (fun hf => ?_)
  · refine lv_iconst (v := 0) hx hb dX12_again_23 rfl ?_
    have he := Option.some.inj hf
    obtain ⟨e_r, he⟩ := Prod.mk.inj he
    have e_v0 := he
    refine rt_Z hx hb hr hlocks hK hP hD hS hQ (Or.inl rfl) e_r ?_ dX12_again_24
    simp only [← e_v0]
  · refine lv_aload_n hx hb dX12_again_14 rfl (lv_at hl 0 rfl) ?_
    refine va_get (C := RX12) (T := TX12) (N := 22) hx hb hts i12 hown hK hP 0 rfl rfl 3 (Nat.le_of_ble_eq_true rfl) w1 (fun _ h9 => h9) rfl dX12_again_15 ?_
    refine lv_iload_n hx hb dX12_again_18 rfl (lv_at hl 1 rfl) ?_
    refine xzald hx hb hK hP 3 rfl hf dX12_again_19 (fun hf => ?_)
    refine xi_ne (tgt := 25) hx hb dX12_again_20 (by decide) hf (fun hf => ?_) (fun hf => ?_)
    · refine lv_aload_n hx hb dX12_again_25 rfl (lv_at hl 0 rfl) ?_
      refine lv_iload_n hx hb dX12_again_26 rfl (lv_at hl 1 rfl) ?_
      refine lv_iconst (v := 1) hx hb dX12_again_27 rfl ?_
      refine lv_iadd hx hb dX12_again_28 ?_
      refine lv_iconst (v := 0) hx hb dX12_again_29 rfl ?_
      obtain ⟨u_2, hc2, hf⟩ := bnd1_el hf
      have hMhc2 := fun sz => c_X12_copiesText l D ca zz a0 a1 a2 a3 a4 a5 sz (((0 : Int32), v0.2)) (p1 + (1 : Int32)) (0 : Int32) u_2 hc2
      dsimp only at hMhc2
      refine xV_V (As := [.int (p1 + (1 : Int32)), .int (0 : Int32)]) (wx := [(a0, .inr (12, [.int u_2.1, .ref a1, .ref a2, .ref a3, .int u_2.2.2.2.2.1, .int u_2.2.2.2.2.2.1, .int u_2.2.2.2.2.2.2.1, .int u_2.2.2.2.2.2.2.2.1, .int u_2.2.2.2.2.2.2.2.2.1, .long u_2.2.2.2.2.2.2.2.2.2.1, .int u_2.2.2.2.2.2.2.2.2.2.2.1, .int u_2.2.2.2.2.2.2.2.2.2.2.2.1, .int u_2.2.2.2.2.2.2.2.2.2.2.2.2.1, .ref a4, .int u_2.2.2.2.2.2.2.2.2.2.2.2.2.2.2.1, .int u_2.2.2.2.2.2.2.2.2.2.2.2.2.2.2.2.1, .int u_2.2.2.2.2.2.2.2.2.2.2.2.2.2.2.2.2.1, .int u_2.2.2.2.2.2.2.2.2.2.2.2.2.2.2.2.2.2.1, .int u_2.2.2.2.2.2.2.2.2.2.2.2.2.2.2.2.2.2.2.1, .long u_2.2.2.2.2.2.2.2.2.2.2.2.2.2.2.2.2.2.2.2.1, .long u_2.2.2.2.2.2.2.2.2.2.2.2.2.2.2.2.2.2.2.2.2.1, .ref a5])), (a1, .inl (ca 0, 4725, .inl u_2.2.1)), (a2, .inl (ca 2, 1500, .inl u_2.2.2.1)), (a3, .inl (ca 3, 3, .inl u_2.2.2.2.1)), (a4, .inl (ca 0, 22, .inl u_2.2.2.2.2.2.2.2.2.2.2.2.2.2.1)), (a5, .inl (ca 0, 256, .inl u_2.2.2.2.2.2.2.2.2.2.2.2.2.2.2.2.2.2.2.2.2.2))]) ⟨hx, hb, hml, hown, hts⟩ (hMhc2 _) (cwV 2 hts (gV gw_7_61 gw_7_63 gw_s_5_12 gw_1_15 gw_7_64) rfl rfl rfl (by decide +kernel) ⟨(Nat.le_of_ble_eq_true rfl), (Nat.le_of_ble_eq_true rfl)⟩) hK hN hZ hA hP hD hS [0, 1, 2, 3, 4, 5] [some 0, some 1, some 2, some 3, some 4, some 5] (by decide +kernel) rfl rfl rfl rfl 0 rfl rfl hl.1 rfl (Nat.le_of_ble_eq_true rfl) dX12_again_30 ⟨Nat.zero_le _, Nat.zero_le _⟩ rfl (fun H locs hP hD hS => ?_)
      refine lv_iconst (v := 1) hx hb dX12_again_33 rfl ?_
      have he := Option.some.inj hf
      obtain ⟨e_r, he⟩ := Prod.mk.inj he
      have e_v0 := he
      refine rt_Z hx hb hr hlocks hK hP hD hS hQ (Or.inr rfl) e_r ?_ dX12_again_34
      simp only [← e_v0]
    · refine lv_iconst (v := 0) hx hb dX12_again_23 rfl ?_
      have he := Option.some.inj hf
      obtain ⟨e_r, he⟩ := Prod.mk.inj he
      have e_v0 := he
      refine rt_Z hx hb hr hlocks hK hP hD hS hQ (Or.inl rfl) e_r ?_ dX12_again_24
      simp only [← e_v0]
end mp_14_cM19
section mp_30_pa
section PA
theorem lit_nI (n : Nat) : (OfNat.ofNat n : Int32) = nI (OfNat.ofNat n) := rfl
/-- (no row of these is an rfl row: the kernel would open heavy functions below) -/
theorem eq_n {α : Type} {a b : α} (h : ∀ c : α, c = b → a = c) : a = b := h b rfl
theorem bnd_e {α ρ : Type} (x : α) (k : α → Option ρ) : bnd x k = k x := eq_n (fun c h => by rw [h]; rfl)
theorem bnd1_s {α ρ : Type} (a : α) (k : α → Option ρ) : bnd1 (some a) k = k a := eq_n (fun c h => by rw [h]; rfl)
theorem bnd2_s {α β ρ : Type} (a : α) (b : β) (k : α → β → Option ρ) : bnd2 (some (a, b)) k = k a b := eq_n (fun c h => by rw [h]; rfl)
theorem bnd3_s {α β γ ρ : Type} (a : α) (b : β) (c : γ) (k : α → β → γ → Option ρ) : bnd3 (some (a, b, c)) k = k a b c := eq_n (fun c h => by rw [h]; rfl)
theorem bnd4_s {α β γ δ ρ : Type} (a : α) (b : β) (c : γ) (d : δ) (k : α → β → γ → δ → Option ρ) : bnd4 (some (a, b, c, d)) k = k a b c d := eq_n (fun c h => by rw [h]; rfl)
theorem chk_nI {ρ : Type} {i n : Nat} {k : Option ρ} (h : i < n) (hn : n < 2 ^ 31) : chkin (nI i) n k = k := if_neg (nI_in h hn)
theorem chk_in {ρ : Type} {i : Int32} {n : Nat} {k : Option ρ} (h : vp_in i n) : chkin i n k = k := if_neg h
theorem upd_s (f : Nat → Int32) (k : Nat) (x : Int32) : upd f k x k = x := if_pos rfl
theorem upd_n {f : Nat → Int32} {k j : Nat} {x : Int32} (h : j ≠ k) : upd f k x j = f j := if_neg h
theorem upd_a (f : Nat → Int32) (k : Nat) (x : Int32) (j : Nat) : upd f k x j = if j = k then x else f j := rfl
/-- a bit -/
def isb (x : Int32) : Prop := x = nI 0 ∨ x = nI 1
theorem isb_in {x : Int32} (h : isb x) : ∃ n : Nat, n < 2 ∧ x = nI n := by
  rcases h with h | h
  · exact ⟨0, by omega, h⟩
  · exact ⟨1, by omega, h⟩
theorem isb_of {n : Nat} (h : n < 2) : isb (nI n) := by
  rcases (show n = 0 ∨ n = 1 by omega) with e | e
  · exact Or.inl (by rw [e])
  · exact Or.inr (by rw [e])
/-- what the tests count -/
def RC (B W : Nat) (c : V1) (F : Nat → Int32) : Prop := ∃ m al iw : Nat, m ≤ B ∧ al ≤ m ∧ iw ≤ W ∧ F 30 = nI m ∧ c.1 = nI al ∧ F 31 = nI al ∧ c.2.2.1 = nI iw ∧ F 33 = nI iw ∧ F 34 = c.2.2.2.2.1 ∧ F 35 = c.2.2.2.2.2 ∧ (m = 0 ↔ al = 0) ∧ (m = 0 ↔ iw = 0) ∧ (0 < m → F 32 = c.2.1) ∧ (0 < iw → F 36 = c.2.2.2.1) ∧ (iw = 0 → c.2.2.2.2.1 = nI 0 ∧ c.2.2.2.2.2 = nI 0)
theorem RC.frame {B W : Nat} {c : V1} {F F2 : Nat → Int32} (h : RC B W c F) (e : ∀ j, 30 ≤ j → j ≤ 36 → F2 j = F j) : RC B W c F2 := by
  obtain ⟨m, al, iw, h1, h2, h3, h4, h5, h6, h7, h8, h9, h10, h11, h12, h13, h14, h15⟩ := h
  refine ⟨m, al, iw, h1, h2, h3, ?_, h5, ?_, h7, ?_, ?_, ?_, h11, h12, fun q => ?_, fun q => ?_, h15⟩
  · rw [e 30 (by omega) (by omega)]; exact h4
  · rw [e 31 (by omega) (by omega)]; exact h6
  · rw [e 33 (by omega) (by omega)]; exact h8
  · rw [e 34 (by omega) (by omega)]; exact h9
  · rw [e 35 (by omega) (by omega)]; exact h10
  · rw [e 32 (by omega) (by omega)]; exact h13 q
  · rw [e 36 (by omega) (by omega)]; exact h14 q
theorem RC.mono {B B2 W : Nat} {c : V1} {F : Nat → Int32} (h : RC B W c F) (hB : B ≤ B2) : RC B2 W c F := by
  obtain ⟨m, al, iw, h1, h2⟩ := h
  exact ⟨m, al, iw, Nat.le_trans h1 hB, h2⟩
theorem fails_eq (L : V2) (c : V1) (v : V12) (e1 : v.2.1 31 = c.1) (e2 : v.2.1 34 = c.2.2.2.2.1) (e3 : v.2.1 35 = c.2.2.2.2.2) (l1 : v.2.2.2.2.2.2.2.2.2.2.2.2.2.2.2.1 = L.2.2.1) (l2 : v.2.2.2.2.2.2.2.2.2.2.2.2.2.2.2.2.1 = L.2.2.2.1) (l3 : v.2.2.2.2.2.2.2.2.2.2.2.2.2.2.2.2.2.1 = L.2.2.2.2) : ∃ r : Int32, f_X2_failures L c = some r ∧ (if v.2.1 31 < v.2.2.2.2.2.2.2.2.2.2.2.2.2.2.2.1 then fc_X12_tests_206 v 0 else fc_X12_tests_206 v 1) = some (r, v) ∧ (r = 0 ∨ 0 < r) := by
  unfold f_X2_failures fc_X2_failures_16 fc_X2_failures_32 fc_X12_tests_206 fc_X12_tests_225
  simp only [bnd_e]
  rw [show ((34 : Int32)).toNatClampNeg = 34 from rfl, show ((35 : Int32)).toNatClampNeg = 35 from rfl]
  simp only [chk_in (show vp_in (34 : Int32) 4725 by unfold vp_in; decide), chk_in (show vp_in (35 : Int32) 4725 by unfold vp_in; decide)]
  rw [e1, e2, e3, l1, l2, l3]
  by_cases h1 : c.1 < L.2.2.1 <;> by_cases h2 : c.2.2.2.2.1 < L.2.2.2.1 <;> by_cases h3 : c.2.2.2.2.2 < L.2.2.2.2 <;> simp only [h1, h2, h3, if_true, if_false]
  all_goals exact ⟨_, rfl, rfl, by decide⟩
end PA
end mp_30_pa
section mp_31_ct
section CT
theorem c_step (v : V12) (b t0 t1 : Int32) : fc_X12_tests_166 v b t0 t1 34 = (if (upd (upd (upd v.2.1 34 (t1 + t0)) 32 b) 30 (v.2.1 30 + 1)) 31 < v.2.2.2.2.2.2.2.2.2.2.2.2.2.2.2.1 then fc_X12_tests_206 (v.1, upd (upd (upd v.2.1 34 (t1 + t0)) 32 b) 30 (v.2.1 30 + 1), v.2.2) 0 else fc_X12_tests_206 (v.1, upd (upd (upd v.2.1 34 (t1 + t0)) 32 b) 30 (v.2.1 30 + 1), v.2.2) 1) := by
  unfold fc_X12_tests_166
  simp (disch := decide) only [lit_nI, chk_nI, nI_clamp, bnd_e]
  rfl
theorem c_131 (v : V12) (b : Int32) : fc_X12_tests_131 v b = (if b = v.2.1 36 then fc_X12_tests_166 (v.1, upd v.2.1 33 (v.2.1 33 + 1), v.2.2) b 1 (v.2.1 34) 34 else fc_X12_tests_166 (v.1, upd v.2.1 33 (v.2.1 33 + 1), v.2.2) b 0 (v.2.1 34) 34) := by
  unfold fc_X12_tests_131
  simp (disch := decide) only [lit_nI, chk_nI, nI_clamp, bnd_e]
  rfl
theorem c_77 (v : V12) (b : Int32) : fc_X12_tests_77 v b = fc_X12_tests_131 (v.1, upd (upd (upd (upd v.2.1 33 0) 36 b) 34 0) 35 0, v.2.2) b := by
  unfold fc_X12_tests_77
  simp (disch := decide) only [lit_nI, chk_nI, nI_clamp, bnd_e]
theorem c_129 (v : V12) (b t0 t1 : Int32) : fc_X12_tests_129 v b t0 t1 35 = fc_X12_tests_131 (v.1, upd v.2.1 35 (t1 + t0), v.2.2) b := by
  unfold fc_X12_tests_129
  simp (disch := decide) only [lit_nI, chk_nI, nI_clamp, bnd_e]
theorem c_50 (v : V12) (b x2 t0 : Int32) : fc_X12_tests_50 v b x2 t0 31 = (if v.2.1 33 = v.2.1 2 then fc_X12_tests_77 (v.1, upd v.2.1 31 t0, v.2.2) b else if v.2.1 33 = 0 then fc_X12_tests_77 (v.1, upd v.2.1 31 t0, v.2.2) b else if x2 = 0 then fc_X12_tests_129 (v.1, upd v.2.1 31 t0, v.2.2) b 1 (v.2.1 35) 35 else fc_X12_tests_129 (v.1, upd v.2.1 31 t0, v.2.2) b 0 (v.2.1 35) 35) := by
  unfold fc_X12_tests_50
  simp (disch := decide) only [lit_nI, chk_nI, nI_clamp, bnd_e]
  rfl
theorem c_tests (v : V12) (b : Int32) : f_X12_tests v b = (if v.2.1 30 ≤ 0 then fc_X12_tests_50 v b 0 1 31 else if v.2.1 32 = b then fc_X12_tests_50 v b 1 (v.2.1 31 + 1) 31 else fc_X12_tests_50 v b 0 1 31) := by
  unfold f_X12_tests fc_X12_tests_25 fc_X12_tests_26
  simp (disch := decide) only [lit_nI, chk_nI, nI_clamp]
  rfl
/-- the end of the tests: c' is what the class has -/
theorem c_end (L : V2) (c : V1) (v : V12) (b t0 t1 : Int32) (e1 : v.2.1 31 = c.1) (e2 : t1 + t0 = c.2.2.2.2.1) (e3 : v.2.1 35 = c.2.2.2.2.2) (l1 : v.2.2.2.2.2.2.2.2.2.2.2.2.2.2.2.1 = L.2.2.1) (l2 : v.2.2.2.2.2.2.2.2.2.2.2.2.2.2.2.2.1 = L.2.2.2.1) (l3 : v.2.2.2.2.2.2.2.2.2.2.2.2.2.2.2.2.2.1 = L.2.2.2.2) : ∃ r : Int32, f_X2_failures L c = some r ∧ fc_X12_tests_166 v b t0 t1 34 = some (r, (v.1, upd (upd (upd v.2.1 34 (t1 + t0)) 32 b) 30 (v.2.1 30 + 1), v.2.2)) ∧ (r = 0 ∨ 0 < r) := by
  rw [c_step]
  exact fails_eq L c (v.1, upd (upd (upd v.2.1 34 (t1 + t0)) 32 b) 30 (v.2.1 30 + 1), v.2.2) e1 e2 e3 l1 l2 l3
theorem tests_rel {B W : Nat} {c : V1} {v : V12} (b : Int32) (L : V2) (hR : RC B W c v.2.1) (hW : v.2.1 2 = nI W) (hW4 : 4 ≤ W) (hW15 : W ≤ 15) (hB : B < 2 ^ 30) (l1 : v.2.2.2.2.2.2.2.2.2.2.2.2.2.2.2.1 = L.2.2.1) (l2 : v.2.2.2.2.2.2.2.2.2.2.2.2.2.2.2.2.1 = L.2.2.2.1) (l3 : v.2.2.2.2.2.2.2.2.2.2.2.2.2.2.2.2.2.1 = L.2.2.2.2) : ∃ (c2 : V1) (F2 : Nat → Int32) (r : Int32), f_X1_hear c b (nI W) = some c2 ∧ f_X2_failures L c2 = some r ∧ f_X12_tests v b = some (r, (v.1, F2, v.2.2)) ∧ (r = 0 ∨ 0 < r) ∧ RC (B + 1) W c2 F2 ∧ F2 30 = v.2.1 30 + 1 ∧ (∀ j, j < 30 ∨ 36 < j → F2 j = v.2.1 j) := by
  obtain ⟨m, al, iw, h1, h2, h3, h4, h5, h6, h7, h8, h9, h10, h11, h12, h13, h14, h15⟩ := hR
  obtain ⟨c1, c2, c3, c4, c5, c6⟩ := c
  dsimp only at h5 h7 h9 h10 h13 h14 h15
  subst h5 h7
  have hfr : ∀ (F : Nat → Int32) (x1 x2 x3 x4 x5 x6 x7 : Int32) (j : Nat), j < 30 ∨ 36 < j → upd (upd (upd (upd (upd (upd (upd F 31 x1) 35 x2) 33 x3) 34 x4) 32 x5) 30 x6) 36 x7 j = F j := by
    intro F x1 x2 x3 x4 x5 x6 x7 j hj
    rw [upd_n (by omega), upd_n (by omega), upd_n (by omega), upd_n (by omega), upd_n (by omega), upd_n (by omega), upd_n (by omega)]
  by_cases hm : m = 0
  · -- the first one
    have hal : al = 0 := h11.mp hm
    have hiw : iw = 0 := h12.mp hm
    obtain ⟨e5, e6⟩ := h15 hiw
    subst hm hal hiw e5 e6
    have key := c_end L (nI 1, b, nI 1, b, nI 1, nI 0) (v.1, upd (upd (upd (upd (upd (upd v.2.1 31 1) 33 0) 36 b) 34 0) 35 0) 33 (0 + 1), v.2.2) b 1 0 rfl rfl rfl l1 l2 l3
    obtain ⟨r, k1, k2, k3⟩ := key
    refine ⟨(nI 1, b, nI 1, b, nI 1, nI 0), _, r, ?_, k1, Eq.trans ?_ k2, k3, ?_, ?_, ?_⟩
    · unfold f_X1_hear fc_X1_hear_23 fc_X1_hear_56 fc_X1_hear_74 fc_X1_hear_99 fc_X1_hear_100
      dsimp only
      rw [if_pos (nI_lt (by omega) (by omega)), if_pos nI_0, if_pos rfl]
      dsimp only [bnd]
      rw [if_pos (by decide)]
      rfl
    · rw [c_tests, h4, if_pos (by decide), c_50, hW, h8, if_neg (by rw [nI_eq (by omega) (by omega)]; omega), if_pos nI_0, c_77, c_131]
      exact if_pos rfl
    · refine ⟨1, 1, 1, by omega, by omega, by omega, ?_, rfl, rfl, rfl, rfl, rfl, rfl, by omega, by omega, fun _ => rfl, fun _ => rfl, fun q => by omega⟩
      show v.2.1 30 + 1 = nI 1
      rw [h4]; rfl
    · rfl
    · intro j hj
      dsimp only
      rw [upd_n (by omega), upd_n (by omega), upd_n (by omega), upd_n (by omega), upd_n (by omega), upd_n (by omega), upd_n (by omega), upd_n (by omega), upd_n (by omega)]
  have hm0 : 0 < m := by omega
  have hiw0 : 0 < iw := by omega
  have hal0 : 0 < al := by omega
  have hl := h13 hm0
  have hf := h14 hiw0
  have g30 : ¬ v.2.1 30 ≤ 0 := by rw [h4]; exact nI_nle hm0 (by omega)
  have gal : ¬ nI al ≤ 0 := nI_nle hal0 (by omega)
  have e30 : v.2.1 30 + 1 = nI (m + 1) := by rw [h4]; exact nI_1 m
  by_cases hlast : c2 = b
  · -- like the last one
    by_cases hw : iw = W
    · have key := c_end L (nI al + 1, b, nI 1, b, nI 1, nI 0) (v.1, upd (upd (upd (upd (upd (upd v.2.1 31 (v.2.1 31 + 1)) 33 0) 36 b) 34 0) 35 0) 33 (0 + 1), v.2.2) b 1 0 (by show v.2.1 31 + 1 = nI al + 1; rw [h6]) rfl rfl l1 l2 l3
      obtain ⟨r, k1, k2, k3⟩ := key
      refine ⟨(nI al + 1, b, nI 1, b, nI 1, nI 0), _, r, ?_, k1, Eq.trans ?_ k2, k3, ?_, ?_, ?_⟩
      · unfold f_X1_hear fc_X1_hear_23 fc_X1_hear_56 fc_X1_hear_74 fc_X1_hear_99 fc_X1_hear_100
        dsimp only
        rw [if_neg (nI_nlt (by omega) (by omega)), if_pos rfl, if_pos rfl]
        dsimp only [bnd]
        rw [if_neg gal, if_pos hlast.symm]
        rfl
      · rw [c_tests, if_neg g30, hl, if_pos hlast, c_50, hW, h8, hw, if_pos rfl, c_77, c_131]
        exact if_pos rfl
      · refine ⟨m + 1, al + 1, 1, by omega, by omega, by omega, e30, nI_1 al, ?_, rfl, rfl, rfl, rfl, by omega, by omega, fun _ => rfl, fun _ => rfl, fun q => by omega⟩
        show v.2.1 31 + 1 = _
        rw [h6]; exact nI_1 al
      · rfl
      · intro j hj
        dsimp only
        rw [upd_n (by omega), upd_n (by omega), upd_n (by omega), upd_n (by omega), upd_n (by omega), upd_n (by omega), upd_n (by omega), upd_n (by omega), upd_n (by omega)]
    · by_cases hfi : b = c4
      · have key := c_end L (nI al + 1, b, nI iw + 1, c4, c5 + 1, c6) (v.1, upd (upd (upd v.2.1 31 (v.2.1 31 + 1)) 35 (v.2.1 35 + 0)) 33 (v.2.1 33 + 1), v.2.2) b 1 (v.2.1 34) (by show v.2.1 31 + 1 = nI al + 1; rw [h6]) (by show v.2.1 34 + 1 = c5 + 1; rw [h9]) (by show v.2.1 35 + 0 = c6; rw [h10, Int32.add_zero]) l1 l2 l3
        obtain ⟨r, k1, k2, k3⟩ := key
        refine ⟨(nI al + 1, b, nI iw + 1, c4, c5 + 1, c6), _, r, ?_, k1, Eq.trans ?_ k2, k3, ?_, ?_, ?_⟩
        · unfold f_X1_hear fc_X1_hear_23 fc_X1_hear_56 fc_X1_hear_74 fc_X1_hear_99 fc_X1_hear_100
          dsimp only
          rw [if_pos (nI_lt (by omega) (by omega)), if_neg (nI_ne0 hiw0 (by omega)), if_pos hlast.symm, if_pos hfi]
          dsimp only [bnd]
          rw [if_neg gal, if_pos hlast.symm]
        · rw [c_tests, if_neg g30, hl, if_pos hlast, c_50, hW, h8, if_neg (by rw [nI_eq (by omega) (by omega)]; exact hw), if_neg (nI_ne0 hiw0 (by omega)), if_neg (by decide), c_129, c_131]
          rw [← h8]
          exact if_pos (show b = v.2.1 36 by rw [hf]; exact hfi)
        · refine ⟨m + 1, al + 1, iw + 1, by omega, by omega, by omega, e30, nI_1 al, ?_, nI_1 iw, ?_, ?_, ?_, by omega, by omega, fun _ => rfl, fun _ => hf, fun q => by omega⟩
          · show v.2.1 31 + 1 = _
            rw [h6]; exact nI_1 al
          · show v.2.1 33 + 1 = _
            rw [h8]; exact nI_1 iw
          · show v.2.1 34 + 1 = c5 + 1
            rw [h9]
          · show v.2.1 35 + 0 = c6
            rw [h10, Int32.add_zero]
        · rfl
        · intro j hj
          dsimp only
          rw [upd_n (by omega), upd_n (by omega), upd_n (by omega), upd_n (by omega), upd_n (by omega), upd_n (by omega)]
      · have key := c_end L (nI al + 1, b, nI iw + 1, c4, c5, c6) (v.1, upd (upd (upd v.2.1 31 (v.2.1 31 + 1)) 35 (v.2.1 35 + 0)) 33 (v.2.1 33 + 1), v.2.2) b 0 (v.2.1 34) (by show v.2.1 31 + 1 = nI al + 1; rw [h6]) (by show v.2.1 34 + 0 = c5; rw [h9, Int32.add_zero]) (by show v.2.1 35 + 0 = c6; rw [h10, Int32.add_zero]) l1 l2 l3
        obtain ⟨r, k1, k2, k3⟩ := key
        refine ⟨(nI al + 1, b, nI iw + 1, c4, c5, c6), _, r, ?_, k1, Eq.trans ?_ k2, k3, ?_, ?_, ?_⟩
        · unfold f_X1_hear fc_X1_hear_23 fc_X1_hear_56 fc_X1_hear_74 fc_X1_hear_99 fc_X1_hear_100
          dsimp only
          rw [if_pos (nI_lt (by omega) (by omega)), if_neg (nI_ne0 hiw0 (by omega)), if_pos hlast.symm, if_neg hfi, if_neg gal, if_pos hlast.symm]
          rfl
        · rw [c_tests, if_neg g30, hl, if_pos hlast, c_50, hW, h8, if_neg (by rw [nI_eq (by omega) (by omega)]; exact hw), if_neg (nI_ne0 hiw0 (by omega)), if_neg (by decide), c_129, c_131]
          rw [← h8]
          exact if_neg (show ¬ b = v.2.1 36 by rw [hf]; exact hfi)
        · refine ⟨m + 1, al + 1, iw + 1, by omega, by omega, by omega, e30, nI_1 al, ?_, nI_1 iw, ?_, ?_, ?_, by omega, by omega, fun _ => rfl, fun _ => hf, fun q => by omega⟩
          · show v.2.1 31 + 1 = _
            rw [h6]; exact nI_1 al
          · show v.2.1 33 + 1 = _
            rw [h8]; exact nI_1 iw
          · show v.2.1 34 + 0 = c5
            rw [h9, Int32.add_zero]
          · show v.2.1 35 + 0 = c6
            rw [h10, Int32.add_zero]
        · rfl
        · intro j hj
          dsimp only
          rw [upd_n (by omega), upd_n (by omega), upd_n (by omega), upd_n (by omega), upd_n (by omega), upd_n (by omega)]
  · -- unlike the last one
    have hlast2 : ¬ b = c2 := fun q => hlast q.symm
    by_cases hw : iw = W
    · have key := c_end L (nI 1, b, nI 1, b, nI 1, nI 0) (v.1, upd (upd (upd (upd (upd (upd v.2.1 31 1) 33 0) 36 b) 34 0) 35 0) 33 (0 + 1), v.2.2) b 1 0 rfl rfl rfl l1 l2 l3
      obtain ⟨r, k1, k2, k3⟩ := key
      refine ⟨(nI 1, b, nI 1, b, nI 1, nI 0), _, r, ?_, k1, Eq.trans ?_ k2, k3, ?_, ?_, ?_⟩
      · unfold f_X1_hear fc_X1_hear_23 fc_X1_hear_56 fc_X1_hear_74 fc_X1_hear_99 fc_X1_hear_100
        dsimp only
        rw [if_neg (nI_nlt (by omega) (by omega)), if_pos rfl, if_pos rfl]
        dsimp only [bnd]
        rw [if_neg gal, if_neg hlast2]
        rfl
      · rw [c_tests, if_neg g30, hl, if_neg hlast, c_50, hW, h8, hw, if_pos rfl, c_77, c_131]
        exact if_pos rfl
      · exact ⟨m + 1, 1, 1, by omega, by omega, by omega, e30, rfl, rfl, rfl, rfl, rfl, rfl, by omega, by omega, fun _ => rfl, fun _ => rfl, fun q => by omega⟩
      · rfl
      · intro j hj
        dsimp only
        rw [upd_n (by omega), upd_n (by omega), upd_n (by omega), upd_n (by omega), upd_n (by omega), upd_n (by omega), upd_n (by omega), upd_n (by omega), upd_n (by omega)]
    · by_cases hfi : b = c4
      · have key := c_end L (nI 1, b, nI iw + 1, c4, c5 + 1, c6 + 1) (v.1, upd (upd (upd v.2.1 31 1) 35 (v.2.1 35 + 1)) 33 (v.2.1 33 + 1), v.2.2) b 1 (v.2.1 34) rfl (by show v.2.1 34 + 1 = c5 + 1; rw [h9]) (by show v.2.1 35 + 1 = c6 + 1; rw [h10]) l1 l2 l3
        obtain ⟨r, k1, k2, k3⟩ := key
        refine ⟨(nI 1, b, nI iw + 1, c4, c5 + 1, c6 + 1), _, r, ?_, k1, Eq.trans ?_ k2, k3, ?_, ?_, ?_⟩
        · unfold f_X1_hear fc_X1_hear_23 fc_X1_hear_56 fc_X1_hear_74 fc_X1_hear_99 fc_X1_hear_100
          dsimp only
          rw [if_pos (nI_lt (by omega) (by omega)), if_neg (nI_ne0 hiw0 (by omega)), if_neg hlast2]
          dsimp only [bnd]
          rw [if_pos hfi, if_neg gal, if_neg hlast2]
          rfl
        · rw [c_tests, if_neg g30, hl, if_neg hlast, c_50, hW, h8, if_neg (by rw [nI_eq (by omega) (by omega)]; exact hw), if_neg (nI_ne0 hiw0 (by omega)), if_pos rfl, c_129, c_131]
          rw [← h8]
          exact if_pos (show b = v.2.1 36 by rw [hf]; exact hfi)
        · refine ⟨m + 1, 1, iw + 1, by omega, by omega, by omega, e30, rfl, rfl, nI_1 iw, ?_, ?_, ?_, by omega, by omega, fun _ => rfl, fun _ => hf, fun q => by omega⟩
          · show v.2.1 33 + 1 = _
            rw [h8]; exact nI_1 iw
          · show v.2.1 34 + 1 = c5 + 1
            rw [h9]
          · show v.2.1 35 + 1 = c6 + 1
            rw [h10]
        · rfl
        · intro j hj
          dsimp only
          rw [upd_n (by omega), upd_n (by omega), upd_n (by omega), upd_n (by omega), upd_n (by omega), upd_n (by omega)]
      · have key := c_end L (nI 1, b, nI iw + 1, c4, c5, c6 + 1) (v.1, upd (upd (upd v.2.1 31 1) 35 (v.2.1 35 + 1)) 33 (v.2.1 33 + 1), v.2.2) b 0 (v.2.1 34) rfl (by show v.2.1 34 + 0 = c5; rw [h9, Int32.add_zero]) (by show v.2.1 35 + 1 = c6 + 1; rw [h10]) l1 l2 l3
        obtain ⟨r, k1, k2, k3⟩ := key
        refine ⟨(nI 1, b, nI iw + 1, c4, c5, c6 + 1), _, r, ?_, k1, Eq.trans ?_ k2, k3, ?_, ?_, ?_⟩
        · unfold f_X1_hear fc_X1_hear_23 fc_X1_hear_56 fc_X1_hear_74 fc_X1_hear_99 fc_X1_hear_100
          dsimp only
          rw [if_pos (nI_lt (by omega) (by omega)), if_neg (nI_ne0 hiw0 (by omega)), if_neg hlast2]
          dsimp only [bnd]
          rw [if_neg hfi, if_neg gal, if_neg hlast2]
          rfl
        · rw [c_tests, if_neg g30, hl, if_neg hlast, c_50, hW, h8, if_neg (by rw [nI_eq (by omega) (by omega)]; exact hw), if_neg (nI_ne0 hiw0 (by omega)), if_pos rfl, c_129, c_131]
          rw [← h8]
          exact if_neg (show ¬ b = v.2.1 36 by rw [hf]; exact hfi)
        · refine ⟨m + 1, 1, iw + 1, by omega, by omega, by omega, e30, rfl, rfl, nI_1 iw, ?_, ?_, ?_, by omega, by omega, fun _ => rfl, fun _ => hf, fun q => by omega⟩
          · show v.2.1 33 + 1 = _
            rw [h8]; exact nI_1 iw
          · show v.2.1 34 + 0 = c5
            rw [h9, Int32.add_zero]
          · show v.2.1 35 + 1 = c6 + 1
            rw [h10]
        · rfl
        · intro j hj
          dsimp only
          rw [upd_n (by omega), upd_n (by omega), upd_n (by omega), upd_n (by omega), upd_n (by omega), upd_n (by omega)]
end CT
end mp_31_ct
section mp_32_qu
section QU
/-- a queue of the class, a row of the reference -/
def RQ (a o mx : Nat) (q : V4) (F : Nat → Int32) : Prop := ∃ n h : Nat, n ≤ mx ∧ h < 512 ∧ q.2.2 = nI n ∧ q.2.1 = nI h ∧ F a = nI n ∧ ∀ k, k < n → F (o + k) = q.1 ((h + k) % 512) ∧ isb (F (o + k))
theorem RQ.frame {a o mx : Nat} {q : V4} {F F2 : Nat → Int32} (h : RQ a o mx q F) (e : ∀ j, j = a ∨ (o ≤ j ∧ j < o + mx) → F2 j = F j) : RQ a o mx q F2 := by
  obtain ⟨n, hd, h1, h2, h3, h4, h5, h6⟩ := h
  refine ⟨n, hd, h1, h2, h3, h4, by rw [e a (Or.inl rfl)]; exact h5, fun k hk => ?_⟩
  rw [e (o + k) (Or.inr ⟨by omega, by omega⟩)]
  exact h6 k hk
theorem and511 {n : Nat} (h : n < 2 ^ 31) : nI n &&& 511 = nI (n % 512) := pk_andN (by omega) 9 (by decide)
theorem x_append (g : Nat → Int32) {h n : Nat} (x : Int32) (hh : h < 512) (hn : n < 512) : f_X4_append (g, nI h, nI n) x = some (upd g ((h + n) % 512) x, nI h, nI (n + 1)) := by
  unfold f_X4_append
  dsimp only
  rw [if_neg (show ¬ (511 : Int32) < nI n from nI_nlt (a := 511) (by omega) (by decide)), nI_add, and511 (by omega), chk_nI (Nat.mod_lt _ (by decide)) (by decide), nI_clamp (by omega)]
  dsimp only [bnd]
  rw [nI_1]
theorem x_drop (g : Nat → Int32) {h n : Nat} (hh : h < 512) (h0 : 0 < n) (hn : n ≤ 512) : f_X4_dropFirst (g, nI h, nI n) = some (g h, (g, nI ((h + 1) % 512), nI (n - 1))) := by
  unfold f_X4_dropFirst
  dsimp only
  rw [if_pos (show (0 : Int32) < nI n from nI_lt (a := 0) h0 (by omega)), and511 (by omega), Nat.mod_eq_of_lt hh, chk_nI hh (by decide), nI_clamp (by omega)]
  dsimp only [bnd]
  rw [nI_1, and511 (by omega), show nI n - 1 = nI (n - 1) from pk_sub (b := 1) h0]
/-- a row of 'all' moves down by one place -/
theorem m_shift : ∀ (d fu k : Nat) (v : V12) (b : Int32), k + d = 400 → 1 ≤ k → d < fu → fb_X12_comesToHistory_16 fu v b (nI k) = fc_X12_comesToHistory_63 (v.1, upd (fun j => if 300 + k ≤ j ∧ j < 700 then v.2.1 (j + 1) else v.2.1 j) 300 (v.2.1 300 - 1), v.2.2) b := by
  intro d
  induction d with
  | zero =>
    intro fu k v b hk h1 hf
    obtain ⟨fu, rfl⟩ : ∃ m, fu = m + 1 := ⟨fu - 1, by omega⟩
    have hk : k = 400 := by omega
    subst hk
    have e : (fun j => if 300 + 400 ≤ j ∧ j < 700 then v.2.1 (j + 1) else v.2.1 j) = v.2.1 := by
      funext j
      rw [if_neg (by omega)]
    unfold fb_X12_comesToHistory_16 fl_X12_comesToHistory_16
    rw [if_pos (show (400 : Int32) ≤ nI 400 by decide), e]
    simp (disch := decide) only [lit_nI, chk_nI, nI_clamp, bnd_e]
  | succ d ih =>
    intro fu k v b hk h1 hf
    obtain ⟨fu, rfl⟩ : ∃ m, fu = m + 1 := ⟨fu - 1, by omega⟩
    unfold fb_X12_comesToHistory_16 fl_X12_comesToHistory_16
    rw [if_neg (show ¬ (400 : Int32) ≤ nI k from nI_ge (b := 400) (by omega) (by decide))]
    rw [show (301 : Int32) + nI k = nI (301 + k) from nI_add 301 k, show nI (301 + k) - 1 = nI (300 + k) from by rw [show 301 + k = (300 + k) + 1 by omega]; exact nI_pred _]
    rw [chk_nI (by omega) (by decide), chk_nI (by omega) (by decide), nI_clamp (by omega), nI_clamp (by omega)]
    dsimp only [bnd]
    rw [nI_1, ih fu (k + 1) _ b (by omega) (by omega) (by omega)]
    congr 3
    funext j
    dsimp only
    by_cases hj : j = 300
    · subst hj
      rw [upd_s, upd_s, upd_n (by omega)]
    · rw [upd_n hj, upd_n hj]
      by_cases h2 : j = 300 + k
      · subst h2
        rw [if_neg (by omega), if_pos (by omega), upd_s]
        rw [show 300 + k + 1 = 301 + k by omega]
      · by_cases h3 : 300 + (k + 1) ≤ j ∧ j < 700
        · rw [if_pos h3, if_pos (by omega), upd_n (by omega)]
        · rw [if_neg h3, if_neg (by omega), upd_n h2]
theorem m_hist63 (v : V12) (b : Int32) {n : Nat} (hn : v.2.1 300 = nI n) (h4 : n < 400) : fc_X12_comesToHistory_63 v b = some (v.1, upd (upd v.2.1 (301 + n) b) 300 (nI (n + 1)), v.2.2) := by
  unfold fc_X12_comesToHistory_63
  simp (disch := decide) only [lit_nI, chk_nI, nI_clamp, bnd_e]
  rw [hn, nI_add, chk_nI (by omega) (by decide), nI_clamp (by omega), upd_n (by omega), hn, nI_add]
theorem m_hist (v : V12) (b : Int32) : f_X12_comesToHistory v b = (if v.2.1 300 = 400 then fb_X12_comesToHistory_16 FU v b 1 else fc_X12_comesToHistory_63 v b) := by
  unfold f_X12_comesToHistory
  simp (disch := decide) only [lit_nI, chk_nI, nI_clamp]
  rfl
theorem hist_lt {q : V4} {v : V12} {b : Int32} (hR : RQ 300 301 400 q v.2.1) (hb : isb b) (hlt : q.2.2 < 400) : ∃ (q2 : V4) (F2 : Nat → Int32), f_X4_append q b = some q2 ∧ f_X12_comesToHistory v b = some (v.1, F2, v.2.2) ∧ RQ 300 301 400 q2 F2 ∧ ∀ j, j < 300 ∨ 700 < j → F2 j = v.2.1 j := by
  obtain ⟨n, h, h1, h2, h3, h4, h5, h6⟩ := hR
  obtain ⟨g, qh, qn⟩ := q
  dsimp only at h3 h4 h6 hlt
  subst h3 h4
  have hn : n < 400 := (nI_ltI (b := 400) (by omega) (by decide)).mp hlt
  refine ⟨_, upd (upd v.2.1 (301 + n) b) 300 (nI (n + 1)), x_append g b h2 (by omega), ?_, ?_, ?_⟩
  · rw [m_hist, if_neg (by rw [h5]; show ¬ nI n = nI 400; rw [nI_eq (by omega) (by decide)]; omega)]
    exact m_hist63 v b h5 hn
  · refine ⟨n + 1, h, by omega, h2, rfl, rfl, upd_s _ _ _, fun k hk => ?_⟩
    rw [upd_n (by omega)]
    dsimp only
    by_cases hk2 : k = n
    · subst hk2
      rw [upd_s, upd_s]
      exact ⟨rfl, hb⟩
    · rw [upd_n (by omega), upd_n (by omega)]
      exact h6 k (by omega)
  · intro j hj
    rw [upd_n (by omega), upd_n (by omega)]
theorem hist_eq {q : V4} {v : V12} {b : Int32} (hR : RQ 300 301 400 q v.2.1) (hb : isb b) (hlt : ¬ q.2.2 < 400) : ∃ (x : Int32) (q1 q2 : V4) (F2 : Nat → Int32), f_X4_dropFirst q = some (x, q1) ∧ f_X4_append q1 b = some q2 ∧ f_X12_comesToHistory v b = some (v.1, F2, v.2.2) ∧ RQ 300 301 400 q2 F2 ∧ ∀ j, j < 300 ∨ 700 < j → F2 j = v.2.1 j := by
  obtain ⟨n, h, h1, h2, h3, h4, h5, h6⟩ := hR
  obtain ⟨g, qh, qn⟩ := q
  dsimp only at h3 h4 h6 hlt
  subst h3 h4
  have hn : n = 400 := by
    rcases Nat.lt_or_ge n 400 with z | z
    · exact absurd (nI_lt (b := 400) z (by decide)) hlt
    · omega
  subst hn
  refine ⟨_, _, _, upd (upd (upd (fun j => if 300 + 1 ≤ j ∧ j < 700 then v.2.1 (j + 1) else v.2.1 j) 300 (v.2.1 300 - 1)) (301 + 399) b) 300 (nI (399 + 1)), x_drop g h2 (by decide) (by decide), x_append g b (Nat.mod_lt _ (by decide)) (by decide), ?_, ?_, ?_⟩
  · rw [m_hist, if_pos (by rw [h5]; rfl)]
    refine (m_shift 399 FU 1 v b (by decide) (by decide) (by decide)).trans ?_
    refine m_hist63 (n := 399) _ b ?_ (by decide)
    show v.2.1 300 - 1 = nI 399
    rw [h5]
    rfl
  · refine ⟨400, (h + 1) % 512, by omega, Nat.mod_lt _ (by decide), rfl, rfl, upd_s _ _ _, fun k hk => ?_⟩
    rw [upd_n (by omega)]
    dsimp only
    by_cases hk2 : k = 399
    · subst hk2
      rw [upd_s, upd_s]
      exact ⟨rfl, hb⟩
    · rw [upd_n (by omega), upd_n (by omega), upd_n (by omega), if_pos (by omega)]
      have h7 := h6 (k + 1) (by omega)
      have e1 : 301 + (k + 1) = 301 + k + 1 := by omega
      have e2 : (h + (k + 1)) % 512 = ((h + 1) % 512 + k) % 512 := by omega
      rw [e1, e2] at h7
      exact h7
  · intro j hj
    rw [upd_n (by omega), upd_n (by omega), upd_n (by omega), if_neg (by omega)]
end QU
end mp_32_qu
section mp_33_rw
section RW
/-- the ROWS -/
def RR (r : V6) (F : Nat → Int32) : Prop := ∃ n : Nat, n ≤ 15 ∧ r.2.2 = nI n ∧ F 701 = nI n ∧ ∀ i, i < n → ∃ len S : Nat, len ≤ 15 ∧ S < 2 ^ len ∧ r.2.1 i = nI len ∧ F (702 + 16 * i) = nI len ∧ r.1 i = nI S ∧ ∀ k, k < len → F (703 + 16 * i + k) = nI (S / 2 ^ k % 2)
theorem RR.frame {r : V6} {F F2 : Nat → Int32} (h : RR r F) (e : ∀ j, 701 ≤ j → j < 942 → F2 j = F j) : RR r F2 := by
  obtain ⟨n, h1, h2, h3, h4⟩ := h
  refine ⟨n, h1, h2, by rw [e 701 (by omega) (by omega)]; exact h3, fun i hi => ?_⟩
  obtain ⟨len, S, g1, g2, g3, g4, g5, g6⟩ := h4 i hi
  refine ⟨len, S, g1, g2, g3, by rw [e _ (by omega) (by omega)]; exact g4, g5, fun k hk => ?_⟩
  rw [e _ (by omega) (by omega)]
  exact g6 k hk
theorem shl_ok : ∀ k : Nat, k < 32 → ((nI k &&& 31).toBitVec.smod 32).toNat = k := by decide +kernel
theorem or_nI {a b : Nat} : nI a ||| nI b = nI (a ||| b) := by
  apply Int32.toBitVec_inj.mp
  rw [Int32.toBitVec_or]
  show BitVec.ofNat 32 a ||| BitVec.ofNat 32 b = BitVec.ofNat 32 (a ||| b)
  apply BitVec.eq_of_toNat_eq
  rw [BitVec.toNat_or, BitVec.toNat_ofNat, BitVec.toNat_ofNat, BitVec.toNat_ofNat, Nat.or_mod_two_pow]
theorem or_add {S b len : Nat} (h : S < 2 ^ len) : S ||| b * 2 ^ len = S + b * 2 ^ len := by
  have h1 := Nat.two_pow_add_eq_or_of_lt h b
  rw [Nat.or_comm, Nat.mul_comm b, ← h1, Nat.add_comm]
theorem bit_low {S b len k : Nat} (hk : k < len) : (S + b * 2 ^ len) / 2 ^ k % 2 = S / 2 ^ k % 2 := by
  obtain ⟨d, rfl⟩ : ∃ d, len = k + 1 + d := ⟨len - k - 1, by omega⟩
  have e : b * 2 ^ (k + 1 + d) = 2 ^ k * (2 * (b * 2 ^ d)) := by
    rw [Nat.pow_add, Nat.pow_succ]
    simp only [Nat.mul_comm, Nat.mul_left_comm, Nat.mul_assoc]
  rw [e, Nat.add_mul_div_left _ _ (Nat.two_pow_pos k), Nat.add_mul_mod_self_left]
theorem bit_top {S b len : Nat} (h : S < 2 ^ len) : (S + b * 2 ^ len) / 2 ^ len = b := by
  rw [Nat.add_mul_div_right _ _ (Nat.two_pow_pos len), Nat.div_eq_of_lt h, Nat.zero_add]
theorem rows_rel {r : V6} {v : V12} {b : Int32} (hR : RR r v.2.1) (hb : isb b) (h0 : v.2.1 701 ≠ 0) : ∃ (r2 : V6) (F2 : Nat → Int32), f_X6_append r b = some r2 ∧ f_X12_comesToRow v b = some (v.1, F2, v.2.2) ∧ RR r2 F2 ∧ F2 701 = v.2.1 701 ∧ ∀ j, j < 702 ∨ 941 < j → F2 j = v.2.1 j := by
  obtain ⟨n, h1, h2, h3, h4⟩ := hR
  obtain ⟨sm, ln, rn⟩ := r
  dsimp only at h2 h4
  subst h2
  have hn0 : 0 < n := by
    rcases Nat.eq_zero_or_pos n with z | z
    · exact absurd (by rw [h3, z]; rfl) h0
    · exact z
  obtain ⟨len, S, g1, g2, g3, g4, g5, g6⟩ := h4 (n - 1) (by omega)
  obtain ⟨bb, hbb, rfl⟩ := isb_in hb
  have eX : nI n - 1 = nI (n - 1) := pk_sub (b := 1) hn0
  have eM : (702 : Int32) + (16 : Int32) * (nI n - 1) = nI (702 + 16 * (n - 1)) := by
    rw [eX]
    show nI 702 + nI 16 * nI (n - 1) = _
    rw [pk_mul, nI_add]
  by_cases hl : len = 15
  · subst hl
    refine ⟨(sm, ln, nI n), v.2.1, ?_, ?_, ⟨n, h1, rfl, h3, h4⟩, rfl, fun _ _ => rfl⟩
    · unfold f_X6_append
      dsimp only [bnd]
      rw [eX, if_neg (nI_pos (by omega)), if_neg (show ¬ (15 : Int32) ≤ nI (n - 1) from nI_ge (b := 15) (by omega) (by decide)), chk_nI (by omega) (by decide), nI_clamp (by omega), if_pos (show (15 : Int32) ≤ ln (n - 1) by rw [g3]; decide)]
    · unfold f_X12_comesToRow
      rw [show ((701 : Int32)).toNatClampNeg = 701 from rfl, h3]
      simp (disch := decide) only [chk_in (show vp_in (701 : Int32) 4725 by unfold vp_in; decide), bnd_e]
      rw [eM, chk_nI (by omega) (by decide), nI_clamp (by omega), if_pos (show (15 : Int32) ≤ v.2.1 (702 + 16 * (n - 1)) by rw [g4]; decide)]
  · have hlt : len < 15 := by omega
    refine ⟨(upd sm (n - 1) (nI (S + bb * 2 ^ len)), upd ln (n - 1) (nI (len + 1)), nI n), upd (upd v.2.1 (702 + 16 * (n - 1) + 1 + len) (nI bb)) (702 + 16 * (n - 1)) (nI (len + 1)), ?_, ?_, ?_, ?_, ?_⟩
    · unfold f_X6_append
      dsimp only [bnd]
      rw [eX, if_neg (nI_pos (by omega)), if_neg (show ¬ (15 : Int32) ≤ nI (n - 1) from nI_ge (b := 15) (by omega) (by decide))]
      simp only [chk_nI (show n - 1 < 15 by omega) (show 15 < 2 ^ 31 by decide), nI_clamp (show n - 1 < 2 ^ 31 by omega), g3, g5]
      rw [if_neg (show ¬ (15 : Int32) ≤ nI len from nI_ge (b := 15) (by omega) (by decide)), nI_1, pk_shlN _ len (shl_ok len (by omega)) ?_, or_nI, or_add g2]
      have h9 : 2 ^ len ≤ 2 ^ 15 := Nat.pow_le_pow_right (by decide) (by omega)
      have : bb * 2 ^ len ≤ 1 * 2 ^ 15 := Nat.mul_le_mul (by omega) h9
      omega
    · unfold f_X12_comesToRow
      rw [show ((701 : Int32)).toNatClampNeg = 701 from rfl, h3]
      simp (disch := decide) only [chk_in (show vp_in (701 : Int32) 4725 by unfold vp_in; decide), bnd_e]
      rw [eM]
      simp only [chk_nI (show 702 + 16 * (n - 1) < 4725 by omega) (show 4725 < 2 ^ 31 by decide), nI_clamp (show 702 + 16 * (n - 1) < 2 ^ 31 by omega), g4]
      rw [if_neg (show ¬ (15 : Int32) ≤ nI len from nI_ge (b := 15) (by omega) (by decide)), nI_1, nI_add, chk_nI (by omega) (by decide), nI_clamp (by omega), upd_n (by omega), g4, nI_1]
    · refine ⟨n, h1, rfl, ?_, fun i hi => ?_⟩
      · rw [upd_n (by omega), upd_n (by omega)]; exact h3
      · by_cases hi2 : i = n - 1
        · subst hi2
          refine ⟨len + 1, S + bb * 2 ^ len, by omega, ?_, upd_s _ _ _, upd_s _ _ _, upd_s _ _ _, fun k hk => ?_⟩
          · rw [Nat.pow_succ]
            have : bb * 2 ^ len ≤ 1 * 2 ^ len := Nat.mul_le_mul (by omega) (Nat.le_refl _)
            omega
          · rw [upd_n (by omega)]
            by_cases hk2 : k = len
            · subst hk2
              rw [show 703 + 16 * (n - 1) + k = 702 + 16 * (n - 1) + 1 + k by omega, upd_s, bit_top g2, Nat.mod_eq_of_lt hbb]
            · rw [upd_n (by omega), bit_low (by omega)]
              exact g6 k (by omega)
        · obtain ⟨len', S', z1, z2, z3, z4, z5, z6⟩ := h4 i hi
          refine ⟨len', S', z1, z2, ?_, ?_, ?_, fun k hk => ?_⟩
          · show upd ln (n - 1) _ i = _
            rw [upd_n hi2]; exact z3
          · rw [upd_n (by omega), upd_n (by omega)]; exact z4
          · show upd sm (n - 1) _ i = _
            rw [upd_n hi2]; exact z5
          · rw [upd_n (by omega), upd_n (by omega)]; exact z6 k hk
    · rw [upd_n (by omega), upd_n (by omega)]
    · intro j hj
      rw [upd_n (by omega), upd_n (by omega)]
end RW
end mp_33_rw
section mp_34_po
section PO
/-- the POOL, the BLOCK -/
def RP (BL : Nat) (p : V3) (F : Nat → Int32) : Prop := RQ 43 44 256 p.1 F ∧ ∃ rg ib : Nat, rg < 65536 ∧ ib < BL ∧ p.2.1 = nI rg ∧ F 38 = nI rg ∧ p.2.2.1 = nI ib ∧ F 37 = nI ib ∧ F 39 = p.2.2.2.1 ∧ F 40 = p.2.2.2.2.1 ∧ F 41 = p.2.2.2.2.2.1 ∧ F 42 = p.2.2.2.2.2.2
theorem RP.frame {BL : Nat} {p : V3} {F F2 : Nat → Int32} (h : RP BL p F) (e : ∀ j, 37 ≤ j → j < 300 → F2 j = F j) : RP BL p F2 := by
  obtain ⟨h0, rg, ib, h1, h2, h3, h4, h5, h6, h7, h8, h9, h10⟩ := h
  refine ⟨h0.frame (fun j hj => e j (by omega) (by omega)), rg, ib, h1, h2, h3, ?_, h5, ?_, ?_, ?_, ?_, ?_⟩
  · rw [e 38 (by omega) (by omega)]; exact h4
  · rw [e 37 (by omega) (by omega)]; exact h6
  · rw [e 39 (by omega) (by omega)]; exact h7
  · rw [e 40 (by omega) (by omega)]; exact h8
  · rw [e 41 (by omega) (by omega)]; exact h9
  · rw [e 42 (by omega) (by omega)]; exact h10
theorem ushr_ok : ∀ k : Nat, k < 32 → (((nI k).toUInt32 &&& Int32.toUInt32 31).toBitVec % 32).toNat = k := by decide +kernel
theorem jushr_nI {n k : Nat} (hn : n < 2 ^ 32) (hk : k < 32) : jushr (nI n) (nI k) = nI (n / 2 ^ k) := pk_ushrN hn (nI k) k (ushr_ok k hk)
theorem shr_nI {n k : Nat} (hn : n < 2 ^ 31) (hk : k < 32) : nI n >>> (nI k &&& 31) = nI (n / 2 ^ k) := pk_shrN hn _ k (shl_ok k hk)
theorem and1_nI {n : Nat} (hn : n < 2 ^ 32) : nI n &&& 1 = nI (n % 2) := pk_andN hn 1 (by decide)
theorem xor_nI (a b : Nat) : nI a ^^^ nI b = nI (a ^^^ b) := by
  apply Int32.toBitVec_inj.mp
  rw [Int32.toBitVec_xor]
  show BitVec.ofNat 32 a ^^^ BitVec.ofNat 32 b = BitVec.ofNat 32 (a ^^^ b)
  apply BitVec.eq_of_toNat_eq
  rw [BitVec.toNat_xor, BitVec.toNat_ofNat, BitVec.toNat_ofNat, BitVec.toNat_ofNat, Nat.xor_mod_two_pow]
theorem add_m1 (x : Int32) : x + (-1) = x - 1 := (Int32.sub_eq_add_neg x 1).symm
theorem val_nI (s : V7) {k : Nat} (hk : k < 9) : f_X7_valueOf s (nI k) = some (s.1 k) := by
  unfold f_X7_valueOf
  rw [if_neg (nI_pos (by omega)), if_pos (show nI k < (9 : Int32) from nI_lt (b := 9) hk (by decide)), chk_nI hk (by decide), nI_clamp (by omega)]
theorem lose_rel {BL : Nat} {p : V3} {v : V12} (hR : RP BL p v.2.1) (hBL : 0 < BL) : ∃ (p2 : V3) (F2 : Nat → Int32), f_X3_lose p = some p2 ∧ f_X12_empties v = some (v.1, F2, v.2.2) ∧ RP BL p2 F2 ∧ ∀ j, j < 37 ∨ 300 ≤ j → F2 j = v.2.1 j := by
  obtain ⟨⟨n, h, q1, q2, q3, q4, q5, q6⟩, rg, ib, h1, h2, h3, h4, h5, h6, h7, h8, h9, h10⟩ := hR
  refine ⟨((p.1.1, 0, 0), 0, 0, p.2.2.2.1, p.2.2.2.2.1, p.2.2.2.2.2.1, p.2.2.2.2.2.2 + p.1.2.2), upd (upd (upd (upd v.2.1 42 (v.2.1 42 + v.2.1 43)) 43 (nI 0)) 37 (nI 0)) 38 (nI 0), rfl, ?_, ?_, ?_⟩
  · unfold f_X12_empties
    simp (disch := decide) only [lit_nI, chk_nI, nI_clamp, bnd_e]
  · refine ⟨⟨0, 0, by omega, by omega, rfl, rfl, rfl, fun k hk => absurd hk (by omega)⟩, 0, 0, by omega, hBL, rfl, rfl, rfl, rfl, h7, h8, h9, ?_⟩
    show v.2.1 42 + v.2.1 43 = p.2.2.2.2.2.2 + p.1.2.2
    rw [h10, q5, q3]
  · intro j hj
    rw [upd_n (by omega), upd_n (by omega), upd_n (by omega), upd_n (by omega)]
/-- the bits of a full BLOCK -/
theorem pour_loop (rg : Nat) (hrg : rg < 65536) : ∀ (y f1 f2 : Nat) (p : V3) (v : V12), y < f1 → y < f2 → y ≤ 31 → RQ 43 44 256 p.1 v.2.1 → p.2.1 = nI rg → v.2.1 38 = nI rg → v.2.1 39 = p.2.2.2.1 → v.2.1 40 = p.2.2.2.2.1 → ∃ (p2 : V3) (F2 : Nat → Int32), fb_X3_fillFrom_4 f1 p (nI y - 1) = some p2 ∧ fb_X12_pours_7 f2 v (nI y - 1) = some (v.1, upd (upd F2 37 (nI 0)) 38 (nI 0), v.2.2) ∧ RQ 43 44 256 p2.1 F2 ∧ F2 39 = p2.2.2.2.1 ∧ F2 40 = p2.2.2.2.2.1 ∧ p2.2.2.2.2.2 = p.2.2.2.2.2 ∧ ∀ j, j < 39 ∨ 300 ≤ j ∨ j = 41 ∨ j = 42 → F2 j = v.2.1 j := by
  intro y
  induction y with
  | zero =>
    intro f1 f2 p v hf1 hf2 hy hQ hr1 hr2 e39 e40
    obtain ⟨f1, rfl⟩ : ∃ m, f1 = m + 1 := ⟨f1 - 1, by omega⟩
    obtain ⟨f2, rfl⟩ : ∃ m, f2 = m + 1 := ⟨f2 - 1, by omega⟩
    refine ⟨p, v.2.1, ?_, ?_, hQ, e39, e40, rfl, fun _ _ => rfl⟩
    · unfold fb_X3_fillFrom_4 fl_X3_fillFrom_4
      rw [if_pos (by decide)]
    · unfold fb_X12_pours_7 fl_X12_pours_7
      rw [if_pos (by decide)]
      simp (disch := decide) only [lit_nI, chk_nI, nI_clamp, bnd_e]
  | succ y ih =>
    intro f1 f2 p v hf1 hf2 hy hQ hr1 hr2 e39 e40
    obtain ⟨f1, rfl⟩ : ∃ m, f1 = m + 1 := ⟨f1 - 1, by omega⟩
    obtain ⟨f2, rfl⟩ : ∃ m, f2 = m + 1 := ⟨f2 - 1, by omega⟩
    obtain ⟨⟨g, qh, qn⟩, pr, pb, pc, pw, pt⟩ := p
    obtain ⟨n, h, q1, q2, q3, q4, q5, q6⟩ := hQ
    dsimp only at q3 q4 q6 hr1 e39 e40
    subst q3 q4 hr1
    rw [nI_pred]
    have hx0 : ¬ nI y < 0 := nI_pos (by omega)
    have bx : jushr (nI rg) (nI y) &&& 1 = nI (rg / 2 ^ y % 2) := by
      rw [jushr_nI (by omega) (by omega), and1_nI (Nat.lt_of_le_of_lt (Nat.div_le_self _ _) (by omega))]
    have bm : nI rg >>> (nI y &&& 31) &&& 1 = nI (rg / 2 ^ y % 2) := by
      rw [shr_nI (by omega) (by omega), and1_nI (Nat.lt_of_le_of_lt (Nat.div_le_self _ _) (by omega))]
    by_cases hn : n = 256
    · subst hn
      obtain ⟨p2, F2, i1, i2, i3, i4, i5, i6, i7⟩ := ih f1 f2 ((g, nI h, nI 256), nI rg, pb, pc, pw + 1, pt) (v.1, upd v.2.1 40 (v.2.1 40 + 1), v.2.2) (by omega) (by omega) (by omega) ⟨256, h, by omega, q2, rfl, rfl, q5, fun k hk => by rw [show (v.1, upd v.2.1 40 (v.2.1 40 + 1), v.2.2).2.1 = upd v.2.1 40 (v.2.1 40 + 1) from rfl, upd_n (by omega)]; exact q6 k hk⟩ rfl hr2 e39 (by show v.2.1 40 + 1 = pw + 1; rw [e40])
      refine ⟨p2, F2, ?_, ?_, i3, i4, i5, i6, fun j hj => ?_⟩
      · unfold fb_X3_fillFrom_4 fl_X3_fillFrom_4
        dsimp only
        rw [if_neg hx0, if_pos (by decide)]
        dsimp only [bnd]
        rw [add_m1]
        exact i1
      · unfold fb_X12_pours_7 fl_X12_pours_7
        rw [if_neg hx0, show ((43 : Int32)).toNatClampNeg = 43 from rfl, q5, chk_in (by unfold vp_in; decide), if_pos (by decide)]
        simp (disch := decide) only [chk_in (show vp_in (40 : Int32) 4725 by unfold vp_in; decide), bnd_e, add_m1, show ((40 : Int32)).toNatClampNeg = 40 from rfl]
        exact i2
      · rw [i7 j hj]
        show upd v.2.1 40 _ j = _
        rw [upd_n (by omega)]
    · have hn2 : n < 256 := by omega
      have hfr : ∀ j, (j < 39 ∨ 300 ≤ j ∨ j = 41 ∨ j = 42) ∨ j = 40 → upd (upd (upd v.2.1 (44 + n) (nI (rg / 2 ^ y % 2))) 43 (nI (n + 1))) 39 (v.2.1 39 + 1) j = v.2.1 j := by
        intro j hj
        rw [upd_n (by omega), upd_n (by omega), upd_n (by omega)]
      obtain ⟨p2, F2, i1, i2, i3, i4, i5, i6, i7⟩ := ih f1 f2 ((upd g ((h + n) % 512) (nI (rg / 2 ^ y % 2)), nI h, nI (n + 1)), nI rg, pb, pc + 1, pw, pt) (v.1, upd (upd (upd v.2.1 (44 + n) (nI (rg / 2 ^ y % 2))) 43 (nI (n + 1))) 39 (v.2.1 39 + 1), v.2.2) (by omega) (by omega) (by omega)
        ⟨n + 1, h, by omega, q2, rfl, rfl, rfl, fun k hk => by
          show upd (upd (upd v.2.1 (44 + n) _) 43 _) 39 _ (44 + k) = upd g ((h + n) % 512) _ ((h + k) % 512) ∧ isb (upd (upd (upd v.2.1 (44 + n) _) 43 _) 39 _ (44 + k))
          rw [upd_n (by omega), upd_n (by omega)]
          by_cases hk2 : k = n
          · subst hk2
            rw [upd_s, upd_s]
            exact ⟨rfl, isb_of (Nat.mod_lt _ (by decide))⟩
          · rw [upd_n (by omega), upd_n (by omega)]
            exact q6 k (by omega)⟩ rfl ((hfr 38 (by omega)).trans hr2) (by show v.2.1 39 + 1 = pc + 1; rw [e39]) ((hfr 40 (by omega)).trans e40)
      refine ⟨p2, F2, ?_, ?_, i3, i4, i5, i6, fun j hj => ?_⟩
      · unfold fb_X3_fillFrom_4 fl_X3_fillFrom_4
        dsimp only
        rw [if_neg hx0, if_neg (show ¬ (256 : Int32) ≤ nI n from nI_ge (b := 256) hn2 (by decide)), bx, x_append g _ q2 (by omega)]
        dsimp only [bnd, bnd1]
        rw [add_m1]
        exact i1
      · unfold fb_X12_pours_7 fl_X12_pours_7
        rw [if_neg hx0]
        simp (disch := decide) only [chk_in (show vp_in (43 : Int32) 4725 by unfold vp_in; decide), chk_in (show vp_in (38 : Int32) 4725 by unfold vp_in; decide), chk_in (show vp_in (39 : Int32) 4725 by unfold vp_in; decide), bnd_e, add_m1, show ((43 : Int32)).toNatClampNeg = 43 from rfl, show ((38 : Int32)).toNatClampNeg = 38 from rfl, show ((39 : Int32)).toNatClampNeg = 39 from rfl]
        rw [q5, hr2, bm, if_neg (show ¬ nI n = (256 : Int32) by show ¬ nI n = nI 256; rw [nI_eq (by omega) (by decide)]; exact hn), show (44 : Int32) + nI n = nI (44 + n) from nI_add 44 n, chk_nI (by omega) (by decide), nI_clamp (by omega)]
        rw [upd_n (show 43 ≠ 44 + n by omega), q5, nI_1, upd_n (show (39 : Nat) ≠ 43 by decide), upd_n (show 39 ≠ 44 + n by omega)]
        exact i2
      · rw [i7 j hj]
        exact hfr j (Or.inl hj)
theorem feed_main {BL Y ib : Nat} {q : V4} {pc pw pt pg : Int32} {s : V7} {v : V12} {b : Int32} (hQ : RQ 43 44 256 q v.2.1) (h2 : ib < BL) (hBL : 0 < BL) (hBL2 : BL ≤ 64) (hs : s.1 4 = nI BL) (hv : v.2.1 4 = nI BL) (hy : f_X7_yielded s = some (nI Y)) (hY : v.2.2.2.2.2.2.2.2.2.2.2.2.2.2.2.2.2.2.1 = nI Y) (hY2 : Y ≤ 31) (h6 : v.2.1 37 = nI ib) (h7 : v.2.1 39 = pc) (h8 : v.2.1 40 = pw) (h9 : v.2.1 41 = pt) (h10 : v.2.1 42 = pg) : ∀ R2 : Nat, R2 < 65536 → ∃ (p2 : V3) (F2 : Nat → Int32), fc_X3_feed_40 s (q, nI R2, nI ib, pc, pw, pt, pg) = some p2 ∧ fc_X12_blocks_54 v (nI R2) 38 = some (v.1, F2, v.2.2) ∧ RP BL p2 F2 ∧ ∀ j, j < 37 ∨ 300 ≤ j → F2 j = v.2.1 j := by
  intro R2 hR2
  have e1 : fc_X12_blocks_54 v (nI R2) 38 = (if nI (ib + 1) = nI BL then bnd1 (f_X12_pours (v.1, upd (upd v.2.1 38 (nI R2)) 37 (nI (ib + 1)), v.2.2)) fun u_4 => some u_4 else some (v.1, upd (upd v.2.1 38 (nI R2)) 37 (nI (ib + 1)), v.2.2)) := by
    unfold fc_X12_blocks_54
    simp (disch := decide) only [lit_nI, chk_nI, nI_clamp, bnd_e]
    rw [upd_n (show (37 : Nat) ≠ 38 by decide), h6, nI_add, upd_s, upd_n (show (4 : Nat) ≠ 37 by decide), upd_n (show (4 : Nat) ≠ 38 by decide), hv]
  have e2 : fc_X3_feed_40 s (q, nI R2, nI ib, pc, pw, pt, pg) = (if nI (ib + 1) < nI BL then some (q, nI R2, nI (ib + 1), pc, pw, pt, pg) else bnd1 (f_X3_fillFrom (q, nI R2, nI (ib + 1), pc, pw, pt, pg) (nI Y)) fun u_6 => some (u_6.1, (0 : Int32), (0 : Int32), u_6.2.2.2)) := by
    unfold fc_X3_feed_40
    dsimp only [bnd]
    rw [show (4 : Int32) = nI 4 from rfl, val_nI s (by decide), bnd1_s, hs, hy, bnd1_s, nI_1]
  rw [e1, e2]
  by_cases hlt : ib + 1 < BL
  · rw [if_pos (nI_lt hlt (by omega)), if_neg (by rw [nI_eq (by omega) (by omega)]; omega)]
    refine ⟨_, _, rfl, rfl, ⟨hQ.frame (fun j hj => ?_), R2, ib + 1, hR2, hlt, rfl, rfl, rfl, rfl, h7, h8, h9, h10⟩, fun j hj => ?_⟩
    · rw [upd_n (by omega), upd_n (by omega)]
    · rw [upd_n (by omega), upd_n (by omega)]
  · have heq : ib + 1 = BL := by omega
    rw [if_neg (nI_nlt (by omega) (by omega)), heq, if_pos rfl]
    obtain ⟨p2, F2, i1, i2, i3, i4, i5, i6, i7⟩ := pour_loop R2 hR2 Y FU FU (q, nI R2, nI BL, pc, pw, pt, pg) (v.1, upd (upd v.2.1 38 (nI R2)) 37 (nI BL), v.2.2) (by show Y < 8589934592; omega) (by show Y < 8589934592; omega) hY2 (hQ.frame (fun j hj => by show upd (upd v.2.1 38 _) 37 _ j = _; rw [upd_n (by omega), upd_n (by omega)])) rfl rfl h7 h8
    refine ⟨(p2.1, 0, 0, p2.2.2.2), upd (upd F2 37 (nI 0)) 38 (nI 0), ?_, ?_, ⟨i3.frame (fun j hj => ?_), 0, 0, by omega, hBL, rfl, rfl, rfl, rfl, ?_, ?_, ?_, ?_⟩, fun j hj => ?_⟩
    · unfold f_X3_fillFrom
      dsimp only [bnd]
      rw [i1]
      rfl
    · unfold f_X12_pours
      dsimp only [bnd]
      rw [hY, i2]
      rfl
    · rw [upd_n (by omega), upd_n (by omega)]
    · show F2 39 = p2.2.2.2.1
      exact i4
    · exact i5
    · show F2 41 = p2.2.2.2.2.2.1
      rw [i7 41 (by omega), i6]; exact h9
    · show F2 42 = p2.2.2.2.2.2.2
      rw [i7 42 (by omega), i6]; exact h10
    · rw [upd_n (by omega), upd_n (by omega), i7 j (by omega)]
      show upd (upd v.2.1 38 _) 37 _ j = _
      rw [upd_n (by omega), upd_n (by omega)]
theorem reg_ux {rg : Nat} (h1 : rg < 65536) : (nI rg <<< ((1 : Int32) &&& 31)) &&& 65535 = nI (rg * 2 % 65536) := by
  have e1 : nI rg <<< ((1 : Int32) &&& 31) = nI (rg * 2 ^ 1) := pk_shlN _ 1 (by decide) (by omega)
  have e2 := pk_andN (n := rg * 2 ^ 1) (by omega) (m := 65535) 16 (by decide)
  rw [e1, e2]
theorem reg_tx {rg : Nat} (h1 : rg < 65536) : jushr (nI rg) 15 &&& 1 = nI (rg / 2 ^ 15 % 2) := by
  rw [show (15 : Int32) = nI 15 from rfl, jushr_nI (by omega) (by decide), and1_nI (Nat.lt_of_le_of_lt (Nat.div_le_self _ _) (by omega))]
theorem reg_tm {rg : Nat} (h1 : rg < 65536) : nI rg >>> ((15 : Int32) &&& 31) &&& 1 = nI (rg / 2 ^ 15 % 2) := by
  rw [show (15 : Int32) = nI 15 from rfl, shr_nI (by omega) (by decide), and1_nI (Nat.lt_of_le_of_lt (Nat.div_le_self _ _) (by omega))]
theorem feed_21 (v : V12) {rg : Nat} (h1 : rg < 65536) (h4 : v.2.1 38 = nI rg) (t : Int32) : fc_X12_blocks_21 v t = (if t = 0 then fc_X12_blocks_54 v (nI (rg * 2 % 65536)) 38 else fc_X12_blocks_54 v (nI (rg * 2 % 65536) ^^^ 4129) 38) := by
  unfold fc_X12_blocks_21
  rw [chk_in (by unfold vp_in; decide), show ((38 : Int32)).toNatClampNeg = 38 from rfl, h4, reg_ux h1, bnd_e]
theorem feed_mb {rg : Nat} {v : V12} {b : Int32} (h1 : rg < 65536) (h4 : v.2.1 38 = nI rg) : f_X12_blocks v b = (if nI (rg / 2 ^ 15 % 2) = b then fc_X12_blocks_54 v (nI (rg * 2 % 65536)) 38 else fc_X12_blocks_54 v (nI (rg * 2 % 65536) ^^^ 4129) 38) := by
  unfold f_X12_blocks
  rw [chk_in (by unfold vp_in; decide), show ((38 : Int32)).toNatClampNeg = 38 from rfl, h4, reg_tm h1, feed_21 v h1 h4, feed_21 v h1 h4, if_pos (show (0 : Int32) = 0 from rfl), if_neg (show ¬ (1 : Int32) = 0 by decide)]
theorem feed_xb {rg ib : Nat} {q : V4} {pc pw pt pg : Int32} {s : V7} {b : Int32} (h1 : rg < 65536) : f_X3_feed (q, nI rg, nI ib, pc, pw, pt, pg) s b = (if nI (rg / 2 ^ 15 % 2) = b then fc_X3_feed_40 s (q, nI (rg * 2 % 65536), nI ib, pc, pw, pt, pg) else fc_X3_feed_40 s (q, nI (rg * 2 % 65536) ^^^ 4129, nI ib, pc, pw, pt, pg)) := by
  unfold f_X3_feed
  rw [bnd_e, bnd_e, bnd_e, reg_ux h1, reg_tx h1]
theorem feed_rel {BL Y : Nat} {p : V3} {s : V7} {v : V12} {b : Int32} (hR : RP BL p v.2.1) (hBL : 0 < BL) (hBL2 : BL ≤ 64) (hs : s.1 4 = nI BL) (hv : v.2.1 4 = nI BL) (hy : f_X7_yielded s = some (nI Y)) (hY : v.2.2.2.2.2.2.2.2.2.2.2.2.2.2.2.2.2.2.1 = nI Y) (hY2 : Y ≤ 31) : ∃ (p2 : V3) (F2 : Nat → Int32), f_X3_feed p s b = some p2 ∧ f_X12_blocks v b = some (v.1, F2, v.2.2) ∧ RP BL p2 F2 ∧ ∀ j, j < 37 ∨ 300 ≤ j → F2 j = v.2.1 j := by
  obtain ⟨hQ, rg, ib, h1, h2, h3, h4, h5, h6, h7, h8, h9, h10⟩ := hR
  obtain ⟨q, pr, pb, pc, pw, pt, pg⟩ := p
  dsimp only at hQ h3 h5 h7 h8 h9 h10
  subst h3 h5
  -- the register
  have main := feed_main (b := b) hQ h2 hBL hBL2 hs hv hy hY hY2 h6 h7 h8 h9 h10
  have mb := feed_mb (v := v) (b := b) h1 h4
  have xb := feed_xb (q := q) (ib := ib) (pc := pc) (pw := pw) (pt := pt) (pg := pg) (s := s) (b := b) h1
  rw [mb, xb]
  by_cases hb : nI (rg / 2 ^ 15 % 2) = b
  · rw [if_pos hb, if_pos hb]
    exact main _ (Nat.mod_lt _ (by decide))
  · rw [if_neg hb, if_neg hb, show (4129 : Int32) = nI 4129 from rfl, xor_nI]
    exact main _ (Nat.xor_lt_two_pow (n := 16) (Nat.mod_lt _ (by decide)) (by decide))
end PO
end mp_34_po
section mp_35_sa
section SA
/-- the SETTINGS -/
def RS (s : V7) (F : Nat → Int32) : Prop := (∀ k, k < 9 → F k = s.1 k) ∧ ∃ n : Nat, n ≤ 4 ∧ s.2.2.2.2 = nI n ∧ F 9 = nI n ∧ ∀ k, k < n → F (10 + 3 * k) = s.2.1 k ∧ F (11 + 3 * k) = s.2.2.1 k ∧ F (12 + 3 * k) = s.2.2.2.1 k ∧ isb (s.2.2.2.1 k)
theorem RS.frame {s : V7} {F F2 : Nat → Int32} (h : RS s F) (e : ∀ j, j < 22 → F2 j = F j) : RS s F2 := by
  obtain ⟨h1, n, h2, h3, h4, h5⟩ := h
  refine ⟨fun k hk => by rw [e k (by omega)]; exact h1 k hk, n, h2, h3, by rw [e 9 (by omega)]; exact h4, fun k hk => ?_⟩
  rw [e _ (by omega), e _ (by omega), e _ (by omega)]
  exact h5 k hk
/-- the SOURCE -/
def RO (o : V8) (F : Nat → Int32) : Prop := F 22 = o.1 ∧ F 23 = o.2.1 ∧ F 24 = o.2.2 ∧ isb o.2.2
theorem RO.frame {o : V8} {F F2 : Nat → Int32} (h : RO o F) (e : ∀ j, 22 ≤ j → j < 25 → F2 j = F j) : RO o F2 := by
  obtain ⟨h1, h2, h3, h4⟩ := h
  exact ⟨by rw [e 22 (by omega) (by omega)]; exact h1, by rw [e 23 (by omega) (by omega)]; exact h2, by rw [e 24 (by omega) (by omega)]; exact h3, h4⟩
/-- what is STUCK -/
def sk (s : V7) (d x : Int32) : Nat → Int32
  | 0 => x
  | n + 1 => if d < s.2.1 n then sk s d x n else if s.2.2.1 n < d then sk s d x n else s.2.2.2.1 n
theorem sk_s (s : V7) (d x : Int32) (n : Nat) : sk s d x (n + 1) = if d < s.2.1 n then sk s d x n else if s.2.2.1 n < d then sk s d x n else s.2.2.2.1 n := rfl
theorem sk_isb (s : V7) (d x : Int32) : ∀ n : Nat, isb x → (∀ k, k < n → isb (s.2.2.2.1 k)) → isb (sk s d x n)
  | 0, hx, _ => hx
  | n + 1, hx, hv => by
    unfold sk
    have ih := sk_isb s d x n hx (fun k hk => hv k (by omega))
    by_cases h1 : d < s.2.1 n
    · rw [if_pos h1]; exact ih
    · rw [if_neg h1]
      by_cases h2 : s.2.2.1 n < d
      · rw [if_pos h2]; exact ih
      · rw [if_neg h2]; exact hv n (by omega)
theorem x_stuck (s : V7) (d x : Int32) : ∀ (n fu : Nat), n ≤ 4 → n < fu → fb_X7_stuckAt_11 s fu d x (nI n - 1) = some (sk s d x n) := by
  intro n
  induction n with
  | zero =>
    intro fu hn hf
    obtain ⟨fu, rfl⟩ : ∃ m, fu = m + 1 := ⟨fu - 1, by omega⟩
    unfold fb_X7_stuckAt_11 fl_X7_stuckAt_11
    rw [if_pos (by decide)]
    rfl
  | succ n ih =>
    intro fu hn hf
    obtain ⟨fu, rfl⟩ : ∃ m, fu = m + 1 := ⟨fu - 1, by omega⟩
    have ih := ih fu (by omega) (by omega)
    unfold fb_X7_stuckAt_11 fl_X7_stuckAt_11 sk
    rw [nI_pred, if_neg (nI_pos (by omega))]
    simp only [chk_nI (show n < 4 by omega) (show 4 < 2 ^ 31 by decide), nI_clamp (show n < 2 ^ 31 by omega), bnd_e, add_m1, ih]
    by_cases h1 : d < s.2.1 n
    · rw [if_pos h1, if_pos h1]
    · rw [if_neg h1, if_neg h1]
      by_cases h2 : s.2.2.1 n < d
      · rw [if_pos h2, if_pos h2]
      · rw [if_neg h2, if_neg h2]
theorem x_stuckAt (s : V7) (d x : Int32) {n : Nat} (hn : n ≤ 4) (hs : s.2.2.2.2 = nI n) : f_X7_stuckAt s d x = some (sk s d x n) := by
  unfold f_X7_stuckAt
  rw [hs]
  have e : jmin (nI n) 4 = nI n := by
    unfold jmin
    by_cases h : (4 : Int32) < nI n
    · exact absurd h (nI_nlt (a := 4) (by omega) (by decide))
    · rw [if_neg h]
  rw [bnd_e, e, bnd_e]
  exact x_stuck s d x n FU hn (by show n < 8589934592; omega)
theorem m_in (p q r : Int32) : f_X12_in p q r = some (if p < q then 0 else if r < p then 0 else 1) := by
  unfold f_X12_in
  by_cases h1 : p < q
  · rw [if_pos h1, if_pos h1]
  · rw [if_neg h1, if_neg h1]
    by_cases h2 : r < p
    · rw [if_pos h2, if_pos h2]
    · rw [if_neg h2, if_neg h2]
theorem m_stuck (s : V7) (v : V12) (x : Int32) {n : Nat} (hn : n ≤ 4) (h9 : v.2.1 9 = nI n) (hs : ∀ k, k < n → v.2.1 (10 + 3 * k) = s.2.1 k ∧ v.2.1 (11 + 3 * k) = s.2.2.1 k ∧ v.2.1 (12 + 3 * k) = s.2.2.2.1 k) : ∀ (d fu k : Nat), k + d = n → d < fu → fb_X12_sample_48 fu v (sk s (v.2.1 23) x k) (nI k) = some (sk s (v.2.1 23) x n, (v.1, upd (upd v.2.1 23 (v.2.1 23 + 1)) 24 (sk s (v.2.1 23) x n), v.2.2)) := by
  intro d
  induction d with
  | zero =>
    intro fu k hk hf
    obtain ⟨fu, rfl⟩ : ∃ m, fu = m + 1 := ⟨fu - 1, by omega⟩
    have hk : k = n := by omega
    subst hk
    unfold fb_X12_sample_48 fl_X12_sample_48
    rw [show ((9 : Int32)).toNatClampNeg = 9 from rfl, h9, chk_in (by unfold vp_in; decide), if_pos (Int32.le_refl _)]
    rw [chk_in (by unfold vp_in; decide), chk_in (by unfold vp_in; decide), bnd_e, chk_in (by unfold vp_in; decide), bnd_e]
    rfl
  | succ d ih =>
    intro fu k hk hf
    obtain ⟨fu, rfl⟩ : ∃ m, fu = m + 1 := ⟨fu - 1, by omega⟩
    have ih := ih fu (k + 1) (by omega) (by omega)
    obtain ⟨e1, e2, e3⟩ := hs k (by omega)
    unfold fb_X12_sample_48 fl_X12_sample_48
    have i0 : (10 : Int32) + (3 : Int32) * nI k = nI (10 + 3 * k) := by
      show nI 10 + nI 3 * nI k = _
      rw [pk_mul, nI_add]
    have i1 : nI (10 + 3 * k) + 1 = nI (11 + 3 * k) := by
      rw [nI_1]; congr 1; omega
    have i2 : nI (10 + 3 * k) + 2 = nI (12 + 3 * k) := by
      show nI (10 + 3 * k) + nI 2 = _
      rw [nI_add]; congr 1; omega
    rw [show ((9 : Int32)).toNatClampNeg = 9 from rfl, h9, chk_in (by unfold vp_in; decide), if_neg (nI_ge (by omega) (by omega)), bnd_e, i0, i1, i2]
    rw [show ((23 : Int32)).toNatClampNeg = 23 from rfl, chk_in (by unfold vp_in; decide), chk_nI (by omega) (by decide), chk_nI (by omega) (by decide), nI_clamp (by omega), nI_clamp (by omega), nI_clamp (by omega), chk_nI (by omega) (by decide), e1, e2, e3, m_in, bnd1_s]
    simp only [bnd_e, nI_1]
    rw [sk_s] at ih
    by_cases h1 : v.2.1 23 < s.2.1 k
    · rw [if_pos h1] at ih
      rw [if_pos h1, if_pos rfl]
      exact ih
    · rw [if_neg h1] at ih
      rw [if_neg h1]
      by_cases h2 : s.2.2.1 k < v.2.1 23
      · rw [if_pos h2] at ih
        rw [if_pos h2, if_pos rfl]
        exact ih
      · rw [if_neg h2] at ih
        rw [if_neg h2, if_neg (by decide)]
        exact ih
theorem next_rel {s : V7} {o : V8} {v : V12} (hS : RS s v.2.1) (hO : RO o v.2.1) : ∃ (r : Int32) (o2 : V8) (F2 : Nat → Int32), f_X8_next o s = some (r, o2) ∧ f_X12_sample v = some (r, (v.1, F2, v.2.2)) ∧ isb r ∧ RO o2 F2 ∧ ∀ j, j < 22 ∨ 25 ≤ j → F2 j = v.2.1 j := by
  obtain ⟨s1, n, s2, s3, s4, s5⟩ := hS
  obtain ⟨o1, o2, o3, o4⟩ := hO
  obtain ⟨ox, od, ol⟩ := o
  dsimp only at o1 o2 o3 o4
  subst o1 o2 o3
  have fin : ∀ (X x : Int32) (F : Nat → Int32), F = upd v.2.1 22 X → isb x → ∃ (r : Int32) (o2 : V8) (F2 : Nat → Int32), fc_X8_next_37 s (X, v.2.1 23, v.2.1 24) x = some (r, o2) ∧ fb_X12_sample_48 FU (v.1, F, v.2.2) x 0 = some (r, (v.1, F2, v.2.2)) ∧ isb r ∧ RO o2 F2 ∧ ∀ j, j < 22 ∨ 25 ≤ j → F2 j = v.2.1 j := by
    intro X x F hF hx
    subst hF
    have hfr : ∀ j, j < 22 ∨ 23 ≤ j → upd v.2.1 22 X j = v.2.1 j := fun j hj => upd_n (by omega)
    have hm := m_stuck s (v.1, upd v.2.1 22 X, v.2.2) x s2 (by show upd v.2.1 22 X 9 = nI n; rw [hfr 9 (by omega)]; exact s4) (fun k hk => by
      show upd v.2.1 22 X (10 + 3 * k) = _ ∧ upd v.2.1 22 X (11 + 3 * k) = _ ∧ upd v.2.1 22 X (12 + 3 * k) = _
      rw [hfr _ (by omega), hfr _ (by omega), hfr _ (by omega)]
      exact ⟨(s5 k hk).1, (s5 k hk).2.1, (s5 k hk).2.2.1⟩) n FU 0 (by omega) (by show n < 8589934592; omega)
    have e23 : (v.1, upd v.2.1 22 X, v.2.2).2.1 23 = v.2.1 23 := hfr 23 (by omega)
    rw [e23] at hm
    refine ⟨sk s (v.2.1 23) x n, (X, v.2.1 23 + 1, sk s (v.2.1 23) x n), _, ?_, hm, sk_isb s _ _ n hx (fun k hk => (s5 k hk).2.2.2), ⟨?_, ?_, ?_, sk_isb s _ _ n hx (fun k hk => (s5 k hk).2.2.2)⟩, fun j hj => ?_⟩
    · unfold fc_X8_next_37
      rw [x_stuckAt s _ x s2 s3, bnd1_s, bnd_e]
    · rw [upd_n (by decide), upd_n (by decide)]
      show upd v.2.1 22 X 22 = X
      exact upd_s _ _ _
    · rw [upd_n (by decide)]; exact upd_s _ _ _
    · exact upd_s _ _ _
    · rw [upd_n (by omega), upd_n (by omega)]
      exact hfr j (by omega)
  have mdr : ∀ u : V12, f_X12_drawn u 16 = some (jushr (u.2.1 22 * 1103515245 + 12345) 16 - jushr (u.2.1 22 * 1103515245 + 12345) 16 / 16 * 16, (u.1, upd u.2.1 22 (u.2.1 22 * 1103515245 + 12345), u.2.2)) := by
    intro u
    unfold f_X12_drawn
    rw [show ((22 : Int32)).toNatClampNeg = 22 from rfl, chk_in (by unfold vp_in; decide), chk_in (by unfold vp_in; decide), bnd_e, chk_in (by unfold vp_in; decide), upd_s]
    rfl
  have xdr : ∀ u : V8, f_X8_belowSixteen u = some (jushr (u.1 * 1103515245 + 12345) 16 - jushr (u.1 * 1103515245 + 12345) 16 / 16 * 16, (u.1 * 1103515245 + 12345, u.2)) := by
    intro u
    unfold f_X8_belowSixteen
    rw [bnd_e]
    rfl
  unfold f_X8_next f_X12_sample
  rw [show ((24 : Int32)).toNatClampNeg = 24 from rfl, chk_in (by unfold vp_in; decide), bnd_e, mdr, xdr, bnd2_s, bnd2_s, show (7 : Int32) = nI 7 from rfl, val_nI s (by decide), bnd1_s, nI_clamp (by decide), chk_nI (by decide) (by decide)]
  dsimp only
  generalize hX : v.2.1 22 * 1103515245 + 12345 = X
  have e7 : upd v.2.1 22 X 7 = s.1 7 := by rw [upd_n (by decide)]; exact s1 7 (by decide)
  simp only [e7]
  by_cases h1 : jushr X 16 - jushr X 16 / 16 * 16 < s.1 7
  · rw [if_pos h1, if_pos h1]
    exact fin X (v.2.1 24) _ rfl o4
  · rw [if_neg h1, if_neg h1, mdr, xdr, bnd2_s, bnd2_s, show (6 : Int32) = nI 6 from rfl, val_nI s (by decide), bnd1_s, nI_clamp (by decide), chk_nI (by decide) (by decide)]
    have e6 : ∀ Y Z : Int32, upd (upd v.2.1 22 Y) 22 Z 6 = s.1 6 := fun Y Z => by rw [upd_n (by decide), upd_n (by decide)]; exact s1 6 (by decide)
    dsimp only
    simp only [upd_s, e6]
    have eF : ∀ Y : Int32, upd (upd v.2.1 22 X) 22 Y = upd v.2.1 22 Y := by
      intro Y
      funext j
      rw [upd_a, upd_a, upd_a]
      by_cases hj : j = 22
      · rw [if_pos hj, if_pos hj]
      · rw [if_neg hj, if_neg hj, if_neg hj]
    unfold fc_X8_next_36
    by_cases h2 : s.1 6 ≤ jushr (X * 1103515245 + 12345) 16 - jushr (X * 1103515245 + 12345) 16 / 16 * 16
    · rw [if_pos h2, if_pos h2]
      exact fin _ 0 _ (eF _) (Or.inl rfl)
    · rw [if_neg h2, if_neg h2]
      exact fin _ 1 _ (eF _) (Or.inr rfl)
end SA
end mp_35_sa
section mp_36_he
section HE
/-- the SETTINGS' ranges -/
def SV (g : Nat → Int32) (c lg W BL o : Nat) : Prop := g 0 = nI c ∧ 8 ≤ c ∧ c ≤ 15 ∧ g 1 = nI lg ∧ 1 ≤ lg ∧ lg ≤ 40 ∧ g 2 = nI W ∧ 4 ≤ W ∧ W ≤ 15 ∧ g 4 = nI BL ∧ 2 ≤ BL ∧ BL ≤ 64 ∧ g 5 = nI o ∧ 1 ≤ o ∧ o ≤ 16
/-- odds over 16 to the n: a row of Pascal's, by the chance -/
def rstep (c : Nat) (l : List Nat) : List Nat := List.zipWith (· + ·) (l.map (· * (16 - c)) ++ [0]) (0 :: l.map (· * c))
def prow (c : Nat) : Nat → List Nat
  | 0 => [1]
  | n + 1 => rstep c (prow c n)
def TS (c n j : Nat) : Nat := ((prow c n).drop j).sum
def rareb (t b lg : Nat) : Bool := if lg ≤ b then decide (t ≤ 2 ^ (b - lg)) else decide (t = 0)
/-- the first k from a on, n of them, with p; else d -/
def fstk (p : Nat → Bool) (d : Nat) : Nat → Nat → Nat
  | _, 0 => d
  | a, n + 1 => if p a then a else fstk p d (a + 1) n
def lmR (c lg : Nat) : Nat := fstk (fun k => decide (lg ≤ 4 * (k - 1)) && decide (c ^ (k - 1) ≤ 2 ^ (4 * (k - 1) - lg))) 16 2 14
def lmP (c lg W : Nat) : Nat := fstk (fun k => rareb (TS c (W - 1) (k - 1)) (4 * (W - 1)) lg) (W + 1) 2 (W - 1)
def lmC (lg W : Nat) : Nat := fstk (fun k => rareb (TS 8 (W - 1) k) (4 * (W - 1)) lg) W 1 (W - 1)
def RWt (w : V10) (F : Nat → Int32) : Prop := F 25 = w.2.2.2.2.2.2.2.2.1 ∧ F 26 = w.2.2.2.2.2.2.2.2.2.1 ∧ F 27 = w.2.2.2.2.2.2.2.2.2.2.1 ∧ F 28 = w.2.2.2.2.2.2.2.2.2.2.2.1 ∧ F 29 = w.2.2.2.2.2.2.2.2.2.2.2.2.1 ∧ (w.2.2.2.2.2.2.2.2.1 ≠ 0 → F 30 = w.2.2.2.2.2.2.2.2.2.2.2.2.2 ∧ F 701 ≠ 0) ∧ (w.2.2.2.2.2.2.2.2.1 = 0 ∨ w.2.2.2.2.2.2.2.2.1 = 1 ∨ w.2.2.2.2.2.2.2.2.1 = 2 ∨ w.2.2.2.2.2.2.2.2.1 = 3)
/-- a watch of the class, a block of the reference -/
def R (B : Nat) (w : V10) (F : Nat → Int32) : Prop := ∃ c lg W BL o : Nat, SV w.1.1 c lg W BL o ∧ RS w.1 F ∧ (w.2.1.2.2.1 = nI (lmR c lg) ∧ w.2.1.2.2.2.1 = nI (lmP c lg W) ∧ w.2.1.2.2.2.2 = nI (lmC lg W)) ∧ RO w.2.2.1 F ∧ RC B W w.2.2.2.1 F ∧ RP BL w.2.2.2.2.1 F ∧ RQ 300 301 400 w.2.2.2.2.2.1 F ∧ RR w.2.2.2.2.2.2.1 F ∧ RWt w F
def LimM (v : V12) (w : V10) : Prop := v.2.2.2.2.2.2.2.2.2.2.2.2.2.2.2.1 = w.2.1.2.2.1 ∧ v.2.2.2.2.2.2.2.2.2.2.2.2.2.2.2.2.1 = w.2.1.2.2.2.1 ∧ v.2.2.2.2.2.2.2.2.2.2.2.2.2.2.2.2.2.1 = w.2.1.2.2.2.2 ∧ ∃ Y : Nat, Y ≤ 31 ∧ f_X7_yielded w.1 = some (nI Y) ∧ v.2.2.2.2.2.2.2.2.2.2.2.2.2.2.2.2.2.2.1 = nI Y
theorem x_58 {s : V7} {lim : V2} {src : V8} {cnt c2 : V1} {pool : V3} {q q2 : V4} {rws r2 : V6} {txt : V9} {st fa al sts li si b rr : Int32} (h1 : f_X4_append q b = some q2) (h2 : f_X6_append rws b = some r2) (h3 : f_X1_hear cnt b (s.1 2) = some c2) (h4 : f_X2_failures lim c2 = some rr) : fc_X10_hear_58 (s, lim, src, cnt, pool, q, rws, txt, st, fa, al, sts, li, si) b = (if rr = 0 then (if st = 2 then bnd1 (f_X3_feed pool s b) fun u => some (1, (s, lim, src, c2, u, q2, r2, txt, st, fa, al, sts, li, si)) else if si < s.1 3 then some (1, (s, lim, src, c2, pool, q2, r2, txt, st, fa, al, sts, li, si)) else some (1, (s, lim, src, c2, pool, q2, r2, txt, 2, fa, al, sts, li, si))) else bnd1 (f_X3_lose pool) fun u => some (1, (s, lim, src, c2, u, q2, r2, txt, 3, rr, al + 1, sts, li, si))) := by
  unfold fc_X10_hear_58 f_X10_raiseAlarm
  dsimp only
  rw [h1, bnd1_s, h2, bnd1_s, show (2 : Int32) = nI 2 from rfl, val_nI s (by decide), bnd1_s, h3, bnd1_s, h4, bnd1_s, show (3 : Int32) = nI 3 from rfl, val_nI s (by decide), bnd1_s, bnd_e]
  by_cases hr : rr = 0
  · rw [if_pos hr, if_pos hr]
  · rw [if_neg hr, if_neg hr]
    cases f_X3_lose pool with
    | none => rfl
    | some u => rfl
theorem m_39 {v : V12} {F2 F3 F4 : Nat → Int32} {b t0 rr : Int32} (h1 : f_X12_comesToHistory (v.1, upd v.2.1 29 (v.2.1 29 + 1), v.2.2) b = some (v.1, F2, v.2.2)) (h2 : f_X12_comesToRow (v.1, F2, v.2.2) b = some (v.1, F3, v.2.2)) (h3 : f_X12_tests (v.1, F3, v.2.2) b = some (rr, (v.1, F4, v.2.2))) : fc_X12_hears_39 v b t0 = (if rr ≤ 0 then (if t0 = 0 then (if F4 30 < F4 3 then some (1, (v.1, F4, v.2.2)) else some (1, (v.1, upd F4 25 2, v.2.2))) else bnd1 (f_X12_blocks (v.1, F4, v.2.2) b) fun u => some (1, u)) else bnd1 (f_X12_empties (v.1, upd (upd (upd F4 26 rr) 27 (F4 27 + 1)) 25 3, v.2.2)) fun u => some (1, u)) := by
  unfold fc_X12_hears_39
  simp (disch := decide) only [chk_in (show vp_in (29 : Int32) 4725 by unfold vp_in; decide), chk_in (show vp_in (30 : Int32) 4725 by unfold vp_in; decide), chk_in (show vp_in (3 : Int32) 4725 by unfold vp_in; decide), chk_in (show vp_in (25 : Int32) 4725 by unfold vp_in; decide), chk_in (show vp_in (26 : Int32) 4725 by unfold vp_in; decide), chk_in (show vp_in (27 : Int32) 4725 by unfold vp_in; decide), show ((29 : Int32)).toNatClampNeg = 29 from rfl, show ((30 : Int32)).toNatClampNeg = 30 from rfl, show ((3 : Int32)).toNatClampNeg = 3 from rfl, show ((25 : Int32)).toNatClampNeg = 25 from rfl, show ((26 : Int32)).toNatClampNeg = 26 from rfl, show ((27 : Int32)).toNatClampNeg = 27 from rfl, bnd_e]
  rw [h1, bnd1_s, h2, bnd1_s, h3, bnd2_s]
  rfl
theorem m_hears (v : V12) (b : Int32) : f_X12_hears v b = (if v.2.1 25 = 0 then some (0, v) else if v.2.1 25 = 3 then some (0, v) else if v.2.1 25 = 2 then fc_X12_hears_39 v b 1 else fc_X12_hears_39 v b 0) := by
  unfold f_X12_hears
  simp only [chk_in (show vp_in (25 : Int32) 4725 by unfold vp_in; decide), show ((25 : Int32)).toNatClampNeg = 25 from rfl]
end HE
end mp_36_he
section mp_37_hr
section HR
theorem hear_rel {B : Nat} {w : V10} {v : V12} {b : Int32} (hR : R B w v.2.1) (hL : LimM v w) (hb : isb b) (hB : B < 2 ^ 30) : ∃ (r : Int32) (w2 : V10) (F2 : Nat → Int32), f_X10_hear w b = some (r, w2) ∧ f_X12_hears v b = some (r, (v.1, F2, v.2.2)) ∧ R (B + 1) w2 F2 ∧ w2.1 = w.1 ∧ w2.2.1 = w.2.1 ∧ w2.2.2.1 = w.2.2.1 ∧ w2.2.2.2.2.2.2.2.1 = w.2.2.2.2.2.2.2.1 ∧ (∀ j, 942 ≤ j → F2 j = v.2.1 j) ∧ (r = 0 ∨ r = 1) := by
  obtain ⟨s, lim, src, cnt, pool, hrd, rws, txt, st, fa, al, sts, li, si⟩ := w
  obtain ⟨c, lg, W, BL, o, hSV, hS, hLm, hO, hC, hP, hQ, hRr, w25, w26, w27, w28, w29, w30, wst⟩ := hR
  obtain ⟨l1, l2, l3, Y, lY, lY2, lY3⟩ := hL
  dsimp only at hSV hS hLm hO hC hP hQ hRr w25 w26 w27 w28 w29 w30 wst l1 l2 l3 lY2
  by_cases h0 : st = 0
  · subst h0
    refine ⟨0, _, v.2.1, ?_, ?_, ⟨c, lg, W, BL, o, hSV, hS, hLm, hO, hC.mono (by omega), hP, hQ, hRr, w25, w26, w27, w28, w29, w30, wst⟩, rfl, rfl, rfl, rfl, fun _ _ => rfl, Or.inl rfl⟩
    · unfold f_X10_hear
      rw [if_pos rfl]
    · rw [m_hears, if_pos w25]
  by_cases h3 : st = 3
  · subst h3
    refine ⟨0, _, v.2.1, ?_, ?_, ⟨c, lg, W, BL, o, hSV, hS, hLm, hO, hC.mono (by omega), hP, hQ, hRr, w25, w26, w27, w28, w29, w30, wst⟩, rfl, rfl, rfl, rfl, fun _ _ => rfl, Or.inl rfl⟩
    · unfold f_X10_hear
      dsimp only
      rw [if_neg (by decide), if_pos rfl]
    · rw [m_hears, w25, if_neg (by decide), if_pos rfl]
  have hSV0 := hSV
  obtain ⟨g0, g1, g2, g3, g4, g5, g6, g7, g8, g9, g10, g11, g12, g13, g14⟩ := hSV
  obtain ⟨e30, e701⟩ := w30 h0
  -- the history
  have hQ1 : RQ 300 301 400 hrd (v.1, upd v.2.1 29 (v.2.1 29 + 1), v.2.2).2.1 := hQ.frame (fun j hj => by
    show upd v.2.1 29 _ j = _
    rw [upd_n (by omega)])
  have hist : ∃ (q2 : V4) (F2 : Nat → Int32), (∀ (rws2 : V6) (x1 x2 : Int32), f_X4_append hrd b = some q2 ∨ ∃ (x : Int32) (q1 : V4), f_X4_dropFirst hrd = some (x, q1) ∧ f_X4_append q1 b = some q2) ∧ (hrd.2.2 < 400 → f_X4_append hrd b = some q2) ∧ (¬ hrd.2.2 < 400 → ∃ (x : Int32) (q1 : V4), f_X4_dropFirst hrd = some (x, q1) ∧ f_X4_append q1 b = some q2) ∧ f_X12_comesToHistory (v.1, upd v.2.1 29 (v.2.1 29 + 1), v.2.2) b = some (v.1, F2, v.2.2) ∧ RQ 300 301 400 q2 F2 ∧ ∀ j, j < 300 ∨ 700 < j → F2 j = upd v.2.1 29 (v.2.1 29 + 1) j := by
    by_cases hlt : hrd.2.2 < 400
    · obtain ⟨q2, F2, i1, i2, i3, i4⟩ := hist_lt hQ1 hb hlt
      exact ⟨q2, F2, fun _ _ _ => Or.inl i1, fun _ => i1, fun h => absurd hlt h, i2, i3, i4⟩
    · obtain ⟨x, q1, q2, F2, i0, i1, i2, i3, i4⟩ := hist_eq hQ1 hb hlt
      exact ⟨q2, F2, fun _ _ _ => Or.inr ⟨x, q1, i0, i1⟩, fun h => absurd h hlt, fun _ => ⟨x, q1, i0, i1⟩, i2, i3, i4⟩
  obtain ⟨q2, F2, -, ha1, ha2, hm1, hQ2, hF2⟩ := hist
  -- the rows
  have hf2 : ∀ j, (j < 300 ∨ 700 < j) → j ≠ 29 → F2 j = v.2.1 j := fun j hj hj2 => by rw [hF2 j hj, upd_n hj2]
  obtain ⟨r2, F3, hx2, hm2, hRr3, e701b, hF3⟩ := rows_rel (r := rws) (v := (v.1, F2, v.2.2)) (b := b) (hRr.frame (fun j h1 h2 => hf2 j (by omega) (by omega))) hb (by show F2 701 ≠ 0; rw [hf2 701 (by omega) (by omega)]; exact e701)
  have hF3 : ∀ j, j < 702 ∨ 941 < j → F3 j = F2 j := hF3
  have hf3 : ∀ j, (j < 300 ∨ 700 < j) → (j < 702 ∨ 941 < j) → j ≠ 29 → F3 j = v.2.1 j := fun j a1 a2 a3 => by rw [hF3 j a2, hf2 j a1 a3]
  -- the tests
  obtain ⟨c2, F4, rr, hx3, hx4, hm3, hrr, hC4, e30b, hF4⟩ := tests_rel (B := B) (W := W) (c := cnt) (v := (v.1, F3, v.2.2)) b lim (hC.frame (fun j h1 h2 => hf3 j (by omega) (by omega) (by omega))) (by show F3 2 = nI W; rw [hf3 2 (by omega) (by omega) (by omega), hS.1 2 (by decide)]; exact g6) g7 g8 hB l1 l2 l3
  have hF4 : ∀ j, j < 30 ∨ 36 < j → F4 j = F3 j := hF4
  have e30b : F4 30 = F3 30 + 1 := e30b
  have hf4 : ∀ j, (j < 300 ∨ 700 < j) → (j < 702 ∨ 941 < j) → j ≠ 29 → (j < 30 ∨ 36 < j) → F4 j = v.2.1 j := fun j a1 a2 a3 a4 => by rw [hF4 j a4, hf3 j a1 a2 a3]
  have x29 : F4 29 = li + 1 := by rw [hF4 29 (by omega), hF3 29 (by omega), hF2 29 (by omega), upd_s, w29]
  have x30 : F4 30 = si + 1 := by rw [e30b, hf3 30 (by omega) (by omega) (by omega), e30]
  have x701 : F4 701 ≠ 0 := by rw [hf4 701 (by omega) (by omega) (by omega) (by omega)]; exact e701
  have hS4 : RS s F4 := hS.frame (fun j hj => hf4 j (by omega) (by omega) (by omega) (by omega))
  have hO4 : RO src F4 := hO.frame (fun j h1 h2 => hf4 j (by omega) (by omega) (by omega) (by omega))
  have hP4 : RP BL pool F4 := hP.frame (fun j h1 h2 => hf4 j (by omega) (by omega) (by omega) (by omega))
  have hQ4 : RQ 300 301 400 q2 F4 := hQ2.frame (fun j hj => by rw [hF4 j (by omega), hF3 j (by omega)])
  have hR4 : RR r2 F4 := hRr3.frame (fun j h1 h2 => hF4 j (by omega))
  have x25 : F4 25 = st := by rw [hf4 25 (by omega) (by omega) (by omega) (by omega)]; exact w25
  have x26 : F4 26 = fa := by rw [hf4 26 (by omega) (by omega) (by omega) (by omega)]; exact w26
  have x27 : F4 27 = al := by rw [hf4 27 (by omega) (by omega) (by omega) (by omega)]; exact w27
  have x28 : F4 28 = sts := by rw [hf4 28 (by omega) (by omega) (by omega) (by omega)]; exact w28
  have x3 : F4 3 = s.1 3 := hS4.1 3 (by decide)
  have hhi : ∀ j, 942 ≤ j → F4 j = v.2.1 j := fun j hj => hf4 j (by omega) (by omega) (by omega) (by omega)
  have hx3 : f_X1_hear cnt b (s.1 2) = some c2 := by rw [g6]; exact hx3
  -- the class
  have hX : f_X10_hear (s, lim, src, cnt, pool, hrd, rws, txt, st, fa, al, sts, li, si) b = (if rr = 0 then (if st = 2 then bnd1 (f_X3_feed pool s b) fun u => some (1, (s, lim, src, c2, u, q2, r2, txt, st, fa, al, sts, li + 1, si + 1)) else if si + 1 < s.1 3 then some (1, (s, lim, src, c2, pool, q2, r2, txt, st, fa, al, sts, li + 1, si + 1)) else some (1, (s, lim, src, c2, pool, q2, r2, txt, 2, fa, al, sts, li + 1, si + 1))) else bnd1 (f_X3_lose pool) fun u => some (1, (s, lim, src, c2, u, q2, r2, txt, 3, rr, al + 1, sts, li + 1, si + 1))) := by
    unfold f_X10_hear
    dsimp only
    rw [if_neg h0, if_neg h3, bnd_e, bnd_e]
    by_cases hlt : hrd.2.2 < 400
    · rw [if_pos hlt]
      exact x_58 (ha1 hlt) hx2 hx3 hx4
    · rw [if_neg hlt]
      obtain ⟨x, q1, z1, z2⟩ := ha2 hlt
      rw [z1, bnd2_s]
      exact x_58 z2 hx2 hx3 hx4
  have hM : f_X12_hears v b = (if rr ≤ 0 then (if (if st = 2 then (1 : Int32) else 0) = 0 then (if F4 30 < F4 3 then some (1, (v.1, F4, v.2.2)) else some (1, (v.1, upd F4 25 2, v.2.2))) else bnd1 (f_X12_blocks (v.1, F4, v.2.2) b) fun u => some (1, u)) else bnd1 (f_X12_empties (v.1, upd (upd (upd F4 26 rr) 27 (F4 27 + 1)) 25 3, v.2.2)) fun u => some (1, u)) := by
    rw [m_hears, w25, if_neg h0, if_neg h3]
    by_cases h2 : st = 2
    · rw [if_pos h2, if_pos h2, m_39 hm1 hm2 hm3]
    · rw [if_neg h2, if_neg h2, m_39 hm1 hm2 hm3]
  rw [hX, hM]
  by_cases hr0 : rr = 0
  · rw [if_pos hr0, if_pos (show rr ≤ 0 by rw [hr0]; exact Int32.le_refl _)]
    by_cases h2 : st = 2
    · rw [if_pos h2, if_pos h2, if_neg (show ¬ (1 : Int32) = 0 by decide)]
      obtain ⟨p2, F5, j1, j2, j3, j4⟩ := feed_rel (BL := BL) (Y := Y) (p := pool) (s := s) (v := (v.1, F4, v.2.2)) (b := b) hP4 (by omega) g11 g9 (by show F4 4 = _; rw [hS4.1 4 (by decide)]; exact g9) lY2 lY3 lY
      have j4 : ∀ j, j < 37 ∨ 300 ≤ j → F5 j = F4 j := j4
      rw [j1, j2, bnd1_s, bnd1_s]
      refine ⟨1, _, F5, rfl, rfl, ⟨c, lg, W, BL, o, hSV0, hS4.frame (fun j hj => j4 j (by omega)), hLm, hO4.frame (fun j a1 a2 => j4 j (by omega)), hC4.frame (fun j a1 a2 => j4 j (by omega)), j3, hQ4.frame (fun j hj => j4 j (by omega)), hR4.frame (fun j a1 a2 => j4 j (by omega)), ?_, ?_, ?_, ?_, ?_, fun _ => ⟨?_, ?_⟩, wst⟩, rfl, rfl, rfl, rfl, fun j hj => ?_, Or.inr rfl⟩
      · rw [j4 25 (by omega)]; exact x25
      · rw [j4 26 (by omega)]; exact x26
      · rw [j4 27 (by omega)]; exact x27
      · rw [j4 28 (by omega)]; exact x28
      · rw [j4 29 (by omega)]; exact x29
      · rw [j4 30 (by omega)]; exact x30
      · rw [j4 701 (by omega)]; exact x701
      · rw [j4 j (by omega)]; exact hhi j hj
    · have hst1 : st = 1 := by
        rcases wst with z | z | z | z
        · exact absurd z h0
        · exact z
        · exact absurd z h2
        · exact absurd z h3
      rw [if_neg h2, if_neg h2, if_pos (show (0 : Int32) = 0 from rfl)]
      by_cases hsi : si + 1 < s.1 3
      · rw [if_pos hsi, if_pos (show F4 30 < F4 3 by rw [x30, x3]; exact hsi)]
        exact ⟨1, _, F4, rfl, rfl, ⟨c, lg, W, BL, o, hSV0, hS4, hLm, hO4, hC4, hP4, hQ4, hR4, x25, x26, x27, x28, x29, fun _ => ⟨x30, x701⟩, wst⟩, rfl, rfl, rfl, rfl, hhi, Or.inr rfl⟩
      · rw [if_neg hsi, if_neg (show ¬ F4 30 < F4 3 by rw [x30, x3]; exact hsi)]
        have j4 : ∀ j, j ≠ 25 → upd F4 25 2 j = F4 j := fun j hj => upd_n hj
        refine ⟨1, _, upd F4 25 2, rfl, rfl, ⟨c, lg, W, BL, o, hSV0, hS4.frame (fun j hj => j4 j (by omega)), hLm, hO4.frame (fun j a1 a2 => j4 j (by omega)), hC4.frame (fun j a1 a2 => j4 j (by omega)), hP4.frame (fun j a1 a2 => j4 j (by omega)), hQ4.frame (fun j hj => j4 j (by omega)), hR4.frame (fun j a1 a2 => j4 j (by omega)), upd_s _ _ _, ?_, ?_, ?_, ?_, fun _ => ⟨?_, ?_⟩, Or.inr (Or.inr (Or.inl rfl))⟩, rfl, rfl, rfl, rfl, fun j hj => ?_, Or.inr rfl⟩
        · rw [j4 26 (by omega)]; exact x26
        · rw [j4 27 (by omega)]; exact x27
        · rw [j4 28 (by omega)]; exact x28
        · rw [j4 29 (by omega)]; exact x29
        · rw [j4 30 (by omega)]; exact x30
        · rw [j4 701 (by omega)]; exact x701
        · rw [j4 j (by omega)]; exact hhi j hj
  · have hpos : 0 < rr := hrr.resolve_left hr0
    rw [if_neg hr0, if_neg (show ¬ rr ≤ 0 from Int32.not_le.mpr hpos)]
    have k4 : ∀ j, j < 25 ∨ 27 < j → upd (upd (upd F4 26 rr) 27 (F4 27 + 1)) 25 3 j = F4 j := fun j hj => by rw [upd_n (by omega), upd_n (by omega), upd_n (by omega)]
    obtain ⟨p2, F5, j1, j2, j3, j4⟩ := lose_rel (BL := BL) (p := pool) (v := (v.1, upd (upd (upd F4 26 rr) 27 (F4 27 + 1)) 25 3, v.2.2)) (hP4.frame (fun j a1 a2 => k4 j (by omega))) (by omega)
    have j4 : ∀ j, j < 37 ∨ 300 ≤ j → F5 j = upd (upd (upd F4 26 rr) 27 (F4 27 + 1)) 25 3 j := j4
    have m4 : ∀ j, (j < 37 ∨ 300 ≤ j) → (j < 25 ∨ 27 < j) → F5 j = F4 j := fun j a1 a2 => by rw [j4 j a1, k4 j a2]
    rw [j1, j2, bnd1_s, bnd1_s]
    refine ⟨1, _, F5, rfl, rfl, ⟨c, lg, W, BL, o, hSV0, hS4.frame (fun j hj => m4 j (by omega) (by omega)), hLm, hO4.frame (fun j a1 a2 => m4 j (by omega) (by omega)), hC4.frame (fun j a1 a2 => m4 j (by omega) (by omega)), j3, hQ4.frame (fun j hj => m4 j (by omega) (by omega)), hR4.frame (fun j a1 a2 => m4 j (by omega) (by omega)), ?_, ?_, ?_, ?_, ?_, fun _ => ⟨?_, ?_⟩, Or.inr (Or.inr (Or.inr rfl))⟩, rfl, rfl, rfl, rfl, fun j hj => ?_, Or.inr rfl⟩
    · rw [j4 25 (by omega)]; exact upd_s _ _ _
    · rw [j4 26 (by omega), upd_n (by decide), upd_n (by decide)]; exact upd_s _ _ _
    · rw [j4 27 (by omega), upd_n (by decide), upd_s, x27]
    · rw [m4 28 (by omega) (by omega)]; exact x28
    · rw [m4 29 (by omega) (by omega)]; exact x29
    · rw [m4 30 (by omega) (by omega)]; exact x30
    · rw [m4 701 (by omega) (by omega)]; exact x701
    · rw [m4 j (by omega) (by omega)]; exact hhi j hj
end HR
end mp_37_hr
section mp_38_li
section LI
theorem sh_pow : ∀ k : Nat, k < 63 → jlshl 1 (nI k) = lN (2 ^ k) := by decide +kernel
theorem lN_ltI {a b : Nat} (ha : a < 2 ^ 63) (hb : b < 2 ^ 63) : lN a < lN b ↔ a < b := by
  rw [Int64.lt_iff_toInt_lt]
  have e : ∀ n : Nat, n < 2 ^ 63 → (lN n).toInt = (n : Int) := fun n hn => by
    show (Int64.ofNat n).toInt = _
    exact Int64.toInt_ofNat_of_lt hn
  rw [e a ha, e b hb]
  omega
theorem lN_eqI {a b : Nat} (ha : a < 2 ^ 63) (hb : b < 2 ^ 63) : lN a = lN b ↔ a = b := by
  constructor
  · intro h
    rcases Nat.lt_trichotomy a b with z | z | z
    · exact absurd h (fun q => by have := (lN_ltI ha hb).mpr z; rw [q] at this; exact Int64.lt_irrefl this)
    · exact z
    · exact absurd h (fun q => by have := (lN_ltI hb ha).mpr z; rw [q] at this; exact Int64.lt_irrefl this)
  · intro h; rw [h]
theorem TS_lt : ∀ c, c < 16 → ∀ n, n < 16 → ∀ j, j < 17 → TS c n j < 2 ^ 62 := by decide +kernel
theorem TS_pos : ∀ c, c < 16 → 8 ≤ c → ∀ n, n < 16 → ∀ j, j ≤ n → 0 < TS c n j := by decide +kernel
theorem TS_mono : ∀ c, c < 16 → ∀ n, n < 16 → ∀ j, j < 16 → TS c n (j + 1) ≤ TS c n j := by decide +kernel
/-- the reference's own state, where only CHANCE, LOG and WINDOW stand -/
def mv (c lg : Nat) : V12 := (0, (fun k => if k = 0 then nI c else if k = 1 then nI lg else 0), (fun _ => 0), (fun _ => 0), 0, 0, 0, 0, 0, 0, 0, 0, 0, (fun _ => 0), 0, 0, 0, 0, 0, 0, 0, (fun _ => 0))
theorem rare_dep {u v : V12} (h : u.2.1 1 = v.2.1 1) (x : Int64) (y : Int32) : f_X12_isRare u x y = f_X12_isRare v x y := by
  unfold f_X12_isRare
  rw [show ((1 : Int32)).toNatClampNeg = 1 from rfl, h]
theorem rep_dep {u v : V12} (h0 : u.2.1 0 = v.2.1 0) (h1 : u.2.1 1 = v.2.1 1) : ∀ (fu : Nat) (x : Int32), fb_X12_repeats_2 u fu x = fb_X12_repeats_2 v fu x
  | 0, _ => rfl
  | fu + 1, x => by
    have ih := rep_dep h0 h1 fu
    unfold fb_X12_repeats_2 fl_X12_repeats_2
    rw [show ((0 : Int32)).toNatClampNeg = 0 from rfl, h0]
    simp only [rare_dep h1, ih]
theorem rep_ev : ∀ c, c < 16 → 8 ≤ c → ∀ lg, lg < 41 → 1 ≤ lg → f_X12_repeats (mv c lg) = some (nI (lmR c lg)) := by decide +kernel
theorem x_rep : ∀ c, c < 16 → 8 ≤ c → ∀ lg, lg < 41 → 1 ≤ lg → f_X2_leastRepeats (nI c) (nI lg) = some (nI (lmR c lg)) := by decide +kernel
theorem m_rep {v : V12} {c lg : Nat} (h0 : v.2.1 0 = nI c) (h1 : v.2.1 1 = nI lg) (c1 : 8 ≤ c) (c2 : c ≤ 15) (l1 : 1 ≤ lg) (l2 : lg ≤ 40) : f_X12_repeats v = some (nI (lmR c lg)) := by
  rw [← rep_ev c (by omega) c1 lg (by omega) l1]
  exact rep_dep (v := mv c lg) h0 h1 FU 2
theorem tail_dep {u v : V12} (h0 : u.2.1 0 = v.2.1 0) : ∀ (fu : Nat) (x : Int32) (y : Int64) (z : Int32), fb_X12_tail_5 u fu x y z = fb_X12_tail_5 v fu x y z
  | 0, _, _, _ => rfl
  | fu + 1, x, y, z => by
    have ih := tail_dep h0 fu
    unfold fb_X12_tail_5 fl_X12_tail_5
    rw [show ((0 : Int32)).toNatClampNeg = 0 from rfl, h0]
    simp only [ih]
theorem tail_ev : ∀ c, c < 16 → 8 ≤ c → ∀ n, n < 16 → ∀ j, j < 17 → f_X12_tail (mv c 0) (nI n) (nI j) = some (lN (TS c n j)) := by decide +kernel
theorem m_tail {v : V12} {c n j : Nat} (h0 : v.2.1 0 = nI c) (c1 : 8 ≤ c) (c2 : c ≤ 15) (hn : n < 16) (hj : j < 17) : f_X12_tail v (nI n) (nI j) = some (lN (TS c n j)) := by
  rw [← tail_ev c (by omega) c1 n hn j hj]
  exact tail_dep (v := mv c 0) h0 FU _ _ _
def HV (n j : Nat) : Nat := TS 8 n j / 8 ^ n
theorem halves_ev : ∀ n, n < 16 → ∀ j, j < 17 → f_X12_halves (nI n) (nI j) = some (lN (HV n j)) := by decide +kernel
theorem HV_eq : ∀ n, n < 16 → ∀ j, j < 17 → TS 8 n j = 8 ^ n * HV n j := by decide +kernel
end LI
end mp_38_li
