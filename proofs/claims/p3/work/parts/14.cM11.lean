abbrev wq_X12_hand : List Cond := Cond.code yX12_hand cX12_hand 5 (some .int) :: GL
set_option maxHeartbeats 4000000 in
set_option maxRecDepth 100000 in
theorem c_X12_hand (l : Launch) (D : va_G) (ca : Nat → ClassId) (zz : Nat → Nat) (a0 a1 a2 a3 a4 a5 : Nat) (sz : Nat) (v0 : V12) (p1 : Int32) (p2 : Int32) (r : Int32) (v0' : V12) (hf : f_X12_hand v0 p1 p2 = some (r, v0')) : Met l yX12_hand wq_X12_hand ({ frames := 4, cells := 0, slots := 0, locals := 91 } : Room) (PR D ca zz [.ref a0, .int p1, .int p2] sz [(a0, .inr (12, [.int v0.1, .ref a1, .ref a2, .ref a3, .int v0.2.2.2.2.1, .int v0.2.2.2.2.2.1, .int v0.2.2.2.2.2.2.1, .int v0.2.2.2.2.2.2.2.1, .int v0.2.2.2.2.2.2.2.2.1, .long v0.2.2.2.2.2.2.2.2.2.1, .int v0.2.2.2.2.2.2.2.2.2.2.1, .int v0.2.2.2.2.2.2.2.2.2.2.2.1, .int v0.2.2.2.2.2.2.2.2.2.2.2.2.1, .ref a4, .int v0.2.2.2.2.2.2.2.2.2.2.2.2.2.2.1, .int v0.2.2.2.2.2.2.2.2.2.2.2.2.2.2.2.1, .int v0.2.2.2.2.2.2.2.2.2.2.2.2.2.2.2.2.1, .int v0.2.2.2.2.2.2.2.2.2.2.2.2.2.2.2.2.2.1, .int v0.2.2.2.2.2.2.2.2.2.2.2.2.2.2.2.2.2.2.1, .long v0.2.2.2.2.2.2.2.2.2.2.2.2.2.2.2.2.2.2.2.1, .long v0.2.2.2.2.2.2.2.2.2.2.2.2.2.2.2.2.2.2.2.2.1, .ref a5])), (a1, .inl (ca 0, 4725, .inl v0.2.1)), (a2, .inl (ca 2, 1500, .inl v0.2.2.1)), (a3, .inl (ca 3, 3, .inl v0.2.2.2.1)), (a4, .inl (ca 0, 22, .inl v0.2.2.2.2.2.2.2.2.2.2.2.2.2.1)), (a5, .inl (ca 0, 256, .inl v0.2.2.2.2.2.2.2.2.2.2.2.2.2.2.2.2.2.2.2.2.2))]) (QI D ca r [(a0, .inr (12, [.int v0'.1, .ref a1, .ref a2, .ref a3, .int v0'.2.2.2.2.1, .int v0'.2.2.2.2.2.1, .int v0'.2.2.2.2.2.2.1, .int v0'.2.2.2.2.2.2.2.1, .int v0'.2.2.2.2.2.2.2.2.1, .long v0'.2.2.2.2.2.2.2.2.2.1, .int v0'.2.2.2.2.2.2.2.2.2.2.1, .int v0'.2.2.2.2.2.2.2.2.2.2.2.1, .int v0'.2.2.2.2.2.2.2.2.2.2.2.2.1, .ref a4, .int v0'.2.2.2.2.2.2.2.2.2.2.2.2.2.2.1, .int v0'.2.2.2.2.2.2.2.2.2.2.2.2.2.2.2.1, .int v0'.2.2.2.2.2.2.2.2.2.2.2.2.2.2.2.2.1, .int v0'.2.2.2.2.2.2.2.2.2.2.2.2.2.2.2.2.2.1, .int v0'.2.2.2.2.2.2.2.2.2.2.2.2.2.2.2.2.2.2.1, .long v0'.2.2.2.2.2.2.2.2.2.2.2.2.2.2.2.2.2.2.2.1, .long v0'.2.2.2.2.2.2.2.2.2.2.2.2.2.2.2.2.2.2.2.2.1, .ref a5])), (a1, .inl (ca 0, 4725, .inl v0'.2.1)), (a2, .inl (ca 2, 1500, .inl v0'.2.2.1)), (a3, .inl (ca 3, 3, .inl v0'.2.2.2.1)), (a4, .inl (ca 0, 22, .inl v0'.2.2.2.2.2.2.2.2.2.2.2.2.2.1)), (a5, .inl (ca 0, 256, .inl v0'.2.2.2.2.2.2.2.2.2.2.2.2.2.2.2.2.2.2.2.2.2))] (va_A [(a0, .inr (12, [.int v0.1, .ref a1, .ref a2, .ref a3, .int v0.2.2.2.2.1, .int v0.2.2.2.2.2.1, .int v0.2.2.2.2.2.2.1, .int v0.2.2.2.2.2.2.2.1, .int v0.2.2.2.2.2.2.2.2.1, .long v0.2.2.2.2.2.2.2.2.2.1, .int v0.2.2.2.2.2.2.2.2.2.2.1, .int v0.2.2.2.2.2.2.2.2.2.2.2.1, .int v0.2.2.2.2.2.2.2.2.2.2.2.2.1, .ref a4, .int v0.2.2.2.2.2.2.2.2.2.2.2.2.2.2.1, .int v0.2.2.2.2.2.2.2.2.2.2.2.2.2.2.2.1, .int v0.2.2.2.2.2.2.2.2.2.2.2.2.2.2.2.2.1, .int v0.2.2.2.2.2.2.2.2.2.2.2.2.2.2.2.2.2.1, .int v0.2.2.2.2.2.2.2.2.2.2.2.2.2.2.2.2.2.2.1, .long v0.2.2.2.2.2.2.2.2.2.2.2.2.2.2.2.2.2.2.2.1, .long v0.2.2.2.2.2.2.2.2.2.2.2.2.2.2.2.2.2.2.2.2.1, .ref a5])), (a1, .inl (ca 0, 4725, .inl v0.2.1)), (a2, .inl (ca 2, 1500, .inl v0.2.2.1)), (a3, .inl (ca 3, 3, .inl v0.2.2.2.1)), (a4, .inl (ca 0, 22, .inl v0.2.2.2.2.2.2.2.2.2.2.2.2.2.1)), (a5, .inl (ca 0, 256, .inl v0.2.2.2.2.2.2.2.2.2.2.2.2.2.2.2.2.2.2.2.2.2))] sz)) 0 0 (va_A [(a0, .inr (12, [.int v0.1, .ref a1, .ref a2, .ref a3, .int v0.2.2.2.2.1, .int v0.2.2.2.2.2.1, .int v0.2.2.2.2.2.2.1, .int v0.2.2.2.2.2.2.2.1, .int v0.2.2.2.2.2.2.2.2.1, .long v0.2.2.2.2.2.2.2.2.2.1, .int v0.2.2.2.2.2.2.2.2.2.2.1, .int v0.2.2.2.2.2.2.2.2.2.2.2.1, .int v0.2.2.2.2.2.2.2.2.2.2.2.2.1, .ref a4, .int v0.2.2.2.2.2.2.2.2.2.2.2.2.2.2.1, .int v0.2.2.2.2.2.2.2.2.2.2.2.2.2.2.2.1, .int v0.2.2.2.2.2.2.2.2.2.2.2.2.2.2.2.2.1, .int v0.2.2.2.2.2.2.2.2.2.2.2.2.2.2.2.2.2.1, .int v0.2.2.2.2.2.2.2.2.2.2.2.2.2.2.2.2.2.2.1, .long v0.2.2.2.2.2.2.2.2.2.2.2.2.2.2.2.2.2.2.2.1, .long v0.2.2.2.2.2.2.2.2.2.2.2.2.2.2.2.2.2.2.2.2.1, .ref a5])), (a1, .inl (ca 0, 4725, .inl v0.2.1)), (a2, .inl (ca 2, 1500, .inl v0.2.2.1)), (a3, .inl (ca 3, 3, .inl v0.2.2.2.1)), (a4, .inl (ca 0, 22, .inl v0.2.2.2.2.2.2.2.2.2.2.2.2.2.1)), (a5, .inl (ca 0, 256, .inl v0.2.2.2.2.2.2.2.2.2.2.2.2.2.2.2.2.2.2.2.2.2))] sz) := by
  refine en (y := yX12_hand) (wsm := wq_X12_hand) (av := [.ref a0, .int p1, .int p2]) (cc := cX12_hand) (maxL := 5) (ret := (some .int)) (Qf := fun A => (QI D ca r [(a0, .inr (12, [.int v0'.1, .ref a1, .ref a2, .ref a3, .int v0'.2.2.2.2.1, .int v0'.2.2.2.2.2.1, .int v0'.2.2.2.2.2.2.1, .int v0'.2.2.2.2.2.2.2.1, .int v0'.2.2.2.2.2.2.2.2.1, .long v0'.2.2.2.2.2.2.2.2.2.1, .int v0'.2.2.2.2.2.2.2.2.2.2.1, .int v0'.2.2.2.2.2.2.2.2.2.2.2.1, .int v0'.2.2.2.2.2.2.2.2.2.2.2.2.1, .ref a4, .int v0'.2.2.2.2.2.2.2.2.2.2.2.2.2.2.1, .int v0'.2.2.2.2.2.2.2.2.2.2.2.2.2.2.2.1, .int v0'.2.2.2.2.2.2.2.2.2.2.2.2.2.2.2.2.1, .int v0'.2.2.2.2.2.2.2.2.2.2.2.2.2.2.2.2.2.1, .int v0'.2.2.2.2.2.2.2.2.2.2.2.2.2.2.2.2.2.2.1, .long v0'.2.2.2.2.2.2.2.2.2.2.2.2.2.2.2.2.2.2.2.1, .long v0'.2.2.2.2.2.2.2.2.2.2.2.2.2.2.2.2.2.2.2.2.1, .ref a5])), (a1, .inl (ca 0, 4725, .inl v0'.2.1)), (a2, .inl (ca 2, 1500, .inl v0'.2.2.1)), (a3, .inl (ca 3, 3, .inl v0'.2.2.2.1)), (a4, .inl (ca 0, 22, .inl v0'.2.2.2.2.2.2.2.2.2.2.2.2.2.1)), (a5, .inl (ca 0, 256, .inl v0'.2.2.2.2.2.2.2.2.2.2.2.2.2.2.2.2.2.2.2.2.2))] A)) (by decide) rfl (Nat.le_of_ble_eq_true rfl) ?_
  intro p e s m args below meth c A Q ls hx hb hr hml hown hts hlocks hnm hA hN hZ hK hQ hP hD hS hl
  have w0 := hts _ (List.mem_cons_of_mem _ gw_5_115)
  have i12 : ∀ w ∈ u_ws RX12 TX12 22, w ∈ wq_X12_hand := fun w h => List.mem_cons_of_mem _ (inX12 w h)
  have bl28 : ∀ (k28 : V12 → Int32 → Int32 → Int32 → Option (Int32 × V12)) (q28 : ∀ (v0 : V12) (x1 : Int32) (x3 : Int32) (x4 : Int32), k28 v0 x1 x3 x4 = some (r, v0') → ∀ (H : Heap) (locs : List Loc) (ls : Array Slot), va_P D vwCl [(a0, .inr (12, [.int v0.1, .ref a1, .ref a2, .ref a3, .int v0.2.2.2.2.1, .int v0.2.2.2.2.2.1, .int v0.2.2.2.2.2.2.1, .int v0.2.2.2.2.2.2.2.1, .int v0.2.2.2.2.2.2.2.2.1, .long v0.2.2.2.2.2.2.2.2.2.1, .int v0.2.2.2.2.2.2.2.2.2.2.1, .int v0.2.2.2.2.2.2.2.2.2.2.2.1, .int v0.2.2.2.2.2.2.2.2.2.2.2.2.1, .ref a4, .int v0.2.2.2.2.2.2.2.2.2.2.2.2.2.2.1, .int v0.2.2.2.2.2.2.2.2.2.2.2.2.2.2.2.1, .int v0.2.2.2.2.2.2.2.2.2.2.2.2.2.2.2.2.1, .int v0.2.2.2.2.2.2.2.2.2.2.2.2.2.2.2.2.2.1, .int v0.2.2.2.2.2.2.2.2.2.2.2.2.2.2.2.2.2.2.1, .long v0.2.2.2.2.2.2.2.2.2.2.2.2.2.2.2.2.2.2.2.1, .long v0.2.2.2.2.2.2.2.2.2.2.2.2.2.2.2.2.2.2.2.2.1, .ref a5])), (a1, .inl (ca 0, 4725, .inl v0.2.1)), (a2, .inl (ca 2, 1500, .inl v0.2.2.1)), (a3, .inl (ca 3, 3, .inl v0.2.2.2.1)), (a4, .inl (ca 0, 22, .inl v0.2.2.2.2.2.2.2.2.2.2.2.2.2.1)), (a5, .inl (ca 0, 256, .inl v0.2.2.2.2.2.2.2.2.2.2.2.2.2.2.2.2.2.2.2.2.2))] H → va_D A [(a0, .inr (12, [.int v0.1, .ref a1, .ref a2, .ref a3, .int v0.2.2.2.2.1, .int v0.2.2.2.2.2.1, .int v0.2.2.2.2.2.2.1, .int v0.2.2.2.2.2.2.2.1, .int v0.2.2.2.2.2.2.2.2.1, .long v0.2.2.2.2.2.2.2.2.2.1, .int v0.2.2.2.2.2.2.2.2.2.2.1, .int v0.2.2.2.2.2.2.2.2.2.2.2.1, .int v0.2.2.2.2.2.2.2.2.2.2.2.2.1, .ref a4, .int v0.2.2.2.2.2.2.2.2.2.2.2.2.2.2.1, .int v0.2.2.2.2.2.2.2.2.2.2.2.2.2.2.2.1, .int v0.2.2.2.2.2.2.2.2.2.2.2.2.2.2.2.2.1, .int v0.2.2.2.2.2.2.2.2.2.2.2.2.2.2.2.2.2.1, .int v0.2.2.2.2.2.2.2.2.2.2.2.2.2.2.2.2.2.2.1, .long v0.2.2.2.2.2.2.2.2.2.2.2.2.2.2.2.2.2.2.2.1, .long v0.2.2.2.2.2.2.2.2.2.2.2.2.2.2.2.2.2.2.2.2.1, .ref a5])), (a1, .inl (ca 0, 4725, .inl v0.2.1)), (a2, .inl (ca 2, 1500, .inl v0.2.2.1)), (a3, .inl (ca 3, 3, .inl v0.2.2.2.1)), (a4, .inl (ca 0, 22, .inl v0.2.2.2.2.2.2.2.2.2.2.2.2.2.1)), (a5, .inl (ca 0, 256, .inl v0.2.2.2.2.2.2.2.2.2.2.2.2.2.2.2.2.2.2.2.2.2))] → va_S A s.heap H locs → lv_has ls 5 [(0, .ref a0), (1, .int x1), (3, .int x3), (4, .int x4)] → W p l e ({ frames := 4, cells := 0, slots := 0, locals := 91 } : Room) s m args below meth c H locs 0 0 Q (F0 m 28 ls [])) (v0 : V12) (x1 : Int32) (x3 : Int32) (x4 : Int32), fl_X12_hand_28 k28 v0 x1 x3 x4 = some (r, v0') → ∀ (H : Heap) (locs : List Loc) (ls : Array Slot), va_P D vwCl [(a0, .inr (12, [.int v0.1, .ref a1, .ref a2, .ref a3, .int v0.2.2.2.2.1, .int v0.2.2.2.2.2.1, .int v0.2.2.2.2.2.2.1, .int v0.2.2.2.2.2.2.2.1, .int v0.2.2.2.2.2.2.2.2.1, .long v0.2.2.2.2.2.2.2.2.2.1, .int v0.2.2.2.2.2.2.2.2.2.2.1, .int v0.2.2.2.2.2.2.2.2.2.2.2.1, .int v0.2.2.2.2.2.2.2.2.2.2.2.2.1, .ref a4, .int v0.2.2.2.2.2.2.2.2.2.2.2.2.2.2.1, .int v0.2.2.2.2.2.2.2.2.2.2.2.2.2.2.2.1, .int v0.2.2.2.2.2.2.2.2.2.2.2.2.2.2.2.2.1, .int v0.2.2.2.2.2.2.2.2.2.2.2.2.2.2.2.2.2.1, .int v0.2.2.2.2.2.2.2.2.2.2.2.2.2.2.2.2.2.2.1, .long v0.2.2.2.2.2.2.2.2.2.2.2.2.2.2.2.2.2.2.2.1, .long v0.2.2.2.2.2.2.2.2.2.2.2.2.2.2.2.2.2.2.2.2.1, .ref a5])), (a1, .inl (ca 0, 4725, .inl v0.2.1)), (a2, .inl (ca 2, 1500, .inl v0.2.2.1)), (a3, .inl (ca 3, 3, .inl v0.2.2.2.1)), (a4, .inl (ca 0, 22, .inl v0.2.2.2.2.2.2.2.2.2.2.2.2.2.1)), (a5, .inl (ca 0, 256, .inl v0.2.2.2.2.2.2.2.2.2.2.2.2.2.2.2.2.2.2.2.2.2))] H → va_D A [(a0, .inr (12, [.int v0.1, .ref a1, .ref a2, .ref a3, .int v0.2.2.2.2.1, .int v0.2.2.2.2.2.1, .int v0.2.2.2.2.2.2.1, .int v0.2.2.2.2.2.2.2.1, .int v0.2.2.2.2.2.2.2.2.1, .long v0.2.2.2.2.2.2.2.2.2.1, .int v0.2.2.2.2.2.2.2.2.2.2.1, .int v0.2.2.2.2.2.2.2.2.2.2.2.1, .int v0.2.2.2.2.2.2.2.2.2.2.2.2.1, .ref a4, .int v0.2.2.2.2.2.2.2.2.2.2.2.2.2.2.1, .int v0.2.2.2.2.2.2.2.2.2.2.2.2.2.2.2.1, .int v0.2.2.2.2.2.2.2.2.2.2.2.2.2.2.2.2.1, .int v0.2.2.2.2.2.2.2.2.2.2.2.2.2.2.2.2.2.1, .int v0.2.2.2.2.2.2.2.2.2.2.2.2.2.2.2.2.2.2.1, .long v0.2.2.2.2.2.2.2.2.2.2.2.2.2.2.2.2.2.2.2.1, .long v0.2.2.2.2.2.2.2.2.2.2.2.2.2.2.2.2.2.2.2.2.1, .ref a5])), (a1, .inl (ca 0, 4725, .inl v0.2.1)), (a2, .inl (ca 2, 1500, .inl v0.2.2.1)), (a3, .inl (ca 3, 3, .inl v0.2.2.2.1)), (a4, .inl (ca 0, 22, .inl v0.2.2.2.2.2.2.2.2.2.2.2.2.2.1)), (a5, .inl (ca 0, 256, .inl v0.2.2.2.2.2.2.2.2.2.2.2.2.2.2.2.2.2.2.2.2.2))] → va_S A s.heap H locs → lv_has ls 5 [(0, .ref a0), (1, .int x1), (3, .int x3), (4, .int x4)] → W p l e ({ frames := 4, cells := 0, slots := 0, locals := 91 } : Room) s m args below meth c H locs 0 0 Q (F0 m 28 ls []) := by
    intro k28 q28 v0 x1 x3 x4 hf H locs ls hP hD hS hl
    unfold fl_X12_hand_28 at hf
    refine lv_iload hx hb dX12_hand_28 (lv_at hl 3 rfl) ?_
    refine xi_lt (tgt := 60) hx hb dX12_hand_30 (by decide) hf (fun hf => ?_) (fun hf => ?_)
    · refine lv_iload_n hx hb dX12_hand_60 rfl (lv_at hl 2 rfl) ?_
      have he := Option.some.inj hf
      obtain ⟨e_r, he⟩ := Prod.mk.inj he
      have e_v0 := he
      refine rt_I hx hb hr hlocks hK hP hD hS hQ e_r ?_ dX12_hand_61
      simp only [← e_v0]
    · refine lv_iload_n hx hb dX12_hand_33 rfl (lv_at hl 2 rfl) ?_
      refine lv_aload_n hx hb dX12_hand_34 rfl (lv_at hl 0 rfl) ?_
      refine lv_iload_n hx hb dX12_hand_35 rfl (lv_at hl 1 rfl) ?_
      refine lv_iload hx hb dX12_hand_36 (lv_at hl 3 rfl) ?_
      refine lv_ishr hx hb dX12_hand_38 ?_
      refine lv_iconst (v := 1) hx hb dX12_hand_39 rfl ?_
      refine lv_iand hx hb dX12_hand_40 ?_
      obtain ⟨r_4, u_5, hc5, hf⟩ := bnd2_el hf
      refine xV_I (As := [.int ((x1 >>> (x4 &&& 31)) &&& (1 : Int32))]) (wx := [(a0, .inr (12, [.int u_5.1, .ref a1, .ref a2, .ref a3, .int u_5.2.2.2.2.1, .int u_5.2.2.2.2.2.1, .int u_5.2.2.2.2.2.2.1, .int u_5.2.2.2.2.2.2.2.1, .int u_5.2.2.2.2.2.2.2.2.1, .long u_5.2.2.2.2.2.2.2.2.2.1, .int u_5.2.2.2.2.2.2.2.2.2.2.1, .int u_5.2.2.2.2.2.2.2.2.2.2.2.1, .int u_5.2.2.2.2.2.2.2.2.2.2.2.2.1, .ref a4, .int u_5.2.2.2.2.2.2.2.2.2.2.2.2.2.2.1, .int u_5.2.2.2.2.2.2.2.2.2.2.2.2.2.2.2.1, .int u_5.2.2.2.2.2.2.2.2.2.2.2.2.2.2.2.2.1, .int u_5.2.2.2.2.2.2.2.2.2.2.2.2.2.2.2.2.2.1, .int u_5.2.2.2.2.2.2.2.2.2.2.2.2.2.2.2.2.2.2.1, .long u_5.2.2.2.2.2.2.2.2.2.2.2.2.2.2.2.2.2.2.2.1, .long u_5.2.2.2.2.2.2.2.2.2.2.2.2.2.2.2.2.2.2.2.2.1, .ref a5])), (a1, .inl (ca 0, 4725, .inl u_5.2.1)), (a2, .inl (ca 2, 1500, .inl u_5.2.2.1)), (a3, .inl (ca 3, 3, .inl u_5.2.2.2.1)), (a4, .inl (ca 0, 22, .inl u_5.2.2.2.2.2.2.2.2.2.2.2.2.2.1)), (a5, .inl (ca 0, 256, .inl u_5.2.2.2.2.2.2.2.2.2.2.2.2.2.2.2.2.2.2.2.2.2))]) ⟨hx, hb, hml, hown, hts⟩ (c_X12_hears l D ca zz a0 a1 a2 a3 a4 a5 _ v0 ((x1 >>> (x4 &&& 31)) &&& (1 : Int32)) r_4 u_5 hc5) (cwV 1 hts (gV gw_6_103 gw_6_105 gw_s_4_2 gw_1_15 gw_6_106) rfl rfl rfl (by decide +kernel) ⟨(Nat.le_of_ble_eq_true rfl), (Nat.le_of_ble_eq_true rfl)⟩) hK hN hZ hA hP hD hS [0, 1, 2, 3, 4, 5] [some 0, some 1, some 2, some 3, some 4, some 5] (by decide +kernel) rfl rfl rfl rfl 0 rfl rfl hl.1 rfl (Nat.le_of_ble_eq_true rfl) dX12_hand_41 ⟨Nat.zero_le _, Nat.zero_le _⟩ rfl (fun H locs hP hD hS => ?_)
      refine xi_eq (tgt := 51) hx hb dX12_hand_44 (by decide) hf (fun hf => ?_) (fun hf => ?_)
      · refine lv_iconst (v := 0) hx hb dX12_hand_51 rfl ?_
        refine lv_iadd hx hb dX12_hand_52 ?_
        refine xnm hf (fun x_6 hf => ?_)
        refine lv_istore_n (lv' := [(3, .int x_6), (0, .ref a0), (1, .int x1), (4, .int x4)]) hx hb dX12_hand_53 rfl hl (Nat.le_of_ble_eq_true rfl) rfl (fun ls hl => ?_)
        obtain ⟨x_7, ex_7, hf⟩ := bnd_el hf
        refine lv_iinc (v := x_7) (lv' := [(4, .int x_7), (3, .int x_6), (0, .ref a0), (1, .int x1)]) hx hb dX12_hand_54 hl (k := 3) rfl (by rw [ex_7]; rfl) (Nat.le_of_ble_eq_true rfl) rfl (fun ls hl => ?_)
        refine lv_goto (tgt := 28) hx hb dX12_hand_57 (by decide) ?_
        exact q28 u_5 x1 x_6 x_7 hf _ _ _ hP hD hS (lv_sub hl [2, 3, 1, 0] rfl)
      · refine lv_iconst (v := 1) hx hb dX12_hand_47 rfl ?_
        refine lv_goto (tgt := 52) hx hb dX12_hand_48 (by decide) ?_
        refine lv_iadd hx hb dX12_hand_52 ?_
        refine xnm hf (fun x_8 hf => ?_)
        refine lv_istore_n (lv' := [(3, .int x_8), (0, .ref a0), (1, .int x1), (4, .int x4)]) hx hb dX12_hand_53 rfl hl (Nat.le_of_ble_eq_true rfl) rfl (fun ls hl => ?_)
        obtain ⟨x_9, ex_9, hf⟩ := bnd_el hf
        refine lv_iinc (v := x_9) (lv' := [(4, .int x_9), (3, .int x_8), (0, .ref a0), (1, .int x1)]) hx hb dX12_hand_54 hl (k := 3) rfl (by rw [ex_9]; rfl) (Nat.le_of_ble_eq_true rfl) rfl (fun ls hl => ?_)
        refine lv_goto (tgt := 28) hx hb dX12_hand_57 (by decide) ?_
        exact q28 u_5 x1 x_8 x_9 hf _ _ _ hP hD hS (lv_sub hl [2, 3, 1, 0] rfl)
  have b28 : ∀ (n : Nat) (v0 : V12) (x1 : Int32) (x3 : Int32) (x4 : Int32), fb_X12_hand_28 n v0 x1 x3 x4 = some (r, v0') → ∀ (H : Heap) (locs : List Loc) (ls : Array Slot), va_P D vwCl [(a0, .inr (12, [.int v0.1, .ref a1, .ref a2, .ref a3, .int v0.2.2.2.2.1, .int v0.2.2.2.2.2.1, .int v0.2.2.2.2.2.2.1, .int v0.2.2.2.2.2.2.2.1, .int v0.2.2.2.2.2.2.2.2.1, .long v0.2.2.2.2.2.2.2.2.2.1, .int v0.2.2.2.2.2.2.2.2.2.2.1, .int v0.2.2.2.2.2.2.2.2.2.2.2.1, .int v0.2.2.2.2.2.2.2.2.2.2.2.2.1, .ref a4, .int v0.2.2.2.2.2.2.2.2.2.2.2.2.2.2.1, .int v0.2.2.2.2.2.2.2.2.2.2.2.2.2.2.2.1, .int v0.2.2.2.2.2.2.2.2.2.2.2.2.2.2.2.2.1, .int v0.2.2.2.2.2.2.2.2.2.2.2.2.2.2.2.2.2.1, .int v0.2.2.2.2.2.2.2.2.2.2.2.2.2.2.2.2.2.2.1, .long v0.2.2.2.2.2.2.2.2.2.2.2.2.2.2.2.2.2.2.2.1, .long v0.2.2.2.2.2.2.2.2.2.2.2.2.2.2.2.2.2.2.2.2.1, .ref a5])), (a1, .inl (ca 0, 4725, .inl v0.2.1)), (a2, .inl (ca 2, 1500, .inl v0.2.2.1)), (a3, .inl (ca 3, 3, .inl v0.2.2.2.1)), (a4, .inl (ca 0, 22, .inl v0.2.2.2.2.2.2.2.2.2.2.2.2.2.1)), (a5, .inl (ca 0, 256, .inl v0.2.2.2.2.2.2.2.2.2.2.2.2.2.2.2.2.2.2.2.2.2))] H → va_D A [(a0, .inr (12, [.int v0.1, .ref a1, .ref a2, .ref a3, .int v0.2.2.2.2.1, .int v0.2.2.2.2.2.1, .int v0.2.2.2.2.2.2.1, .int v0.2.2.2.2.2.2.2.1, .int v0.2.2.2.2.2.2.2.2.1, .long v0.2.2.2.2.2.2.2.2.2.1, .int v0.2.2.2.2.2.2.2.2.2.2.1, .int v0.2.2.2.2.2.2.2.2.2.2.2.1, .int v0.2.2.2.2.2.2.2.2.2.2.2.2.1, .ref a4, .int v0.2.2.2.2.2.2.2.2.2.2.2.2.2.2.1, .int v0.2.2.2.2.2.2.2.2.2.2.2.2.2.2.2.1, .int v0.2.2.2.2.2.2.2.2.2.2.2.2.2.2.2.2.1, .int v0.2.2.2.2.2.2.2.2.2.2.2.2.2.2.2.2.2.1, .int v0.2.2.2.2.2.2.2.2.2.2.2.2.2.2.2.2.2.2.1, .long v0.2.2.2.2.2.2.2.2.2.2.2.2.2.2.2.2.2.2.2.1, .long v0.2.2.2.2.2.2.2.2.2.2.2.2.2.2.2.2.2.2.2.2.1, .ref a5])), (a1, .inl (ca 0, 4725, .inl v0.2.1)), (a2, .inl (ca 2, 1500, .inl v0.2.2.1)), (a3, .inl (ca 3, 3, .inl v0.2.2.2.1)), (a4, .inl (ca 0, 22, .inl v0.2.2.2.2.2.2.2.2.2.2.2.2.2.1)), (a5, .inl (ca 0, 256, .inl v0.2.2.2.2.2.2.2.2.2.2.2.2.2.2.2.2.2.2.2.2.2))] → va_S A s.heap H locs → lv_has ls 5 [(0, .ref a0), (1, .int x1), (3, .int x3), (4, .int x4)] → W p l e ({ frames := 4, cells := 0, slots := 0, locals := 91 } : Room) s m args below meth c H locs 0 0 Q (F0 m 28 ls []) := by
    intro n
    induction n with
    | zero => intro v0 x1 x3 x4 hf; exact no_el hf
    | succ n ih => exact bl28 (fb_X12_hand_28 n) ih
  unfold f_X12_hand at hf
  refine lv_aload_n hx hb dX12_hand_0 rfl (lv_at hl 0 rfl) ?_
  refine lv_iconst (v := 0) hx hb dX12_hand_1 rfl ?_
  refine xput (C := RX12) (T := TX12) (N := 22) (wx := [(a0, .inr (12, [.int (0 : Int32), .ref a1, .ref a2, .ref a3, .int v0.2.2.2.2.1, .int v0.2.2.2.2.2.1, .int v0.2.2.2.2.2.2.1, .int v0.2.2.2.2.2.2.2.1, .int v0.2.2.2.2.2.2.2.2.1, .long v0.2.2.2.2.2.2.2.2.2.1, .int v0.2.2.2.2.2.2.2.2.2.2.1, .int v0.2.2.2.2.2.2.2.2.2.2.2.1, .int v0.2.2.2.2.2.2.2.2.2.2.2.2.1, .ref a4, .int v0.2.2.2.2.2.2.2.2.2.2.2.2.2.2.1, .int v0.2.2.2.2.2.2.2.2.2.2.2.2.2.2.2.1, .int v0.2.2.2.2.2.2.2.2.2.2.2.2.2.2.2.2.1, .int v0.2.2.2.2.2.2.2.2.2.2.2.2.2.2.2.2.2.1, .int v0.2.2.2.2.2.2.2.2.2.2.2.2.2.2.2.2.2.2.1, .long v0.2.2.2.2.2.2.2.2.2.2.2.2.2.2.2.2.2.2.2.1, .long v0.2.2.2.2.2.2.2.2.2.2.2.2.2.2.2.2.2.2.2.2.1, .ref a5])), (a1, .inl (ca 0, 4725, .inl v0.2.1)), (a2, .inl (ca 2, 1500, .inl v0.2.2.1)), (a3, .inl (ca 3, 3, .inl v0.2.2.2.1)), (a4, .inl (ca 0, 22, .inl v0.2.2.2.2.2.2.2.2.2.2.2.2.2.1)), (a5, .inl (ca 0, 256, .inl v0.2.2.2.2.2.2.2.2.2.2.2.2.2.2.2.2.2.2.2.2.2))]) hx hb hts i12 tyX12 tyX12_ok nmX12 hown hK hP hD hS 0 rfl rfl 0 (Nat.le_of_ble_eq_true rfl) w0 (fun _ h9 => h9) rfl rfl rfl rfl (Nat.le_of_ble_eq_true rfl) dX12_hand_2 rfl (fun H locs hP hD hS => ?_)
  refine lv_iload_n hx hb dX12_hand_5 rfl (lv_at hl 2 rfl) ?_
  refine lv_iconst (v := 1) hx hb dX12_hand_6 rfl ?_
  refine lv_bipush (v := 32) hx hb dX12_hand_7 rfl ?_
  obtain ⟨r_1, hc1, hf⟩ := bnd1_el hf
  refine xS_I (As := [.int p2, .int (1 : Int32), .int (32 : Int32)]) (wx := [(a0, .inr (12, [.int (0 : Int32), .ref a1, .ref a2, .ref a3, .int v0.2.2.2.2.1, .int v0.2.2.2.2.2.1, .int v0.2.2.2.2.2.2.1, .int v0.2.2.2.2.2.2.2.1, .int v0.2.2.2.2.2.2.2.2.1, .long v0.2.2.2.2.2.2.2.2.2.1, .int v0.2.2.2.2.2.2.2.2.2.2.1, .int v0.2.2.2.2.2.2.2.2.2.2.2.1, .int v0.2.2.2.2.2.2.2.2.2.2.2.2.1, .ref a4, .int v0.2.2.2.2.2.2.2.2.2.2.2.2.2.2.1, .int v0.2.2.2.2.2.2.2.2.2.2.2.2.2.2.2.1, .int v0.2.2.2.2.2.2.2.2.2.2.2.2.2.2.2.2.1, .int v0.2.2.2.2.2.2.2.2.2.2.2.2.2.2.2.2.2.1, .int v0.2.2.2.2.2.2.2.2.2.2.2.2.2.2.2.2.2.2.1, .long v0.2.2.2.2.2.2.2.2.2.2.2.2.2.2.2.2.2.2.2.1, .long v0.2.2.2.2.2.2.2.2.2.2.2.2.2.2.2.2.2.2.2.2.1, .ref a5])), (a1, .inl (ca 0, 4725, .inl v0.2.1)), (a2, .inl (ca 2, 1500, .inl v0.2.2.1)), (a3, .inl (ca 3, 3, .inl v0.2.2.2.1)), (a4, .inl (ca 0, 22, .inl v0.2.2.2.2.2.2.2.2.2.2.2.2.2.1)), (a5, .inl (ca 0, 256, .inl v0.2.2.2.2.2.2.2.2.2.2.2.2.2.2.2.2.2.2.2.2.2))]) ⟨hx, hb, hml, hown, hts⟩ (c_X12_in l D ca zz  _ p2 (1 : Int32) (32 : Int32) r_1 hc1) (va_cwS 3 hts (gS gw_5_200 gw_5_201 gw_1_15 gw_5_202) rfl rfl rfl (by decide +kernel) ⟨(Nat.le_of_ble_eq_true rfl), (Nat.le_of_ble_eq_true rfl)⟩) hK hN hZ hA hP hD hS [] [none, none, none, none, none, none] (by decide +kernel) rfl rfl rfl rfl hl.1 rfl (Nat.le_of_ble_eq_true rfl) dX12_hand_9 ⟨Nat.zero_le _, Nat.zero_le _⟩ rfl (fun H locs hP hD hS => ?_)
  refine xi_ne (tgt := 17) hx hb dX12_hand_12 (by decide) hf (fun hf => ?_) (fun hf => ?_)
  · refine lv_aload_n hx hb dX12_hand_17 rfl (lv_at hl 0 rfl) ?_
    obtain ⟨u_2, hc2, hf⟩ := bnd1_el hf
    have hMhc2 := fun sz => c_X12_laysLimits l D ca zz a0 a1 a2 a3 a4 a5 sz (((0 : Int32), v0.2)) u_2 hc2
    dsimp only at hMhc2
    refine xV_V (As := []) (wx := [(a0, .inr (12, [.int u_2.1, .ref a1, .ref a2, .ref a3, .int u_2.2.2.2.2.1, .int u_2.2.2.2.2.2.1, .int u_2.2.2.2.2.2.2.1, .int u_2.2.2.2.2.2.2.2.1, .int u_2.2.2.2.2.2.2.2.2.1, .long u_2.2.2.2.2.2.2.2.2.2.1, .int u_2.2.2.2.2.2.2.2.2.2.2.1, .int u_2.2.2.2.2.2.2.2.2.2.2.2.1, .int u_2.2.2.2.2.2.2.2.2.2.2.2.2.1, .ref a4, .int u_2.2.2.2.2.2.2.2.2.2.2.2.2.2.2.1, .int u_2.2.2.2.2.2.2.2.2.2.2.2.2.2.2.2.1, .int u_2.2.2.2.2.2.2.2.2.2.2.2.2.2.2.2.2.1, .int u_2.2.2.2.2.2.2.2.2.2.2.2.2.2.2.2.2.2.1, .int u_2.2.2.2.2.2.2.2.2.2.2.2.2.2.2.2.2.2.2.1, .long u_2.2.2.2.2.2.2.2.2.2.2.2.2.2.2.2.2.2.2.2.1, .long u_2.2.2.2.2.2.2.2.2.2.2.2.2.2.2.2.2.2.2.2.2.1, .ref a5])), (a1, .inl (ca 0, 4725, .inl u_2.2.1)), (a2, .inl (ca 2, 1500, .inl u_2.2.2.1)), (a3, .inl (ca 3, 3, .inl u_2.2.2.2.1)), (a4, .inl (ca 0, 22, .inl u_2.2.2.2.2.2.2.2.2.2.2.2.2.2.1)), (a5, .inl (ca 0, 256, .inl u_2.2.2.2.2.2.2.2.2.2.2.2.2.2.2.2.2.2.2.2.2.2))]) ⟨hx, hb, hml, hown, hts⟩ (hMhc2 _) (cwV 0 hts (gV gw_6_90 gw_6_92 gw_s_3_15 gw_1_15 gw_6_93) rfl rfl rfl (by decide +kernel) ⟨(Nat.le_of_ble_eq_true rfl), (Nat.le_of_ble_eq_true rfl)⟩) hK hN hZ hA hP hD hS [0, 1, 2, 3, 4, 5] [some 0, some 1, some 2, some 3, some 4, some 5] (by decide +kernel) rfl rfl rfl rfl 0 rfl rfl hl.1 rfl (Nat.le_of_ble_eq_true rfl) dX12_hand_18 ⟨Nat.zero_le _, Nat.zero_le _⟩ rfl (fun H locs hP hD hS => ?_)
    refine lv_iconst (v := 0) hx hb dX12_hand_21 rfl ?_
    refine lv_istore_n (lv' := [(3, .int (0 : Int32)), (0, .ref a0), (1, .int p1), (2, .int p2)]) hx hb dX12_hand_22 rfl hl (Nat.le_of_ble_eq_true rfl) rfl (fun ls hl => ?_)
    refine lv_iload_n hx hb dX12_hand_23 rfl (lv_at hl 3 rfl) ?_
    refine lv_iconst (v := 1) hx hb dX12_hand_24 rfl ?_
    refine lv_isub hx hb dX12_hand_25 ?_
    refine xnm hf (fun x_3 hf => ?_)
    refine lv_istore (lv' := [(4, .int x_3), (3, .int (0 : Int32)), (0, .ref a0), (1, .int p1), (2, .int p2)]) hx hb dX12_hand_26 hl (Nat.le_of_ble_eq_true rfl) rfl (fun ls hl => ?_)
    exact b28 FU u_2 p1 (0 : Int32) x_3 hf _ _ _ hP hD hS (lv_sub hl [2, 3, 1, 0] rfl)
  · refine lv_iconst (v := -1) hx hb dX12_hand_15 rfl ?_
    have he := Option.some.inj hf
    obtain ⟨e_r, he⟩ := Prod.mk.inj he
    have e_v0 := he
    refine rt_I hx hb hr hlocks hK hP hD hS hQ e_r ?_ dX12_hand_16
    simp only [← e_v0]
abbrev wq_X12_take : List Cond := Cond.code yX12_take cX12_take 4 (some .int) :: GL
set_option maxHeartbeats 4000000 in
set_option maxRecDepth 100000 in
theorem c_X12_take (l : Launch) (D : va_G) (ca : Nat → ClassId) (zz : Nat → Nat) (a0 a1 a2 a3 a4 a5 : Nat) (sz : Nat) (v0 : V12) (p1 : Int32) (r : Int32) (v0' : V12) (hf : f_X12_take v0 p1 = some (r, v0')) : Met l yX12_take wq_X12_take ({ frames := 1, cells := 0, slots := 0, locals := 22 } : Room) (PR D ca zz [.ref a0, .int p1] sz [(a0, .inr (12, [.int v0.1, .ref a1, .ref a2, .ref a3, .int v0.2.2.2.2.1, .int v0.2.2.2.2.2.1, .int v0.2.2.2.2.2.2.1, .int v0.2.2.2.2.2.2.2.1, .int v0.2.2.2.2.2.2.2.2.1, .long v0.2.2.2.2.2.2.2.2.2.1, .int v0.2.2.2.2.2.2.2.2.2.2.1, .int v0.2.2.2.2.2.2.2.2.2.2.2.1, .int v0.2.2.2.2.2.2.2.2.2.2.2.2.1, .ref a4, .int v0.2.2.2.2.2.2.2.2.2.2.2.2.2.2.1, .int v0.2.2.2.2.2.2.2.2.2.2.2.2.2.2.2.1, .int v0.2.2.2.2.2.2.2.2.2.2.2.2.2.2.2.2.1, .int v0.2.2.2.2.2.2.2.2.2.2.2.2.2.2.2.2.2.1, .int v0.2.2.2.2.2.2.2.2.2.2.2.2.2.2.2.2.2.2.1, .long v0.2.2.2.2.2.2.2.2.2.2.2.2.2.2.2.2.2.2.2.1, .long v0.2.2.2.2.2.2.2.2.2.2.2.2.2.2.2.2.2.2.2.2.1, .ref a5])), (a1, .inl (ca 0, 4725, .inl v0.2.1)), (a2, .inl (ca 2, 1500, .inl v0.2.2.1)), (a3, .inl (ca 3, 3, .inl v0.2.2.2.1)), (a4, .inl (ca 0, 22, .inl v0.2.2.2.2.2.2.2.2.2.2.2.2.2.1)), (a5, .inl (ca 0, 256, .inl v0.2.2.2.2.2.2.2.2.2.2.2.2.2.2.2.2.2.2.2.2.2))]) (QI D ca r [(a0, .inr (12, [.int v0'.1, .ref a1, .ref a2, .ref a3, .int v0'.2.2.2.2.1, .int v0'.2.2.2.2.2.1, .int v0'.2.2.2.2.2.2.1, .int v0'.2.2.2.2.2.2.2.1, .int v0'.2.2.2.2.2.2.2.2.1, .long v0'.2.2.2.2.2.2.2.2.2.1, .int v0'.2.2.2.2.2.2.2.2.2.2.1, .int v0'.2.2.2.2.2.2.2.2.2.2.2.1, .int v0'.2.2.2.2.2.2.2.2.2.2.2.2.1, .ref a4, .int v0'.2.2.2.2.2.2.2.2.2.2.2.2.2.2.1, .int v0'.2.2.2.2.2.2.2.2.2.2.2.2.2.2.2.1, .int v0'.2.2.2.2.2.2.2.2.2.2.2.2.2.2.2.2.1, .int v0'.2.2.2.2.2.2.2.2.2.2.2.2.2.2.2.2.2.1, .int v0'.2.2.2.2.2.2.2.2.2.2.2.2.2.2.2.2.2.2.1, .long v0'.2.2.2.2.2.2.2.2.2.2.2.2.2.2.2.2.2.2.2.1, .long v0'.2.2.2.2.2.2.2.2.2.2.2.2.2.2.2.2.2.2.2.2.1, .ref a5])), (a1, .inl (ca 0, 4725, .inl v0'.2.1)), (a2, .inl (ca 2, 1500, .inl v0'.2.2.1)), (a3, .inl (ca 3, 3, .inl v0'.2.2.2.1)), (a4, .inl (ca 0, 22, .inl v0'.2.2.2.2.2.2.2.2.2.2.2.2.2.1)), (a5, .inl (ca 0, 256, .inl v0'.2.2.2.2.2.2.2.2.2.2.2.2.2.2.2.2.2.2.2.2.2))] (va_A [(a0, .inr (12, [.int v0.1, .ref a1, .ref a2, .ref a3, .int v0.2.2.2.2.1, .int v0.2.2.2.2.2.1, .int v0.2.2.2.2.2.2.1, .int v0.2.2.2.2.2.2.2.1, .int v0.2.2.2.2.2.2.2.2.1, .long v0.2.2.2.2.2.2.2.2.2.1, .int v0.2.2.2.2.2.2.2.2.2.2.1, .int v0.2.2.2.2.2.2.2.2.2.2.2.1, .int v0.2.2.2.2.2.2.2.2.2.2.2.2.1, .ref a4, .int v0.2.2.2.2.2.2.2.2.2.2.2.2.2.2.1, .int v0.2.2.2.2.2.2.2.2.2.2.2.2.2.2.2.1, .int v0.2.2.2.2.2.2.2.2.2.2.2.2.2.2.2.2.1, .int v0.2.2.2.2.2.2.2.2.2.2.2.2.2.2.2.2.2.1, .int v0.2.2.2.2.2.2.2.2.2.2.2.2.2.2.2.2.2.2.1, .long v0.2.2.2.2.2.2.2.2.2.2.2.2.2.2.2.2.2.2.2.1, .long v0.2.2.2.2.2.2.2.2.2.2.2.2.2.2.2.2.2.2.2.2.1, .ref a5])), (a1, .inl (ca 0, 4725, .inl v0.2.1)), (a2, .inl (ca 2, 1500, .inl v0.2.2.1)), (a3, .inl (ca 3, 3, .inl v0.2.2.2.1)), (a4, .inl (ca 0, 22, .inl v0.2.2.2.2.2.2.2.2.2.2.2.2.2.1)), (a5, .inl (ca 0, 256, .inl v0.2.2.2.2.2.2.2.2.2.2.2.2.2.2.2.2.2.2.2.2.2))] sz)) 0 0 (va_A [(a0, .inr (12, [.int v0.1, .ref a1, .ref a2, .ref a3, .int v0.2.2.2.2.1, .int v0.2.2.2.2.2.1, .int v0.2.2.2.2.2.2.1, .int v0.2.2.2.2.2.2.2.1, .int v0.2.2.2.2.2.2.2.2.1, .long v0.2.2.2.2.2.2.2.2.2.1, .int v0.2.2.2.2.2.2.2.2.2.2.1, .int v0.2.2.2.2.2.2.2.2.2.2.2.1, .int v0.2.2.2.2.2.2.2.2.2.2.2.2.1, .ref a4, .int v0.2.2.2.2.2.2.2.2.2.2.2.2.2.2.1, .int v0.2.2.2.2.2.2.2.2.2.2.2.2.2.2.2.1, .int v0.2.2.2.2.2.2.2.2.2.2.2.2.2.2.2.2.1, .int v0.2.2.2.2.2.2.2.2.2.2.2.2.2.2.2.2.2.1, .int v0.2.2.2.2.2.2.2.2.2.2.2.2.2.2.2.2.2.2.1, .long v0.2.2.2.2.2.2.2.2.2.2.2.2.2.2.2.2.2.2.2.1, .long v0.2.2.2.2.2.2.2.2.2.2.2.2.2.2.2.2.2.2.2.2.1, .ref a5])), (a1, .inl (ca 0, 4725, .inl v0.2.1)), (a2, .inl (ca 2, 1500, .inl v0.2.2.1)), (a3, .inl (ca 3, 3, .inl v0.2.2.2.1)), (a4, .inl (ca 0, 22, .inl v0.2.2.2.2.2.2.2.2.2.2.2.2.2.1)), (a5, .inl (ca 0, 256, .inl v0.2.2.2.2.2.2.2.2.2.2.2.2.2.2.2.2.2.2.2.2.2))] sz) := by
  refine en (y := yX12_take) (wsm := wq_X12_take) (av := [.ref a0, .int p1]) (cc := cX12_take) (maxL := 4) (ret := (some .int)) (Qf := fun A => (QI D ca r [(a0, .inr (12, [.int v0'.1, .ref a1, .ref a2, .ref a3, .int v0'.2.2.2.2.1, .int v0'.2.2.2.2.2.1, .int v0'.2.2.2.2.2.2.1, .int v0'.2.2.2.2.2.2.2.1, .int v0'.2.2.2.2.2.2.2.2.1, .long v0'.2.2.2.2.2.2.2.2.2.1, .int v0'.2.2.2.2.2.2.2.2.2.2.1, .int v0'.2.2.2.2.2.2.2.2.2.2.2.1, .int v0'.2.2.2.2.2.2.2.2.2.2.2.2.1, .ref a4, .int v0'.2.2.2.2.2.2.2.2.2.2.2.2.2.2.1, .int v0'.2.2.2.2.2.2.2.2.2.2.2.2.2.2.2.1, .int v0'.2.2.2.2.2.2.2.2.2.2.2.2.2.2.2.2.1, .int v0'.2.2.2.2.2.2.2.2.2.2.2.2.2.2.2.2.2.1, .int v0'.2.2.2.2.2.2.2.2.2.2.2.2.2.2.2.2.2.2.1, .long v0'.2.2.2.2.2.2.2.2.2.2.2.2.2.2.2.2.2.2.2.1, .long v0'.2.2.2.2.2.2.2.2.2.2.2.2.2.2.2.2.2.2.2.2.1, .ref a5])), (a1, .inl (ca 0, 4725, .inl v0'.2.1)), (a2, .inl (ca 2, 1500, .inl v0'.2.2.1)), (a3, .inl (ca 3, 3, .inl v0'.2.2.2.1)), (a4, .inl (ca 0, 22, .inl v0'.2.2.2.2.2.2.2.2.2.2.2.2.2.1)), (a5, .inl (ca 0, 256, .inl v0'.2.2.2.2.2.2.2.2.2.2.2.2.2.2.2.2.2.2.2.2.2))] A)) (by decide) rfl (Nat.le_of_ble_eq_true rfl) ?_
  intro p e s m args below meth c A Q ls hx hb hr hml hown hts hlocks hnm hA hN hZ hK hQ hP hD hS hl
  have w0 := hts _ (List.mem_cons_of_mem _ gw_5_115)
  have w1 := hts _ (List.mem_cons_of_mem _ gw_5_116)
  have i12 : ∀ w ∈ u_ws RX12 TX12 22, w ∈ wq_X12_take := fun w h => List.mem_cons_of_mem _ (inX12 w h)
  have bl59 : ∀ (k59 : V12 → Int32 → Int32 → Int32 → Option (Int32 × V12)) (q59 : ∀ (v0 : V12) (x1 : Int32) (x2 : Int32) (x3 : Int32), k59 v0 x1 x2 x3 = some (r, v0') → ∀ (H : Heap) (locs : List Loc) (ls : Array Slot), va_P D vwCl [(a0, .inr (12, [.int v0.1, .ref a1, .ref a2, .ref a3, .int v0.2.2.2.2.1, .int v0.2.2.2.2.2.1, .int v0.2.2.2.2.2.2.1, .int v0.2.2.2.2.2.2.2.1, .int v0.2.2.2.2.2.2.2.2.1, .long v0.2.2.2.2.2.2.2.2.2.1, .int v0.2.2.2.2.2.2.2.2.2.2.1, .int v0.2.2.2.2.2.2.2.2.2.2.2.1, .int v0.2.2.2.2.2.2.2.2.2.2.2.2.1, .ref a4, .int v0.2.2.2.2.2.2.2.2.2.2.2.2.2.2.1, .int v0.2.2.2.2.2.2.2.2.2.2.2.2.2.2.2.1, .int v0.2.2.2.2.2.2.2.2.2.2.2.2.2.2.2.2.1, .int v0.2.2.2.2.2.2.2.2.2.2.2.2.2.2.2.2.2.1, .int v0.2.2.2.2.2.2.2.2.2.2.2.2.2.2.2.2.2.2.1, .long v0.2.2.2.2.2.2.2.2.2.2.2.2.2.2.2.2.2.2.2.1, .long v0.2.2.2.2.2.2.2.2.2.2.2.2.2.2.2.2.2.2.2.2.1, .ref a5])), (a1, .inl (ca 0, 4725, .inl v0.2.1)), (a2, .inl (ca 2, 1500, .inl v0.2.2.1)), (a3, .inl (ca 3, 3, .inl v0.2.2.2.1)), (a4, .inl (ca 0, 22, .inl v0.2.2.2.2.2.2.2.2.2.2.2.2.2.1)), (a5, .inl (ca 0, 256, .inl v0.2.2.2.2.2.2.2.2.2.2.2.2.2.2.2.2.2.2.2.2.2))] H → va_D A [(a0, .inr (12, [.int v0.1, .ref a1, .ref a2, .ref a3, .int v0.2.2.2.2.1, .int v0.2.2.2.2.2.1, .int v0.2.2.2.2.2.2.1, .int v0.2.2.2.2.2.2.2.1, .int v0.2.2.2.2.2.2.2.2.1, .long v0.2.2.2.2.2.2.2.2.2.1, .int v0.2.2.2.2.2.2.2.2.2.2.1, .int v0.2.2.2.2.2.2.2.2.2.2.2.1, .int v0.2.2.2.2.2.2.2.2.2.2.2.2.1, .ref a4, .int v0.2.2.2.2.2.2.2.2.2.2.2.2.2.2.1, .int v0.2.2.2.2.2.2.2.2.2.2.2.2.2.2.2.1, .int v0.2.2.2.2.2.2.2.2.2.2.2.2.2.2.2.2.1, .int v0.2.2.2.2.2.2.2.2.2.2.2.2.2.2.2.2.2.1, .int v0.2.2.2.2.2.2.2.2.2.2.2.2.2.2.2.2.2.2.1, .long v0.2.2.2.2.2.2.2.2.2.2.2.2.2.2.2.2.2.2.2.1, .long v0.2.2.2.2.2.2.2.2.2.2.2.2.2.2.2.2.2.2.2.2.1, .ref a5])), (a1, .inl (ca 0, 4725, .inl v0.2.1)), (a2, .inl (ca 2, 1500, .inl v0.2.2.1)), (a3, .inl (ca 3, 3, .inl v0.2.2.2.1)), (a4, .inl (ca 0, 22, .inl v0.2.2.2.2.2.2.2.2.2.2.2.2.2.1)), (a5, .inl (ca 0, 256, .inl v0.2.2.2.2.2.2.2.2.2.2.2.2.2.2.2.2.2.2.2.2.2))] → va_S A s.heap H locs → lv_has ls 4 [(0, .ref a0), (1, .int x1), (2, .int x2), (3, .int x3)] → W p l e ({ frames := 1, cells := 0, slots := 0, locals := 22 } : Room) s m args below meth c H locs 0 0 Q (F0 m 59 ls [])) (v0 : V12) (x1 : Int32) (x2 : Int32) (x3 : Int32), fl_X12_take_59 k59 v0 x1 x2 x3 = some (r, v0') → ∀ (H : Heap) (locs : List Loc) (ls : Array Slot), va_P D vwCl [(a0, .inr (12, [.int v0.1, .ref a1, .ref a2, .ref a3, .int v0.2.2.2.2.1, .int v0.2.2.2.2.2.1, .int v0.2.2.2.2.2.2.1, .int v0.2.2.2.2.2.2.2.1, .int v0.2.2.2.2.2.2.2.2.1, .long v0.2.2.2.2.2.2.2.2.2.1, .int v0.2.2.2.2.2.2.2.2.2.2.1, .int v0.2.2.2.2.2.2.2.2.2.2.2.1, .int v0.2.2.2.2.2.2.2.2.2.2.2.2.1, .ref a4, .int v0.2.2.2.2.2.2.2.2.2.2.2.2.2.2.1, .int v0.2.2.2.2.2.2.2.2.2.2.2.2.2.2.2.1, .int v0.2.2.2.2.2.2.2.2.2.2.2.2.2.2.2.2.1, .int v0.2.2.2.2.2.2.2.2.2.2.2.2.2.2.2.2.2.1, .int v0.2.2.2.2.2.2.2.2.2.2.2.2.2.2.2.2.2.2.1, .long v0.2.2.2.2.2.2.2.2.2.2.2.2.2.2.2.2.2.2.2.1, .long v0.2.2.2.2.2.2.2.2.2.2.2.2.2.2.2.2.2.2.2.2.1, .ref a5])), (a1, .inl (ca 0, 4725, .inl v0.2.1)), (a2, .inl (ca 2, 1500, .inl v0.2.2.1)), (a3, .inl (ca 3, 3, .inl v0.2.2.2.1)), (a4, .inl (ca 0, 22, .inl v0.2.2.2.2.2.2.2.2.2.2.2.2.2.1)), (a5, .inl (ca 0, 256, .inl v0.2.2.2.2.2.2.2.2.2.2.2.2.2.2.2.2.2.2.2.2.2))] H → va_D A [(a0, .inr (12, [.int v0.1, .ref a1, .ref a2, .ref a3, .int v0.2.2.2.2.1, .int v0.2.2.2.2.2.1, .int v0.2.2.2.2.2.2.1, .int v0.2.2.2.2.2.2.2.1, .int v0.2.2.2.2.2.2.2.2.1, .long v0.2.2.2.2.2.2.2.2.2.1, .int v0.2.2.2.2.2.2.2.2.2.2.1, .int v0.2.2.2.2.2.2.2.2.2.2.2.1, .int v0.2.2.2.2.2.2.2.2.2.2.2.2.1, .ref a4, .int v0.2.2.2.2.2.2.2.2.2.2.2.2.2.2.1, .int v0.2.2.2.2.2.2.2.2.2.2.2.2.2.2.2.1, .int v0.2.2.2.2.2.2.2.2.2.2.2.2.2.2.2.2.1, .int v0.2.2.2.2.2.2.2.2.2.2.2.2.2.2.2.2.2.1, .int v0.2.2.2.2.2.2.2.2.2.2.2.2.2.2.2.2.2.2.1, .long v0.2.2.2.2.2.2.2.2.2.2.2.2.2.2.2.2.2.2.2.1, .long v0.2.2.2.2.2.2.2.2.2.2.2.2.2.2.2.2.2.2.2.2.1, .ref a5])), (a1, .inl (ca 0, 4725, .inl v0.2.1)), (a2, .inl (ca 2, 1500, .inl v0.2.2.1)), (a3, .inl (ca 3, 3, .inl v0.2.2.2.1)), (a4, .inl (ca 0, 22, .inl v0.2.2.2.2.2.2.2.2.2.2.2.2.2.1)), (a5, .inl (ca 0, 256, .inl v0.2.2.2.2.2.2.2.2.2.2.2.2.2.2.2.2.2.2.2.2.2))] → va_S A s.heap H locs → lv_has ls 4 [(0, .ref a0), (1, .int x1), (2, .int x2), (3, .int x3)] → W p l e ({ frames := 1, cells := 0, slots := 0, locals := 22 } : Room) s m args below meth c H locs 0 0 Q (F0 m 59 ls []) := by
    intro k59 q59 v0 x1 x2 x3 hf H locs ls hP hD hS hl
    unfold fl_X12_take_59 at hf
    refine lv_iload_n hx hb dX12_take_59 rfl (lv_at hl 3 rfl) ?_
    refine lv_aload_n hx hb dX12_take_60 rfl (lv_at hl 0 rfl) ?_
    refine va_get (C := RX12) (T := TX12) (N := 22) hx hb hts i12 hown hK hP 0 rfl rfl 1 (Nat.le_of_ble_eq_true rfl) w1 (fun _ h9 => h9) rfl dX12_take_61 ?_
    refine lv_bipush (v := 43) hx hb dX12_take_64 rfl ?_
    refine xiald hx hb hK hP 1 rfl hf dX12_take_66 (fun hf => ?_)
    refine xc_ge (tgt := 96) hx hb dX12_take_67 (by decide) hf (fun hf => ?_) (fun hf => ?_)
    · refine lv_aload_n hx hb dX12_take_96 rfl (lv_at hl 0 rfl) ?_
      refine va_get (C := RX12) (T := TX12) (N := 22) hx hb hts i12 hown hK hP 0 rfl rfl 1 (Nat.le_of_ble_eq_true rfl) w1 (fun _ h9 => h9) rfl dX12_take_97 ?_
      refine lv_bipush (v := 43) hx hb dX12_take_100 rfl ?_
      refine lv_dup2_11 hx hb dX12_take_102 rfl rfl ?_
      refine xiald hx hb hK hP 1 rfl hf dX12_take_103 (fun hf => ?_)
      refine lv_iload_n hx hb dX12_take_104 rfl (lv_at hl 1 rfl) ?_
      refine lv_isub hx hb dX12_take_105 ?_
      refine xiast (wx := [(a0, .inr (12, [.int v0.1, .ref a1, .ref a2, .ref a3, .int v0.2.2.2.2.1, .int v0.2.2.2.2.2.1, .int v0.2.2.2.2.2.2.1, .int v0.2.2.2.2.2.2.2.1, .int v0.2.2.2.2.2.2.2.2.1, .long v0.2.2.2.2.2.2.2.2.2.1, .int v0.2.2.2.2.2.2.2.2.2.2.1, .int v0.2.2.2.2.2.2.2.2.2.2.2.1, .int v0.2.2.2.2.2.2.2.2.2.2.2.2.1, .ref a4, .int v0.2.2.2.2.2.2.2.2.2.2.2.2.2.2.1, .int v0.2.2.2.2.2.2.2.2.2.2.2.2.2.2.2.1, .int v0.2.2.2.2.2.2.2.2.2.2.2.2.2.2.2.2.1, .int v0.2.2.2.2.2.2.2.2.2.2.2.2.2.2.2.2.2.1, .int v0.2.2.2.2.2.2.2.2.2.2.2.2.2.2.2.2.2.2.1, .long v0.2.2.2.2.2.2.2.2.2.2.2.2.2.2.2.2.2.2.2.1, .long v0.2.2.2.2.2.2.2.2.2.2.2.2.2.2.2.2.2.2.2.2.1, .ref a5])), (a1, .inl (ca 0, 4725, .inl ((upd v0.2.1 ((43 : Int32)).toNatClampNeg ((v0.2.1 ((43 : Int32)).toNatClampNeg) - x1))))), (a2, .inl (ca 2, 1500, .inl v0.2.2.1)), (a3, .inl (ca 3, 3, .inl v0.2.2.2.1)), (a4, .inl (ca 0, 22, .inl v0.2.2.2.2.2.2.2.2.2.2.2.2.2.1)), (a5, .inl (ca 0, 256, .inl v0.2.2.2.2.2.2.2.2.2.2.2.2.2.2.2.2.2.2.2.2.2))]) hx hb hK hP hD hS 1 rfl hf dX12_take_106 rfl (fun H locs hf hP hD hS => ?_)
      obtain ⟨y_2, ey_2, hf⟩ := bnd_el hf
      rw [← ey_2] at hP hD
      refine lv_aload_n hx hb dX12_take_107 rfl (lv_at hl 0 rfl) ?_
      refine va_get (C := RX12) (T := TX12) (N := 22) hx hb hts i12 hown hK hP 0 rfl rfl 1 (Nat.le_of_ble_eq_true rfl) w1 (fun _ h9 => h9) rfl dX12_take_108 ?_
      refine lv_bipush (v := 41) hx hb dX12_take_111 rfl ?_
      refine lv_dup2_11 hx hb dX12_take_113 rfl rfl ?_
      refine xiald hx hb hK hP 1 rfl hf dX12_take_114 (fun hf => ?_)
      refine lv_iload_n hx hb dX12_take_115 rfl (lv_at hl 1 rfl) ?_
      refine lv_iadd hx hb dX12_take_116 ?_
      refine xiast (wx := [(a0, .inr (12, [.int v0.1, .ref a1, .ref a2, .ref a3, .int v0.2.2.2.2.1, .int v0.2.2.2.2.2.1, .int v0.2.2.2.2.2.2.1, .int v0.2.2.2.2.2.2.2.1, .int v0.2.2.2.2.2.2.2.2.1, .long v0.2.2.2.2.2.2.2.2.2.1, .int v0.2.2.2.2.2.2.2.2.2.2.1, .int v0.2.2.2.2.2.2.2.2.2.2.2.1, .int v0.2.2.2.2.2.2.2.2.2.2.2.2.1, .ref a4, .int v0.2.2.2.2.2.2.2.2.2.2.2.2.2.2.1, .int v0.2.2.2.2.2.2.2.2.2.2.2.2.2.2.2.1, .int v0.2.2.2.2.2.2.2.2.2.2.2.2.2.2.2.2.1, .int v0.2.2.2.2.2.2.2.2.2.2.2.2.2.2.2.2.2.1, .int v0.2.2.2.2.2.2.2.2.2.2.2.2.2.2.2.2.2.2.1, .long v0.2.2.2.2.2.2.2.2.2.2.2.2.2.2.2.2.2.2.2.1, .long v0.2.2.2.2.2.2.2.2.2.2.2.2.2.2.2.2.2.2.2.2.1, .ref a5])), (a1, .inl (ca 0, 4725, .inl ((upd y_2 ((41 : Int32)).toNatClampNeg ((y_2 ((41 : Int32)).toNatClampNeg) + x1))))), (a2, .inl (ca 2, 1500, .inl v0.2.2.1)), (a3, .inl (ca 3, 3, .inl v0.2.2.2.1)), (a4, .inl (ca 0, 22, .inl v0.2.2.2.2.2.2.2.2.2.2.2.2.2.1)), (a5, .inl (ca 0, 256, .inl v0.2.2.2.2.2.2.2.2.2.2.2.2.2.2.2.2.2.2.2.2.2))]) hx hb hK hP hD hS 1 rfl hf dX12_take_117 rfl (fun H locs hf hP hD hS => ?_)
      obtain ⟨y_3, ey_3, hf⟩ := bnd_el hf
      rw [← ey_3] at hP hD
      refine lv_iload_n hx hb dX12_take_118 rfl (lv_at hl 2 rfl) ?_
      have he := Option.some.inj hf
      obtain ⟨e_r, he⟩ := Prod.mk.inj he
      have e_v0 := he
      refine rt_I hx hb hr hlocks hK hP hD hS hQ e_r ?_ dX12_take_119
      simp only [← e_v0]
    · refine lv_aload_n hx hb dX12_take_70 rfl (lv_at hl 0 rfl) ?_
      refine va_get (C := RX12) (T := TX12) (N := 22) hx hb hts i12 hown hK hP 0 rfl rfl 1 (Nat.le_of_ble_eq_true rfl) w1 (fun _ h9 => h9) rfl dX12_take_71 ?_
      refine lv_bipush (v := 44) hx hb dX12_take_74 rfl ?_
      refine lv_iload_n hx hb dX12_take_76 rfl (lv_at hl 3 rfl) ?_
      refine lv_iadd hx hb dX12_take_77 ?_
      refine lv_iload_n hx hb dX12_take_78 rfl (lv_at hl 1 rfl) ?_
      refine lv_isub hx hb dX12_take_79 ?_
      refine lv_aload_n hx hb dX12_take_80 rfl (lv_at hl 0 rfl) ?_
      refine va_get (C := RX12) (T := TX12) (N := 22) hx hb hts i12 hown hK hP 0 rfl rfl 1 (Nat.le_of_ble_eq_true rfl) w1 (fun _ h9 => h9) rfl dX12_take_81 ?_
      refine lv_bipush (v := 44) hx hb dX12_take_84 rfl ?_
      refine lv_iload_n hx hb dX12_take_86 rfl (lv_at hl 3 rfl) ?_
      refine lv_iadd hx hb dX12_take_87 ?_
      refine xiald hx hb hK hP 1 rfl hf dX12_take_88 (fun hf => ?_)
      refine xiast (wx := [(a0, .inr (12, [.int v0.1, .ref a1, .ref a2, .ref a3, .int v0.2.2.2.2.1, .int v0.2.2.2.2.2.1, .int v0.2.2.2.2.2.2.1, .int v0.2.2.2.2.2.2.2.1, .int v0.2.2.2.2.2.2.2.2.1, .long v0.2.2.2.2.2.2.2.2.2.1, .int v0.2.2.2.2.2.2.2.2.2.2.1, .int v0.2.2.2.2.2.2.2.2.2.2.2.1, .int v0.2.2.2.2.2.2.2.2.2.2.2.2.1, .ref a4, .int v0.2.2.2.2.2.2.2.2.2.2.2.2.2.2.1, .int v0.2.2.2.2.2.2.2.2.2.2.2.2.2.2.2.1, .int v0.2.2.2.2.2.2.2.2.2.2.2.2.2.2.2.2.1, .int v0.2.2.2.2.2.2.2.2.2.2.2.2.2.2.2.2.2.1, .int v0.2.2.2.2.2.2.2.2.2.2.2.2.2.2.2.2.2.2.1, .long v0.2.2.2.2.2.2.2.2.2.2.2.2.2.2.2.2.2.2.2.1, .long v0.2.2.2.2.2.2.2.2.2.2.2.2.2.2.2.2.2.2.2.2.1, .ref a5])), (a1, .inl (ca 0, 4725, .inl ((upd v0.2.1 (((44 : Int32) + x3) - x1).toNatClampNeg (v0.2.1 ((44 : Int32) + x3).toNatClampNeg))))), (a2, .inl (ca 2, 1500, .inl v0.2.2.1)), (a3, .inl (ca 3, 3, .inl v0.2.2.2.1)), (a4, .inl (ca 0, 22, .inl v0.2.2.2.2.2.2.2.2.2.2.2.2.2.1)), (a5, .inl (ca 0, 256, .inl v0.2.2.2.2.2.2.2.2.2.2.2.2.2.2.2.2.2.2.2.2.2))]) hx hb hK hP hD hS 1 rfl hf dX12_take_89 rfl (fun H locs hf hP hD hS => ?_)
      obtain ⟨y_4, ey_4, hf⟩ := bnd_el hf
      rw [← ey_4] at hP hD
      obtain ⟨x_5, ex_5, hf⟩ := bnd_el hf
      refine lv_iinc (v := x_5) (lv' := [(3, .int x_5), (0, .ref a0), (1, .int x1), (2, .int x2)]) hx hb dX12_take_90 hl (k := 3) rfl (by rw [ex_5]; rfl) (Nat.le_of_ble_eq_true rfl) rfl (fun ls hl => ?_)
      refine lv_goto (tgt := 59) hx hb dX12_take_93 (by decide) ?_
      have jb := q59 ((v0.1, y_4, v0.2.2)) x1 x2 x_5
      dsimp only at jb
      exact jb hf _ _ _ hP hD hS (lv_sub hl [1, 2, 3, 0] rfl)
  have b59 : ∀ (n : Nat) (v0 : V12) (x1 : Int32) (x2 : Int32) (x3 : Int32), fb_X12_take_59 n v0 x1 x2 x3 = some (r, v0') → ∀ (H : Heap) (locs : List Loc) (ls : Array Slot), va_P D vwCl [(a0, .inr (12, [.int v0.1, .ref a1, .ref a2, .ref a3, .int v0.2.2.2.2.1, .int v0.2.2.2.2.2.1, .int v0.2.2.2.2.2.2.1, .int v0.2.2.2.2.2.2.2.1, .int v0.2.2.2.2.2.2.2.2.1, .long v0.2.2.2.2.2.2.2.2.2.1, .int v0.2.2.2.2.2.2.2.2.2.2.1, .int v0.2.2.2.2.2.2.2.2.2.2.2.1, .int v0.2.2.2.2.2.2.2.2.2.2.2.2.1, .ref a4, .int v0.2.2.2.2.2.2.2.2.2.2.2.2.2.2.1, .int v0.2.2.2.2.2.2.2.2.2.2.2.2.2.2.2.1, .int v0.2.2.2.2.2.2.2.2.2.2.2.2.2.2.2.2.1, .int v0.2.2.2.2.2.2.2.2.2.2.2.2.2.2.2.2.2.1, .int v0.2.2.2.2.2.2.2.2.2.2.2.2.2.2.2.2.2.2.1, .long v0.2.2.2.2.2.2.2.2.2.2.2.2.2.2.2.2.2.2.2.1, .long v0.2.2.2.2.2.2.2.2.2.2.2.2.2.2.2.2.2.2.2.2.1, .ref a5])), (a1, .inl (ca 0, 4725, .inl v0.2.1)), (a2, .inl (ca 2, 1500, .inl v0.2.2.1)), (a3, .inl (ca 3, 3, .inl v0.2.2.2.1)), (a4, .inl (ca 0, 22, .inl v0.2.2.2.2.2.2.2.2.2.2.2.2.2.1)), (a5, .inl (ca 0, 256, .inl v0.2.2.2.2.2.2.2.2.2.2.2.2.2.2.2.2.2.2.2.2.2))] H → va_D A [(a0, .inr (12, [.int v0.1, .ref a1, .ref a2, .ref a3, .int v0.2.2.2.2.1, .int v0.2.2.2.2.2.1, .int v0.2.2.2.2.2.2.1, .int v0.2.2.2.2.2.2.2.1, .int v0.2.2.2.2.2.2.2.2.1, .long v0.2.2.2.2.2.2.2.2.2.1, .int v0.2.2.2.2.2.2.2.2.2.2.1, .int v0.2.2.2.2.2.2.2.2.2.2.2.1, .int v0.2.2.2.2.2.2.2.2.2.2.2.2.1, .ref a4, .int v0.2.2.2.2.2.2.2.2.2.2.2.2.2.2.1, .int v0.2.2.2.2.2.2.2.2.2.2.2.2.2.2.2.1, .int v0.2.2.2.2.2.2.2.2.2.2.2.2.2.2.2.2.1, .int v0.2.2.2.2.2.2.2.2.2.2.2.2.2.2.2.2.2.1, .int v0.2.2.2.2.2.2.2.2.2.2.2.2.2.2.2.2.2.2.1, .long v0.2.2.2.2.2.2.2.2.2.2.2.2.2.2.2.2.2.2.2.1, .long v0.2.2.2.2.2.2.2.2.2.2.2.2.2.2.2.2.2.2.2.2.1, .ref a5])), (a1, .inl (ca 0, 4725, .inl v0.2.1)), (a2, .inl (ca 2, 1500, .inl v0.2.2.1)), (a3, .inl (ca 3, 3, .inl v0.2.2.2.1)), (a4, .inl (ca 0, 22, .inl v0.2.2.2.2.2.2.2.2.2.2.2.2.2.1)), (a5, .inl (ca 0, 256, .inl v0.2.2.2.2.2.2.2.2.2.2.2.2.2.2.2.2.2.2.2.2.2))] → va_S A s.heap H locs → lv_has ls 4 [(0, .ref a0), (1, .int x1), (2, .int x2), (3, .int x3)] → W p l e ({ frames := 1, cells := 0, slots := 0, locals := 22 } : Room) s m args below meth c H locs 0 0 Q (F0 m 59 ls []) := by
    intro n
    induction n with
    | zero => intro v0 x1 x2 x3 hf; exact no_el hf
    | succ n ih => exact bl59 (fb_X12_take_59 n) ih
  have bl32 : ∀ (k32 : V12 → Int32 → Int32 → Int32 → Option (Int32 × V12)) (q32 : ∀ (v0 : V12) (x1 : Int32) (x2 : Int32) (x3 : Int32), k32 v0 x1 x2 x3 = some (r, v0') → ∀ (H : Heap) (locs : List Loc) (ls : Array Slot), va_P D vwCl [(a0, .inr (12, [.int v0.1, .ref a1, .ref a2, .ref a3, .int v0.2.2.2.2.1, .int v0.2.2.2.2.2.1, .int v0.2.2.2.2.2.2.1, .int v0.2.2.2.2.2.2.2.1, .int v0.2.2.2.2.2.2.2.2.1, .long v0.2.2.2.2.2.2.2.2.2.1, .int v0.2.2.2.2.2.2.2.2.2.2.1, .int v0.2.2.2.2.2.2.2.2.2.2.2.1, .int v0.2.2.2.2.2.2.2.2.2.2.2.2.1, .ref a4, .int v0.2.2.2.2.2.2.2.2.2.2.2.2.2.2.1, .int v0.2.2.2.2.2.2.2.2.2.2.2.2.2.2.2.1, .int v0.2.2.2.2.2.2.2.2.2.2.2.2.2.2.2.2.1, .int v0.2.2.2.2.2.2.2.2.2.2.2.2.2.2.2.2.2.1, .int v0.2.2.2.2.2.2.2.2.2.2.2.2.2.2.2.2.2.2.1, .long v0.2.2.2.2.2.2.2.2.2.2.2.2.2.2.2.2.2.2.2.1, .long v0.2.2.2.2.2.2.2.2.2.2.2.2.2.2.2.2.2.2.2.2.1, .ref a5])), (a1, .inl (ca 0, 4725, .inl v0.2.1)), (a2, .inl (ca 2, 1500, .inl v0.2.2.1)), (a3, .inl (ca 3, 3, .inl v0.2.2.2.1)), (a4, .inl (ca 0, 22, .inl v0.2.2.2.2.2.2.2.2.2.2.2.2.2.1)), (a5, .inl (ca 0, 256, .inl v0.2.2.2.2.2.2.2.2.2.2.2.2.2.2.2.2.2.2.2.2.2))] H → va_D A [(a0, .inr (12, [.int v0.1, .ref a1, .ref a2, .ref a3, .int v0.2.2.2.2.1, .int v0.2.2.2.2.2.1, .int v0.2.2.2.2.2.2.1, .int v0.2.2.2.2.2.2.2.1, .int v0.2.2.2.2.2.2.2.2.1, .long v0.2.2.2.2.2.2.2.2.2.1, .int v0.2.2.2.2.2.2.2.2.2.2.1, .int v0.2.2.2.2.2.2.2.2.2.2.2.1, .int v0.2.2.2.2.2.2.2.2.2.2.2.2.1, .ref a4, .int v0.2.2.2.2.2.2.2.2.2.2.2.2.2.2.1, .int v0.2.2.2.2.2.2.2.2.2.2.2.2.2.2.2.1, .int v0.2.2.2.2.2.2.2.2.2.2.2.2.2.2.2.2.1, .int v0.2.2.2.2.2.2.2.2.2.2.2.2.2.2.2.2.2.1, .int v0.2.2.2.2.2.2.2.2.2.2.2.2.2.2.2.2.2.2.1, .long v0.2.2.2.2.2.2.2.2.2.2.2.2.2.2.2.2.2.2.2.1, .long v0.2.2.2.2.2.2.2.2.2.2.2.2.2.2.2.2.2.2.2.2.1, .ref a5])), (a1, .inl (ca 0, 4725, .inl v0.2.1)), (a2, .inl (ca 2, 1500, .inl v0.2.2.1)), (a3, .inl (ca 3, 3, .inl v0.2.2.2.1)), (a4, .inl (ca 0, 22, .inl v0.2.2.2.2.2.2.2.2.2.2.2.2.2.1)), (a5, .inl (ca 0, 256, .inl v0.2.2.2.2.2.2.2.2.2.2.2.2.2.2.2.2.2.2.2.2.2))] → va_S A s.heap H locs → lv_has ls 4 [(0, .ref a0), (1, .int x1), (2, .int x2), (3, .int x3)] → W p l e ({ frames := 1, cells := 0, slots := 0, locals := 22 } : Room) s m args below meth c H locs 0 0 Q (F0 m 32 ls [])) (v0 : V12) (x1 : Int32) (x2 : Int32) (x3 : Int32), fl_X12_take_32 k32 v0 x1 x2 x3 = some (r, v0') → ∀ (H : Heap) (locs : List Loc) (ls : Array Slot), va_P D vwCl [(a0, .inr (12, [.int v0.1, .ref a1, .ref a2, .ref a3, .int v0.2.2.2.2.1, .int v0.2.2.2.2.2.1, .int v0.2.2.2.2.2.2.1, .int v0.2.2.2.2.2.2.2.1, .int v0.2.2.2.2.2.2.2.2.1, .long v0.2.2.2.2.2.2.2.2.2.1, .int v0.2.2.2.2.2.2.2.2.2.2.1, .int v0.2.2.2.2.2.2.2.2.2.2.2.1, .int v0.2.2.2.2.2.2.2.2.2.2.2.2.1, .ref a4, .int v0.2.2.2.2.2.2.2.2.2.2.2.2.2.2.1, .int v0.2.2.2.2.2.2.2.2.2.2.2.2.2.2.2.1, .int v0.2.2.2.2.2.2.2.2.2.2.2.2.2.2.2.2.1, .int v0.2.2.2.2.2.2.2.2.2.2.2.2.2.2.2.2.2.1, .int v0.2.2.2.2.2.2.2.2.2.2.2.2.2.2.2.2.2.2.1, .long v0.2.2.2.2.2.2.2.2.2.2.2.2.2.2.2.2.2.2.2.1, .long v0.2.2.2.2.2.2.2.2.2.2.2.2.2.2.2.2.2.2.2.2.1, .ref a5])), (a1, .inl (ca 0, 4725, .inl v0.2.1)), (a2, .inl (ca 2, 1500, .inl v0.2.2.1)), (a3, .inl (ca 3, 3, .inl v0.2.2.2.1)), (a4, .inl (ca 0, 22, .inl v0.2.2.2.2.2.2.2.2.2.2.2.2.2.1)), (a5, .inl (ca 0, 256, .inl v0.2.2.2.2.2.2.2.2.2.2.2.2.2.2.2.2.2.2.2.2.2))] H → va_D A [(a0, .inr (12, [.int v0.1, .ref a1, .ref a2, .ref a3, .int v0.2.2.2.2.1, .int v0.2.2.2.2.2.1, .int v0.2.2.2.2.2.2.1, .int v0.2.2.2.2.2.2.2.1, .int v0.2.2.2.2.2.2.2.2.1, .long v0.2.2.2.2.2.2.2.2.2.1, .int v0.2.2.2.2.2.2.2.2.2.2.1, .int v0.2.2.2.2.2.2.2.2.2.2.2.1, .int v0.2.2.2.2.2.2.2.2.2.2.2.2.1, .ref a4, .int v0.2.2.2.2.2.2.2.2.2.2.2.2.2.2.1, .int v0.2.2.2.2.2.2.2.2.2.2.2.2.2.2.2.1, .int v0.2.2.2.2.2.2.2.2.2.2.2.2.2.2.2.2.1, .int v0.2.2.2.2.2.2.2.2.2.2.2.2.2.2.2.2.2.1, .int v0.2.2.2.2.2.2.2.2.2.2.2.2.2.2.2.2.2.2.1, .long v0.2.2.2.2.2.2.2.2.2.2.2.2.2.2.2.2.2.2.2.1, .long v0.2.2.2.2.2.2.2.2.2.2.2.2.2.2.2.2.2.2.2.2.1, .ref a5])), (a1, .inl (ca 0, 4725, .inl v0.2.1)), (a2, .inl (ca 2, 1500, .inl v0.2.2.1)), (a3, .inl (ca 3, 3, .inl v0.2.2.2.1)), (a4, .inl (ca 0, 22, .inl v0.2.2.2.2.2.2.2.2.2.2.2.2.2.1)), (a5, .inl (ca 0, 256, .inl v0.2.2.2.2.2.2.2.2.2.2.2.2.2.2.2.2.2.2.2.2.2))] → va_S A s.heap H locs → lv_has ls 4 [(0, .ref a0), (1, .int x1), (2, .int x2), (3, .int x3)] → W p l e ({ frames := 1, cells := 0, slots := 0, locals := 22 } : Room) s m args below meth c H locs 0 0 Q (F0 m 32 ls []) := by
    intro k32 q32 v0 x1 x2 x3 hf H locs ls hP hD hS hl
    unfold fl_X12_take_32 at hf
    refine lv_iload_n hx hb dX12_take_32 rfl (lv_at hl 3 rfl) ?_
    refine lv_iload_n hx hb dX12_take_33 rfl (lv_at hl 1 rfl) ?_
    refine xc_ge (tgt := 57) hx hb dX12_take_34 (by decide) hf (fun hf => ?_) (fun hf => ?_)
    · refine lv_iload_n hx hb dX12_take_57 rfl (lv_at hl 1 rfl) ?_
      refine lv_istore_n (lv' := [(3, .int x1), (0, .ref a0), (1, .int x1), (2, .int x2)]) hx hb dX12_take_58 rfl hl (Nat.le_of_ble_eq_true rfl) rfl (fun ls hl => ?_)
      exact b59 FU v0 x1 x2 x1 hf _ _ _ hP hD hS (lv_sub hl [1, 2, 3, 0] rfl)
    · refine lv_iload_n hx hb dX12_take_37 rfl (lv_at hl 2 rfl) ?_
      refine lv_iconst (v := 1) hx hb dX12_take_38 rfl ?_
      refine lv_ishl hx hb dX12_take_39 ?_
      refine lv_aload_n hx hb dX12_take_40 rfl (lv_at hl 0 rfl) ?_
      refine va_get (C := RX12) (T := TX12) (N := 22) hx hb hts i12 hown hK hP 0 rfl rfl 1 (Nat.le_of_ble_eq_true rfl) w1 (fun _ h9 => h9) rfl dX12_take_41 ?_
      refine lv_bipush (v := 44) hx hb dX12_take_44 rfl ?_
      refine lv_iload_n hx hb dX12_take_46 rfl (lv_at hl 3 rfl) ?_
      refine lv_iadd hx hb dX12_take_47 ?_
      refine xiald hx hb hK hP 1 rfl hf dX12_take_48 (fun hf => ?_)
      refine lv_ior hx hb dX12_take_49 ?_
      refine xnm hf (fun x_6 hf => ?_)
      refine lv_istore_n (lv' := [(2, .int x_6), (0, .ref a0), (1, .int x1), (3, .int x3)]) hx hb dX12_take_50 rfl hl (Nat.le_of_ble_eq_true rfl) rfl (fun ls hl => ?_)
      obtain ⟨x_7, ex_7, hf⟩ := bnd_el hf
      refine lv_iinc (v := x_7) (lv' := [(3, .int x_7), (2, .int x_6), (0, .ref a0), (1, .int x1)]) hx hb dX12_take_51 hl (k := 3) rfl (by rw [ex_7]; rfl) (Nat.le_of_ble_eq_true rfl) rfl (fun ls hl => ?_)
      refine lv_goto (tgt := 32) hx hb dX12_take_54 (by decide) ?_
      exact q32 v0 x1 x_6 x_7 hf _ _ _ hP hD hS (lv_sub hl [2, 3, 1, 0] rfl)
  have b32 : ∀ (n : Nat) (v0 : V12) (x1 : Int32) (x2 : Int32) (x3 : Int32), fb_X12_take_32 n v0 x1 x2 x3 = some (r, v0') → ∀ (H : Heap) (locs : List Loc) (ls : Array Slot), va_P D vwCl [(a0, .inr (12, [.int v0.1, .ref a1, .ref a2, .ref a3, .int v0.2.2.2.2.1, .int v0.2.2.2.2.2.1, .int v0.2.2.2.2.2.2.1, .int v0.2.2.2.2.2.2.2.1, .int v0.2.2.2.2.2.2.2.2.1, .long v0.2.2.2.2.2.2.2.2.2.1, .int v0.2.2.2.2.2.2.2.2.2.2.1, .int v0.2.2.2.2.2.2.2.2.2.2.2.1, .int v0.2.2.2.2.2.2.2.2.2.2.2.2.1, .ref a4, .int v0.2.2.2.2.2.2.2.2.2.2.2.2.2.2.1, .int v0.2.2.2.2.2.2.2.2.2.2.2.2.2.2.2.1, .int v0.2.2.2.2.2.2.2.2.2.2.2.2.2.2.2.2.1, .int v0.2.2.2.2.2.2.2.2.2.2.2.2.2.2.2.2.2.1, .int v0.2.2.2.2.2.2.2.2.2.2.2.2.2.2.2.2.2.2.1, .long v0.2.2.2.2.2.2.2.2.2.2.2.2.2.2.2.2.2.2.2.1, .long v0.2.2.2.2.2.2.2.2.2.2.2.2.2.2.2.2.2.2.2.2.1, .ref a5])), (a1, .inl (ca 0, 4725, .inl v0.2.1)), (a2, .inl (ca 2, 1500, .inl v0.2.2.1)), (a3, .inl (ca 3, 3, .inl v0.2.2.2.1)), (a4, .inl (ca 0, 22, .inl v0.2.2.2.2.2.2.2.2.2.2.2.2.2.1)), (a5, .inl (ca 0, 256, .inl v0.2.2.2.2.2.2.2.2.2.2.2.2.2.2.2.2.2.2.2.2.2))] H → va_D A [(a0, .inr (12, [.int v0.1, .ref a1, .ref a2, .ref a3, .int v0.2.2.2.2.1, .int v0.2.2.2.2.2.1, .int v0.2.2.2.2.2.2.1, .int v0.2.2.2.2.2.2.2.1, .int v0.2.2.2.2.2.2.2.2.1, .long v0.2.2.2.2.2.2.2.2.2.1, .int v0.2.2.2.2.2.2.2.2.2.2.1, .int v0.2.2.2.2.2.2.2.2.2.2.2.1, .int v0.2.2.2.2.2.2.2.2.2.2.2.2.1, .ref a4, .int v0.2.2.2.2.2.2.2.2.2.2.2.2.2.2.1, .int v0.2.2.2.2.2.2.2.2.2.2.2.2.2.2.2.1, .int v0.2.2.2.2.2.2.2.2.2.2.2.2.2.2.2.2.1, .int v0.2.2.2.2.2.2.2.2.2.2.2.2.2.2.2.2.2.1, .int v0.2.2.2.2.2.2.2.2.2.2.2.2.2.2.2.2.2.2.1, .long v0.2.2.2.2.2.2.2.2.2.2.2.2.2.2.2.2.2.2.2.1, .long v0.2.2.2.2.2.2.2.2.2.2.2.2.2.2.2.2.2.2.2.2.1, .ref a5])), (a1, .inl (ca 0, 4725, .inl v0.2.1)), (a2, .inl (ca 2, 1500, .inl v0.2.2.1)), (a3, .inl (ca 3, 3, .inl v0.2.2.2.1)), (a4, .inl (ca 0, 22, .inl v0.2.2.2.2.2.2.2.2.2.2.2.2.2.1)), (a5, .inl (ca 0, 256, .inl v0.2.2.2.2.2.2.2.2.2.2.2.2.2.2.2.2.2.2.2.2.2))] → va_S A s.heap H locs → lv_has ls 4 [(0, .ref a0), (1, .int x1), (2, .int x2), (3, .int x3)] → W p l e ({ frames := 1, cells := 0, slots := 0, locals := 22 } : Room) s m args below meth c H locs 0 0 Q (F0 m 32 ls []) := by
    intro n
    induction n with
    | zero => intro v0 x1 x2 x3 hf; exact no_el hf
    | succ n ih => exact bl32 (fb_X12_take_32 n) ih
  unfold f_X12_take at hf
  refine lv_aload_n hx hb dX12_take_0 rfl (lv_at hl 0 rfl) ?_
  refine lv_iconst (v := 0) hx hb dX12_take_1 rfl ?_
  refine xput (C := RX12) (T := TX12) (N := 22) (wx := [(a0, .inr (12, [.int (0 : Int32), .ref a1, .ref a2, .ref a3, .int v0.2.2.2.2.1, .int v0.2.2.2.2.2.1, .int v0.2.2.2.2.2.2.1, .int v0.2.2.2.2.2.2.2.1, .int v0.2.2.2.2.2.2.2.2.1, .long v0.2.2.2.2.2.2.2.2.2.1, .int v0.2.2.2.2.2.2.2.2.2.2.1, .int v0.2.2.2.2.2.2.2.2.2.2.2.1, .int v0.2.2.2.2.2.2.2.2.2.2.2.2.1, .ref a4, .int v0.2.2.2.2.2.2.2.2.2.2.2.2.2.2.1, .int v0.2.2.2.2.2.2.2.2.2.2.2.2.2.2.2.1, .int v0.2.2.2.2.2.2.2.2.2.2.2.2.2.2.2.2.1, .int v0.2.2.2.2.2.2.2.2.2.2.2.2.2.2.2.2.2.1, .int v0.2.2.2.2.2.2.2.2.2.2.2.2.2.2.2.2.2.2.1, .long v0.2.2.2.2.2.2.2.2.2.2.2.2.2.2.2.2.2.2.2.1, .long v0.2.2.2.2.2.2.2.2.2.2.2.2.2.2.2.2.2.2.2.2.1, .ref a5])), (a1, .inl (ca 0, 4725, .inl v0.2.1)), (a2, .inl (ca 2, 1500, .inl v0.2.2.1)), (a3, .inl (ca 3, 3, .inl v0.2.2.2.1)), (a4, .inl (ca 0, 22, .inl v0.2.2.2.2.2.2.2.2.2.2.2.2.2.1)), (a5, .inl (ca 0, 256, .inl v0.2.2.2.2.2.2.2.2.2.2.2.2.2.2.2.2.2.2.2.2.2))]) hx hb hts i12 tyX12 tyX12_ok nmX12 hown hK hP hD hS 0 rfl rfl 0 (Nat.le_of_ble_eq_true rfl) w0 (fun _ h9 => h9) rfl rfl rfl rfl (Nat.le_of_ble_eq_true rfl) dX12_take_2 rfl (fun H locs hP hD hS => ?_)
  refine lv_iload_n hx hb dX12_take_5 rfl (lv_at hl 1 rfl) ?_
  refine lv_iconst (v := 1) hx hb dX12_take_6 rfl ?_
  refine lv_bipush (v := 30) hx hb dX12_take_7 rfl ?_
  obtain ⟨r_1, hc1, hf⟩ := bnd1_el hf
  refine xS_I (As := [.int p1, .int (1 : Int32), .int (30 : Int32)]) (wx := [(a0, .inr (12, [.int (0 : Int32), .ref a1, .ref a2, .ref a3, .int v0.2.2.2.2.1, .int v0.2.2.2.2.2.1, .int v0.2.2.2.2.2.2.1, .int v0.2.2.2.2.2.2.2.1, .int v0.2.2.2.2.2.2.2.2.1, .long v0.2.2.2.2.2.2.2.2.2.1, .int v0.2.2.2.2.2.2.2.2.2.2.1, .int v0.2.2.2.2.2.2.2.2.2.2.2.1, .int v0.2.2.2.2.2.2.2.2.2.2.2.2.1, .ref a4, .int v0.2.2.2.2.2.2.2.2.2.2.2.2.2.2.1, .int v0.2.2.2.2.2.2.2.2.2.2.2.2.2.2.2.1, .int v0.2.2.2.2.2.2.2.2.2.2.2.2.2.2.2.2.1, .int v0.2.2.2.2.2.2.2.2.2.2.2.2.2.2.2.2.2.1, .int v0.2.2.2.2.2.2.2.2.2.2.2.2.2.2.2.2.2.2.1, .long v0.2.2.2.2.2.2.2.2.2.2.2.2.2.2.2.2.2.2.2.1, .long v0.2.2.2.2.2.2.2.2.2.2.2.2.2.2.2.2.2.2.2.2.1, .ref a5])), (a1, .inl (ca 0, 4725, .inl v0.2.1)), (a2, .inl (ca 2, 1500, .inl v0.2.2.1)), (a3, .inl (ca 3, 3, .inl v0.2.2.2.1)), (a4, .inl (ca 0, 22, .inl v0.2.2.2.2.2.2.2.2.2.2.2.2.2.1)), (a5, .inl (ca 0, 256, .inl v0.2.2.2.2.2.2.2.2.2.2.2.2.2.2.2.2.2.2.2.2.2))]) ⟨hx, hb, hml, hown, hts⟩ (c_X12_in l D ca zz  _ p1 (1 : Int32) (30 : Int32) r_1 hc1) (va_cwS 3 hts (gS gw_5_200 gw_5_201 gw_1_15 gw_5_202) rfl rfl rfl (by decide +kernel) ⟨(Nat.le_of_ble_eq_true rfl), (Nat.le_of_ble_eq_true rfl)⟩) hK hN hZ hA hP hD hS [] [none, none, none, none, none, none] (by decide +kernel) rfl rfl rfl rfl hl.1 rfl (Nat.le_of_ble_eq_true rfl) dX12_take_9 ⟨Nat.zero_le _, Nat.zero_le _⟩ rfl (fun H locs hP hD hS => ?_)
  refine xi_eq (tgt := 26) hx hb dX12_take_12 (by decide) hf (fun hf => ?_) (fun hf => ?_)
  · refine lv_iconst (v := -1) hx hb dX12_take_26 rfl ?_
    have he := Option.some.inj hf
    obtain ⟨e_r, he⟩ := Prod.mk.inj he
    have e_v0 := he
    refine rt_I hx hb hr hlocks hK hP hD hS hQ e_r ?_ dX12_take_27
    simp only [← e_v0]
  · refine lv_aload_n hx hb dX12_take_15 rfl (lv_at hl 0 rfl) ?_
    refine va_get (C := RX12) (T := TX12) (N := 22) hx hb hts i12 hown hK hP 0 rfl rfl 1 (Nat.le_of_ble_eq_true rfl) w1 (fun _ h9 => h9) rfl dX12_take_16 ?_
    refine lv_bipush (v := 43) hx hb dX12_take_19 rfl ?_
    refine xiald hx hb hK hP 1 rfl hf dX12_take_21 (fun hf => ?_)
    refine lv_iload_n hx hb dX12_take_22 rfl (lv_at hl 1 rfl) ?_
    refine xc_ge (tgt := 28) hx hb dX12_take_23 (by decide) hf (fun hf => ?_) (fun hf => ?_)
    · refine lv_iconst (v := 0) hx hb dX12_take_28 rfl ?_
      refine lv_istore_n (lv' := [(2, .int (0 : Int32)), (0, .ref a0), (1, .int p1)]) hx hb dX12_take_29 rfl hl (Nat.le_of_ble_eq_true rfl) rfl (fun ls hl => ?_)
      refine lv_iconst (v := 0) hx hb dX12_take_30 rfl ?_
      refine lv_istore_n (lv' := [(3, .int (0 : Int32)), (2, .int (0 : Int32)), (0, .ref a0), (1, .int p1)]) hx hb dX12_take_31 rfl hl (Nat.le_of_ble_eq_true rfl) rfl (fun ls hl => ?_)
      have jb := b32 FU (((0 : Int32), v0.2)) p1 (0 : Int32) (0 : Int32)
      dsimp only at jb
      exact jb hf _ _ _ hP hD hS (lv_sub hl [2, 3, 1, 0] rfl)
    · refine lv_iconst (v := -1) hx hb dX12_take_26 rfl ?_
      have he := Option.some.inj hf
      obtain ⟨e_r, he⟩ := Prod.mk.inj he
      have e_v0 := he
      refine rt_I hx hb hr hlocks hK hP hD hS hQ e_r ?_ dX12_take_27
      simp only [← e_v0]
abbrev wq_X12_counted : List Cond := Cond.code yX12_counted cX12_counted 2 (some .int) :: GL
set_option maxHeartbeats 4000000 in
set_option maxRecDepth 100000 in
theorem c_X12_counted (l : Launch) (D : va_G) (ca : Nat → ClassId) (zz : Nat → Nat) (a0 a1 a2 a3 a4 a5 : Nat) (sz : Nat) (v0 : V12) (p1 : Int32) (r : Int32) (hf : f_X12_counted v0 p1 = some r) : Met l yX12_counted wq_X12_counted ({ frames := 0, cells := 0, slots := 0, locals := 0 } : Room) (PR D ca zz [.ref a0, .int p1] sz [(a0, .inr (12, [.int v0.1, .ref a1, .ref a2, .ref a3, .int v0.2.2.2.2.1, .int v0.2.2.2.2.2.1, .int v0.2.2.2.2.2.2.1, .int v0.2.2.2.2.2.2.2.1, .int v0.2.2.2.2.2.2.2.2.1, .long v0.2.2.2.2.2.2.2.2.2.1, .int v0.2.2.2.2.2.2.2.2.2.2.1, .int v0.2.2.2.2.2.2.2.2.2.2.2.1, .int v0.2.2.2.2.2.2.2.2.2.2.2.2.1, .ref a4, .int v0.2.2.2.2.2.2.2.2.2.2.2.2.2.2.1, .int v0.2.2.2.2.2.2.2.2.2.2.2.2.2.2.2.1, .int v0.2.2.2.2.2.2.2.2.2.2.2.2.2.2.2.2.1, .int v0.2.2.2.2.2.2.2.2.2.2.2.2.2.2.2.2.2.1, .int v0.2.2.2.2.2.2.2.2.2.2.2.2.2.2.2.2.2.2.1, .long v0.2.2.2.2.2.2.2.2.2.2.2.2.2.2.2.2.2.2.2.1, .long v0.2.2.2.2.2.2.2.2.2.2.2.2.2.2.2.2.2.2.2.2.1, .ref a5])), (a1, .inl (ca 0, 4725, .inl v0.2.1))]) (QI D ca r [(a0, .inr (12, [.int v0.1, .ref a1, .ref a2, .ref a3, .int v0.2.2.2.2.1, .int v0.2.2.2.2.2.1, .int v0.2.2.2.2.2.2.1, .int v0.2.2.2.2.2.2.2.1, .int v0.2.2.2.2.2.2.2.2.1, .long v0.2.2.2.2.2.2.2.2.2.1, .int v0.2.2.2.2.2.2.2.2.2.2.1, .int v0.2.2.2.2.2.2.2.2.2.2.2.1, .int v0.2.2.2.2.2.2.2.2.2.2.2.2.1, .ref a4, .int v0.2.2.2.2.2.2.2.2.2.2.2.2.2.2.1, .int v0.2.2.2.2.2.2.2.2.2.2.2.2.2.2.2.1, .int v0.2.2.2.2.2.2.2.2.2.2.2.2.2.2.2.2.1, .int v0.2.2.2.2.2.2.2.2.2.2.2.2.2.2.2.2.2.1, .int v0.2.2.2.2.2.2.2.2.2.2.2.2.2.2.2.2.2.2.1, .long v0.2.2.2.2.2.2.2.2.2.2.2.2.2.2.2.2.2.2.2.1, .long v0.2.2.2.2.2.2.2.2.2.2.2.2.2.2.2.2.2.2.2.2.1, .ref a5])), (a1, .inl (ca 0, 4725, .inl v0.2.1))] (va_A [(a0, .inr (12, [.int v0.1, .ref a1, .ref a2, .ref a3, .int v0.2.2.2.2.1, .int v0.2.2.2.2.2.1, .int v0.2.2.2.2.2.2.1, .int v0.2.2.2.2.2.2.2.1, .int v0.2.2.2.2.2.2.2.2.1, .long v0.2.2.2.2.2.2.2.2.2.1, .int v0.2.2.2.2.2.2.2.2.2.2.1, .int v0.2.2.2.2.2.2.2.2.2.2.2.1, .int v0.2.2.2.2.2.2.2.2.2.2.2.2.1, .ref a4, .int v0.2.2.2.2.2.2.2.2.2.2.2.2.2.2.1, .int v0.2.2.2.2.2.2.2.2.2.2.2.2.2.2.2.1, .int v0.2.2.2.2.2.2.2.2.2.2.2.2.2.2.2.2.1, .int v0.2.2.2.2.2.2.2.2.2.2.2.2.2.2.2.2.2.1, .int v0.2.2.2.2.2.2.2.2.2.2.2.2.2.2.2.2.2.2.1, .long v0.2.2.2.2.2.2.2.2.2.2.2.2.2.2.2.2.2.2.2.1, .long v0.2.2.2.2.2.2.2.2.2.2.2.2.2.2.2.2.2.2.2.2.1, .ref a5])), (a1, .inl (ca 0, 4725, .inl v0.2.1))] sz)) 0 0 (va_A [(a0, .inr (12, [.int v0.1, .ref a1, .ref a2, .ref a3, .int v0.2.2.2.2.1, .int v0.2.2.2.2.2.1, .int v0.2.2.2.2.2.2.1, .int v0.2.2.2.2.2.2.2.1, .int v0.2.2.2.2.2.2.2.2.1, .long v0.2.2.2.2.2.2.2.2.2.1, .int v0.2.2.2.2.2.2.2.2.2.2.1, .int v0.2.2.2.2.2.2.2.2.2.2.2.1, .int v0.2.2.2.2.2.2.2.2.2.2.2.2.1, .ref a4, .int v0.2.2.2.2.2.2.2.2.2.2.2.2.2.2.1, .int v0.2.2.2.2.2.2.2.2.2.2.2.2.2.2.2.1, .int v0.2.2.2.2.2.2.2.2.2.2.2.2.2.2.2.2.1, .int v0.2.2.2.2.2.2.2.2.2.2.2.2.2.2.2.2.2.1, .int v0.2.2.2.2.2.2.2.2.2.2.2.2.2.2.2.2.2.2.1, .long v0.2.2.2.2.2.2.2.2.2.2.2.2.2.2.2.2.2.2.2.1, .long v0.2.2.2.2.2.2.2.2.2.2.2.2.2.2.2.2.2.2.2.2.1, .ref a5])), (a1, .inl (ca 0, 4725, .inl v0.2.1))] sz) := by
  refine en (y := yX12_counted) (wsm := wq_X12_counted) (av := [.ref a0, .int p1]) (cc := cX12_counted) (maxL := 2) (ret := (some .int)) (Qf := fun A => (QI D ca r [(a0, .inr (12, [.int v0.1, .ref a1, .ref a2, .ref a3, .int v0.2.2.2.2.1, .int v0.2.2.2.2.2.1, .int v0.2.2.2.2.2.2.1, .int v0.2.2.2.2.2.2.2.1, .int v0.2.2.2.2.2.2.2.2.1, .long v0.2.2.2.2.2.2.2.2.2.1, .int v0.2.2.2.2.2.2.2.2.2.2.1, .int v0.2.2.2.2.2.2.2.2.2.2.2.1, .int v0.2.2.2.2.2.2.2.2.2.2.2.2.1, .ref a4, .int v0.2.2.2.2.2.2.2.2.2.2.2.2.2.2.1, .int v0.2.2.2.2.2.2.2.2.2.2.2.2.2.2.2.1, .int v0.2.2.2.2.2.2.2.2.2.2.2.2.2.2.2.2.1, .int v0.2.2.2.2.2.2.2.2.2.2.2.2.2.2.2.2.2.1, .int v0.2.2.2.2.2.2.2.2.2.2.2.2.2.2.2.2.2.2.1, .long v0.2.2.2.2.2.2.2.2.2.2.2.2.2.2.2.2.2.2.2.1, .long v0.2.2.2.2.2.2.2.2.2.2.2.2.2.2.2.2.2.2.2.2.1, .ref a5])), (a1, .inl (ca 0, 4725, .inl v0.2.1))] A)) (by decide) rfl (Nat.le_of_ble_eq_true rfl) ?_
  intro p e s m args below meth c A Q ls hx hb hr hml hown hts hlocks hnm hA hN hZ hK hQ hP hD hS hl
  have w0 := hts _ (List.mem_cons_of_mem _ gw_5_116)
  have i12 : ∀ w ∈ u_ws RX12 TX12 22, w ∈ wq_X12_counted := fun w h => List.mem_cons_of_mem _ (inX12 w h)
  unfold f_X12_counted at hf
  refine lv_iload_n hx hb dX12_counted_0 rfl (lv_at hl 1 rfl) ?_
  by_cases hcs : p1 < (8 : Int32) ∨ (28 : Int32) < p1
  · have hf := ite_t hcs hf
    refine xtabO (tgt := 230) hx hb dX12_counted_1 (a := 8) (b := 28) rfl rfl hcs (by decide) ?_
    refine lv_aload_n hx hb dX12_counted_230 rfl (lv_at hl 0 rfl) ?_
    refine va_get (C := RX12) (T := TX12) (N := 22) hx hb hts i12 hown hK hP 0 rfl rfl 1 (Nat.le_of_ble_eq_true rfl) w0 (fun _ h9 => h9) rfl dX12_counted_231 ?_
    refine lv_iload_n hx hb dX12_counted_234 rfl (lv_at hl 1 rfl) ?_
    refine xiald hx hb hK hP 1 rfl hf dX12_counted_235 (fun hf => ?_)
    have he := Option.some.inj hf
    have e_r := he
    refine rt_I hx hb hr hlocks hK hP hD hS hQ e_r ?_ dX12_counted_236
    rfl
  · have hf := ite_f hcs hf
    by_cases hc0 : p1 = (8 : Int32)
    · have hf := ite_t hc0 hf
      refine xtabK (tgt := 100) hx hb dX12_counted_1 hc0 (by decide) (by decide) rfl (by decide) ?_
      refine lv_aload_n hx hb dX12_counted_100 rfl (lv_at hl 0 rfl) ?_
      refine va_get (C := RX12) (T := TX12) (N := 22) hx hb hts i12 hown hK hP 0 rfl rfl 1 (Nat.le_of_ble_eq_true rfl) w0 (fun _ h9 => h9) rfl dX12_counted_101 ?_
      refine lv_bipush (v := 9) hx hb dX12_counted_104 rfl ?_
      refine xiald hx hb hK hP 1 rfl hf dX12_counted_106 (fun hf => ?_)
      have he := Option.some.inj hf
      have e_r := he
      refine rt_I hx hb hr hlocks hK hP hD hS hQ e_r ?_ dX12_counted_107
      rfl
    have hf := ite_f hc0 hf
    by_cases hc1 : p1 = (9 : Int32)
    · have hf := ite_t hc1 hf
      refine xtabK (tgt := 108) hx hb dX12_counted_1 hc1 (by decide) (by decide) rfl (by decide) ?_
      refine lv_aload_n hx hb dX12_counted_108 rfl (lv_at hl 0 rfl) ?_
      refine va_get (C := RX12) (T := TX12) (N := 22) hx hb hts i12 hown hK hP 0 rfl rfl 1 (Nat.le_of_ble_eq_true rfl) w0 (fun _ h9 => h9) rfl dX12_counted_109 ?_
      refine lv_bipush (v := 25) hx hb dX12_counted_112 rfl ?_
      refine xiald hx hb hK hP 1 rfl hf dX12_counted_114 (fun hf => ?_)
      have he := Option.some.inj hf
      have e_r := he
      refine rt_I hx hb hr hlocks hK hP hD hS hQ e_r ?_ dX12_counted_115
      rfl
    have hf := ite_f hc1 hf
    by_cases hc2 : p1 = (10 : Int32)
    · have hf := ite_t hc2 hf
      refine xtabK (tgt := 116) hx hb dX12_counted_1 hc2 (by decide) (by decide) rfl (by decide) ?_
      refine lv_aload_n hx hb dX12_counted_116 rfl (lv_at hl 0 rfl) ?_
      refine va_get (C := RX12) (T := TX12) (N := 22) hx hb hts i12 hown hK hP 0 rfl rfl 1 (Nat.le_of_ble_eq_true rfl) w0 (fun _ h9 => h9) rfl dX12_counted_117 ?_
      refine lv_bipush (v := 26) hx hb dX12_counted_120 rfl ?_
      refine xiald hx hb hK hP 1 rfl hf dX12_counted_122 (fun hf => ?_)
      have he := Option.some.inj hf
      have e_r := he
      refine rt_I hx hb hr hlocks hK hP hD hS hQ e_r ?_ dX12_counted_123
      rfl
    have hf := ite_f hc2 hf
    by_cases hc3 : p1 = (11 : Int32)
    · have hf := ite_t hc3 hf
      refine xtabK (tgt := 124) hx hb dX12_counted_1 hc3 (by decide) (by decide) rfl (by decide) ?_
      refine lv_aload_n hx hb dX12_counted_124 rfl (lv_at hl 0 rfl) ?_
      refine va_get (C := RX12) (T := TX12) (N := 22) hx hb hts i12 hown hK hP 0 rfl rfl 1 (Nat.le_of_ble_eq_true rfl) w0 (fun _ h9 => h9) rfl dX12_counted_125 ?_
      refine lv_bipush (v := 27) hx hb dX12_counted_128 rfl ?_
      refine xiald hx hb hK hP 1 rfl hf dX12_counted_130 (fun hf => ?_)
      have he := Option.some.inj hf
      have e_r := he
      refine rt_I hx hb hr hlocks hK hP hD hS hQ e_r ?_ dX12_counted_131
      rfl
    have hf := ite_f hc3 hf
    by_cases hc4 : p1 = (12 : Int32)
    · have hf := ite_t hc4 hf
      refine xtabK (tgt := 132) hx hb dX12_counted_1 hc4 (by decide) (by decide) rfl (by decide) ?_
      refine lv_aload_n hx hb dX12_counted_132 rfl (lv_at hl 0 rfl) ?_
      refine va_get (C := RX12) (T := TX12) (N := 22) hx hb hts i12 hown hK hP 0 rfl rfl 1 (Nat.le_of_ble_eq_true rfl) w0 (fun _ h9 => h9) rfl dX12_counted_133 ?_
      refine lv_bipush (v := 28) hx hb dX12_counted_136 rfl ?_
      refine xiald hx hb hK hP 1 rfl hf dX12_counted_138 (fun hf => ?_)
      have he := Option.some.inj hf
      have e_r := he
      refine rt_I hx hb hr hlocks hK hP hD hS hQ e_r ?_ dX12_counted_139
      rfl
    have hf := ite_f hc4 hf
    by_cases hc5 : p1 = (13 : Int32)
    · have hf := ite_t hc5 hf
      refine xtabK (tgt := 140) hx hb dX12_counted_1 hc5 (by decide) (by decide) rfl (by decide) ?_
      refine lv_aload_n hx hb dX12_counted_140 rfl (lv_at hl 0 rfl) ?_
      refine va_get (C := RX12) (T := TX12) (N := 22) hx hb hts i12 hown hK hP 0 rfl rfl 1 (Nat.le_of_ble_eq_true rfl) w0 (fun _ h9 => h9) rfl dX12_counted_141 ?_
      refine lv_bipush (v := 23) hx hb dX12_counted_144 rfl ?_
      refine xiald hx hb hK hP 1 rfl hf dX12_counted_146 (fun hf => ?_)
      have he := Option.some.inj hf
      have e_r := he
      refine rt_I hx hb hr hlocks hK hP hD hS hQ e_r ?_ dX12_counted_147
      rfl
    have hf := ite_f hc5 hf
    by_cases hc6 : p1 = (14 : Int32)
    · have hf := ite_t hc6 hf
      refine xtabK (tgt := 148) hx hb dX12_counted_1 hc6 (by decide) (by decide) rfl (by decide) ?_
      refine lv_aload_n hx hb dX12_counted_148 rfl (lv_at hl 0 rfl) ?_
      refine va_get (C := RX12) (T := TX12) (N := 22) hx hb hts i12 hown hK hP 0 rfl rfl 1 (Nat.le_of_ble_eq_true rfl) w0 (fun _ h9 => h9) rfl dX12_counted_149 ?_
      refine lv_bipush (v := 29) hx hb dX12_counted_152 rfl ?_
      refine lv_iload_n hx hb dX12_counted_154 rfl (lv_at hl 1 rfl) ?_
      refine lv_iadd hx hb dX12_counted_155 ?_
      refine lv_bipush (v := 14) hx hb dX12_counted_156 rfl ?_
      refine lv_isub hx hb dX12_counted_158 ?_
      refine xiald hx hb hK hP 1 rfl hf dX12_counted_159 (fun hf => ?_)
      have he := Option.some.inj hf
      have e_r := he
      refine rt_I hx hb hr hlocks hK hP hD hS hQ e_r ?_ dX12_counted_160
      rfl
    have hf := ite_f hc6 hf
    by_cases hc7 : p1 = (15 : Int32)
    · have hf := ite_t hc7 hf
      refine xtabK (tgt := 148) hx hb dX12_counted_1 hc7 (by decide) (by decide) rfl (by decide) ?_
      refine lv_aload_n hx hb dX12_counted_148 rfl (lv_at hl 0 rfl) ?_
      refine va_get (C := RX12) (T := TX12) (N := 22) hx hb hts i12 hown hK hP 0 rfl rfl 1 (Nat.le_of_ble_eq_true rfl) w0 (fun _ h9 => h9) rfl dX12_counted_149 ?_
      refine lv_bipush (v := 29) hx hb dX12_counted_152 rfl ?_
      refine lv_iload_n hx hb dX12_counted_154 rfl (lv_at hl 1 rfl) ?_
      refine lv_iadd hx hb dX12_counted_155 ?_
      refine lv_bipush (v := 14) hx hb dX12_counted_156 rfl ?_
      refine lv_isub hx hb dX12_counted_158 ?_
      refine xiald hx hb hK hP 1 rfl hf dX12_counted_159 (fun hf => ?_)
      have he := Option.some.inj hf
      have e_r := he
      refine rt_I hx hb hr hlocks hK hP hD hS hQ e_r ?_ dX12_counted_160
      rfl
    have hf := ite_f hc7 hf
    by_cases hc8 : p1 = (16 : Int32)
    · have hf := ite_t hc8 hf
      refine xtabK (tgt := 148) hx hb dX12_counted_1 hc8 (by decide) (by decide) rfl (by decide) ?_
      refine lv_aload_n hx hb dX12_counted_148 rfl (lv_at hl 0 rfl) ?_
      refine va_get (C := RX12) (T := TX12) (N := 22) hx hb hts i12 hown hK hP 0 rfl rfl 1 (Nat.le_of_ble_eq_true rfl) w0 (fun _ h9 => h9) rfl dX12_counted_149 ?_
      refine lv_bipush (v := 29) hx hb dX12_counted_152 rfl ?_
      refine lv_iload_n hx hb dX12_counted_154 rfl (lv_at hl 1 rfl) ?_
      refine lv_iadd hx hb dX12_counted_155 ?_
      refine lv_bipush (v := 14) hx hb dX12_counted_156 rfl ?_
      refine lv_isub hx hb dX12_counted_158 ?_
      refine xiald hx hb hK hP 1 rfl hf dX12_counted_159 (fun hf => ?_)
      have he := Option.some.inj hf
      have e_r := he
      refine rt_I hx hb hr hlocks hK hP hD hS hQ e_r ?_ dX12_counted_160
      rfl
    have hf := ite_f hc8 hf
    by_cases hc9 : p1 = (17 : Int32)
    · have hf := ite_t hc9 hf
      refine xtabK (tgt := 161) hx hb dX12_counted_1 hc9 (by decide) (by decide) rfl (by decide) ?_
      refine lv_aload_n hx hb dX12_counted_161 rfl (lv_at hl 0 rfl) ?_
      refine va_get (C := RX12) (T := TX12) (N := 22) hx hb hts i12 hown hK hP 0 rfl rfl 1 (Nat.le_of_ble_eq_true rfl) w0 (fun _ h9 => h9) rfl dX12_counted_162 ?_
      refine lv_bipush (v := 33) hx hb dX12_counted_165 rfl ?_
      refine lv_iload_n hx hb dX12_counted_167 rfl (lv_at hl 1 rfl) ?_
      refine lv_iadd hx hb dX12_counted_168 ?_
      refine lv_bipush (v := 17) hx hb dX12_counted_169 rfl ?_
      refine lv_isub hx hb dX12_counted_171 ?_
      refine xiald hx hb hK hP 1 rfl hf dX12_counted_172 (fun hf => ?_)
      have he := Option.some.inj hf
      have e_r := he
      refine rt_I hx hb hr hlocks hK hP hD hS hQ e_r ?_ dX12_counted_173
      rfl
    have hf := ite_f hc9 hf
    by_cases hc10 : p1 = (18 : Int32)
    · have hf := ite_t hc10 hf
      refine xtabK (tgt := 161) hx hb dX12_counted_1 hc10 (by decide) (by decide) rfl (by decide) ?_
      refine lv_aload_n hx hb dX12_counted_161 rfl (lv_at hl 0 rfl) ?_
      refine va_get (C := RX12) (T := TX12) (N := 22) hx hb hts i12 hown hK hP 0 rfl rfl 1 (Nat.le_of_ble_eq_true rfl) w0 (fun _ h9 => h9) rfl dX12_counted_162 ?_
      refine lv_bipush (v := 33) hx hb dX12_counted_165 rfl ?_
      refine lv_iload_n hx hb dX12_counted_167 rfl (lv_at hl 1 rfl) ?_
      refine lv_iadd hx hb dX12_counted_168 ?_
      refine lv_bipush (v := 17) hx hb dX12_counted_169 rfl ?_
      refine lv_isub hx hb dX12_counted_171 ?_
      refine xiald hx hb hK hP 1 rfl hf dX12_counted_172 (fun hf => ?_)
      have he := Option.some.inj hf
      have e_r := he
      refine rt_I hx hb hr hlocks hK hP hD hS hQ e_r ?_ dX12_counted_173
      rfl
    have hf := ite_f hc10 hf
    by_cases hc11 : p1 = (19 : Int32)
    · have hf := ite_t hc11 hf
      refine xtabK (tgt := 161) hx hb dX12_counted_1 hc11 (by decide) (by decide) rfl (by decide) ?_
      refine lv_aload_n hx hb dX12_counted_161 rfl (lv_at hl 0 rfl) ?_
      refine va_get (C := RX12) (T := TX12) (N := 22) hx hb hts i12 hown hK hP 0 rfl rfl 1 (Nat.le_of_ble_eq_true rfl) w0 (fun _ h9 => h9) rfl dX12_counted_162 ?_
      refine lv_bipush (v := 33) hx hb dX12_counted_165 rfl ?_
      refine lv_iload_n hx hb dX12_counted_167 rfl (lv_at hl 1 rfl) ?_
      refine lv_iadd hx hb dX12_counted_168 ?_
      refine lv_bipush (v := 17) hx hb dX12_counted_169 rfl ?_
      refine lv_isub hx hb dX12_counted_171 ?_
      refine xiald hx hb hK hP 1 rfl hf dX12_counted_172 (fun hf => ?_)
      have he := Option.some.inj hf
      have e_r := he
      refine rt_I hx hb hr hlocks hK hP hD hS hQ e_r ?_ dX12_counted_173
      rfl
    have hf := ite_f hc11 hf
    by_cases hc12 : p1 = (20 : Int32)
    · have hf := ite_t hc12 hf
      refine xtabK (tgt := 174) hx hb dX12_counted_1 hc12 (by decide) (by decide) rfl (by decide) ?_
      refine lv_aload_n hx hb dX12_counted_174 rfl (lv_at hl 0 rfl) ?_
      refine va_get (C := RX12) (T := TX12) (N := 22) hx hb hts i12 hown hK hP 0 rfl rfl 1 (Nat.le_of_ble_eq_true rfl) w0 (fun _ h9 => h9) rfl dX12_counted_175 ?_
      refine lv_bipush (v := 37) hx hb dX12_counted_178 rfl ?_
      refine xiald hx hb hK hP 1 rfl hf dX12_counted_180 (fun hf => ?_)
      have he := Option.some.inj hf
      have e_r := he
      refine rt_I hx hb hr hlocks hK hP hD hS hQ e_r ?_ dX12_counted_181
      rfl
    have hf := ite_f hc12 hf
    by_cases hc13 : p1 = (21 : Int32)
    · have hf := ite_t hc13 hf
      refine xtabK (tgt := 182) hx hb dX12_counted_1 hc13 (by decide) (by decide) rfl (by decide) ?_
      refine lv_aload_n hx hb dX12_counted_182 rfl (lv_at hl 0 rfl) ?_
      refine va_get (C := RX12) (T := TX12) (N := 22) hx hb hts i12 hown hK hP 0 rfl rfl 1 (Nat.le_of_ble_eq_true rfl) w0 (fun _ h9 => h9) rfl dX12_counted_183 ?_
      refine lv_bipush (v := 43) hx hb dX12_counted_186 rfl ?_
      refine xiald hx hb hK hP 1 rfl hf dX12_counted_188 (fun hf => ?_)
      have he := Option.some.inj hf
      have e_r := he
      refine rt_I hx hb hr hlocks hK hP hD hS hQ e_r ?_ dX12_counted_189
      rfl
    have hf := ite_f hc13 hf
    by_cases hc14 : p1 = (22 : Int32)
    · have hf := ite_t hc14 hf
      refine xtabK (tgt := 190) hx hb dX12_counted_1 hc14 (by decide) (by decide) rfl (by decide) ?_
      refine lv_aload_n hx hb dX12_counted_190 rfl (lv_at hl 0 rfl) ?_
      refine va_get (C := RX12) (T := TX12) (N := 22) hx hb hts i12 hown hK hP 0 rfl rfl 1 (Nat.le_of_ble_eq_true rfl) w0 (fun _ h9 => h9) rfl dX12_counted_191 ?_
      refine lv_bipush (v := 39) hx hb dX12_counted_194 rfl ?_
      refine lv_iload_n hx hb dX12_counted_196 rfl (lv_at hl 1 rfl) ?_
      refine lv_iadd hx hb dX12_counted_197 ?_
      refine lv_bipush (v := 22) hx hb dX12_counted_198 rfl ?_
      refine lv_isub hx hb dX12_counted_200 ?_
      refine xiald hx hb hK hP 1 rfl hf dX12_counted_201 (fun hf => ?_)
      have he := Option.some.inj hf
      have e_r := he
      refine rt_I hx hb hr hlocks hK hP hD hS hQ e_r ?_ dX12_counted_202
      rfl
    have hf := ite_f hc14 hf
    by_cases hc15 : p1 = (23 : Int32)
    · have hf := ite_t hc15 hf
      refine xtabK (tgt := 190) hx hb dX12_counted_1 hc15 (by decide) (by decide) rfl (by decide) ?_
      refine lv_aload_n hx hb dX12_counted_190 rfl (lv_at hl 0 rfl) ?_
      refine va_get (C := RX12) (T := TX12) (N := 22) hx hb hts i12 hown hK hP 0 rfl rfl 1 (Nat.le_of_ble_eq_true rfl) w0 (fun _ h9 => h9) rfl dX12_counted_191 ?_
      refine lv_bipush (v := 39) hx hb dX12_counted_194 rfl ?_
      refine lv_iload_n hx hb dX12_counted_196 rfl (lv_at hl 1 rfl) ?_
      refine lv_iadd hx hb dX12_counted_197 ?_
      refine lv_bipush (v := 22) hx hb dX12_counted_198 rfl ?_
      refine lv_isub hx hb dX12_counted_200 ?_
      refine xiald hx hb hK hP 1 rfl hf dX12_counted_201 (fun hf => ?_)
      have he := Option.some.inj hf
      have e_r := he
      refine rt_I hx hb hr hlocks hK hP hD hS hQ e_r ?_ dX12_counted_202
      rfl
    have hf := ite_f hc15 hf
    by_cases hc16 : p1 = (24 : Int32)
    · have hf := ite_t hc16 hf
      refine xtabK (tgt := 190) hx hb dX12_counted_1 hc16 (by decide) (by decide) rfl (by decide) ?_
      refine lv_aload_n hx hb dX12_counted_190 rfl (lv_at hl 0 rfl) ?_
      refine va_get (C := RX12) (T := TX12) (N := 22) hx hb hts i12 hown hK hP 0 rfl rfl 1 (Nat.le_of_ble_eq_true rfl) w0 (fun _ h9 => h9) rfl dX12_counted_191 ?_
      refine lv_bipush (v := 39) hx hb dX12_counted_194 rfl ?_
      refine lv_iload_n hx hb dX12_counted_196 rfl (lv_at hl 1 rfl) ?_
      refine lv_iadd hx hb dX12_counted_197 ?_
      refine lv_bipush (v := 22) hx hb dX12_counted_198 rfl ?_
      refine lv_isub hx hb dX12_counted_200 ?_
      refine xiald hx hb hK hP 1 rfl hf dX12_counted_201 (fun hf => ?_)
      have he := Option.some.inj hf
      have e_r := he
      refine rt_I hx hb hr hlocks hK hP hD hS hQ e_r ?_ dX12_counted_202
      rfl
    have hf := ite_f hc16 hf
    by_cases hc17 : p1 = (25 : Int32)
    · have hf := ite_t hc17 hf
      refine xtabK (tgt := 190) hx hb dX12_counted_1 hc17 (by decide) (by decide) rfl (by decide) ?_
      refine lv_aload_n hx hb dX12_counted_190 rfl (lv_at hl 0 rfl) ?_
      refine va_get (C := RX12) (T := TX12) (N := 22) hx hb hts i12 hown hK hP 0 rfl rfl 1 (Nat.le_of_ble_eq_true rfl) w0 (fun _ h9 => h9) rfl dX12_counted_191 ?_
      refine lv_bipush (v := 39) hx hb dX12_counted_194 rfl ?_
      refine lv_iload_n hx hb dX12_counted_196 rfl (lv_at hl 1 rfl) ?_
      refine lv_iadd hx hb dX12_counted_197 ?_
      refine lv_bipush (v := 22) hx hb dX12_counted_198 rfl ?_
      refine lv_isub hx hb dX12_counted_200 ?_
      refine xiald hx hb hK hP 1 rfl hf dX12_counted_201 (fun hf => ?_)
      have he := Option.some.inj hf
      have e_r := he
      refine rt_I hx hb hr hlocks hK hP hD hS hQ e_r ?_ dX12_counted_202
      rfl
    have hf := ite_f hc17 hf
    by_cases hc18 : p1 = (26 : Int32)
    · have hf := ite_t hc18 hf
      refine xtabK (tgt := 203) hx hb dX12_counted_1 hc18 (by decide) (by decide) rfl (by decide) ?_
      refine lv_aload_n hx hb dX12_counted_203 rfl (lv_at hl 0 rfl) ?_
      refine va_get (C := RX12) (T := TX12) (N := 22) hx hb hts i12 hown hK hP 0 rfl rfl 1 (Nat.le_of_ble_eq_true rfl) w0 (fun _ h9 => h9) rfl dX12_counted_204 ?_
      refine lv_sipush (v := 300) hx hb dX12_counted_207 rfl ?_
      refine xiald hx hb hK hP 1 rfl hf dX12_counted_210 (fun hf => ?_)
      have he := Option.some.inj hf
      have e_r := he
      refine rt_I hx hb hr hlocks hK hP hD hS hQ e_r ?_ dX12_counted_211
      rfl
    have hf := ite_f hc18 hf
    by_cases hc19 : p1 = (27 : Int32)
    · have hf := ite_t hc19 hf
      refine xtabK (tgt := 212) hx hb dX12_counted_1 hc19 (by decide) (by decide) rfl (by decide) ?_
      refine lv_aload_n hx hb dX12_counted_212 rfl (lv_at hl 0 rfl) ?_
      refine va_get (C := RX12) (T := TX12) (N := 22) hx hb hts i12 hown hK hP 0 rfl rfl 1 (Nat.le_of_ble_eq_true rfl) w0 (fun _ h9 => h9) rfl dX12_counted_213 ?_
      refine lv_sipush (v := 701) hx hb dX12_counted_216 rfl ?_
      refine xiald hx hb hK hP 1 rfl hf dX12_counted_219 (fun hf => ?_)
      have he := Option.some.inj hf
      have e_r := he
      refine rt_I hx hb hr hlocks hK hP hD hS hQ e_r ?_ dX12_counted_220
      rfl
    have hf := ite_f hc19 hf
    by_cases hc20 : p1 = (28 : Int32)
    · have hf := ite_t hc20 hf
      refine xtabK (tgt := 221) hx hb dX12_counted_1 hc20 (by decide) (by decide) rfl (by decide) ?_
      refine lv_aload_n hx hb dX12_counted_221 rfl (lv_at hl 0 rfl) ?_
      refine va_get (C := RX12) (T := TX12) (N := 22) hx hb hts i12 hown hK hP 0 rfl rfl 1 (Nat.le_of_ble_eq_true rfl) w0 (fun _ h9 => h9) rfl dX12_counted_222 ?_
      refine lv_sipush (v := 942) hx hb dX12_counted_225 rfl ?_
      refine xiald hx hb hK hP 1 rfl hf dX12_counted_228 (fun hf => ?_)
      have he := Option.some.inj hf
      have e_r := he
      refine rt_I hx hb hr hlocks hK hP hD hS hQ e_r ?_ dX12_counted_229
      rfl
    have hf := ite_f hc20 hf
    exact no_el hf
abbrev wq_X12_count : List Cond := Cond.code yX12_count cX12_count 2 (some .int) :: GL
set_option maxHeartbeats 4000000 in
set_option maxRecDepth 100000 in
theorem c_X12_count (l : Launch) (D : va_G) (ca : Nat → ClassId) (zz : Nat → Nat) (a0 a1 a2 a3 a4 a5 : Nat) (sz : Nat) (v0 : V12) (p1 : Int32) (r : Int32) (v0' : V12) (hf : f_X12_count v0 p1 = some (r, v0')) : Met l yX12_count wq_X12_count ({ frames := 1, cells := 0, slots := 0, locals := 22 } : Room) (PR D ca zz [.ref a0, .int p1] sz [(a0, .inr (12, [.int v0.1, .ref a1, .ref a2, .ref a3, .int v0.2.2.2.2.1, .int v0.2.2.2.2.2.1, .int v0.2.2.2.2.2.2.1, .int v0.2.2.2.2.2.2.2.1, .int v0.2.2.2.2.2.2.2.2.1, .long v0.2.2.2.2.2.2.2.2.2.1, .int v0.2.2.2.2.2.2.2.2.2.2.1, .int v0.2.2.2.2.2.2.2.2.2.2.2.1, .int v0.2.2.2.2.2.2.2.2.2.2.2.2.1, .ref a4, .int v0.2.2.2.2.2.2.2.2.2.2.2.2.2.2.1, .int v0.2.2.2.2.2.2.2.2.2.2.2.2.2.2.2.1, .int v0.2.2.2.2.2.2.2.2.2.2.2.2.2.2.2.2.1, .int v0.2.2.2.2.2.2.2.2.2.2.2.2.2.2.2.2.2.1, .int v0.2.2.2.2.2.2.2.2.2.2.2.2.2.2.2.2.2.2.1, .long v0.2.2.2.2.2.2.2.2.2.2.2.2.2.2.2.2.2.2.2.1, .long v0.2.2.2.2.2.2.2.2.2.2.2.2.2.2.2.2.2.2.2.2.1, .ref a5])), (a1, .inl (ca 0, 4725, .inl v0.2.1)), (a2, .inl (ca 2, 1500, .inl v0.2.2.1)), (a3, .inl (ca 3, 3, .inl v0.2.2.2.1)), (a4, .inl (ca 0, 22, .inl v0.2.2.2.2.2.2.2.2.2.2.2.2.2.1)), (a5, .inl (ca 0, 256, .inl v0.2.2.2.2.2.2.2.2.2.2.2.2.2.2.2.2.2.2.2.2.2))]) (QI D ca r [(a0, .inr (12, [.int v0'.1, .ref a1, .ref a2, .ref a3, .int v0'.2.2.2.2.1, .int v0'.2.2.2.2.2.1, .int v0'.2.2.2.2.2.2.1, .int v0'.2.2.2.2.2.2.2.1, .int v0'.2.2.2.2.2.2.2.2.1, .long v0'.2.2.2.2.2.2.2.2.2.1, .int v0'.2.2.2.2.2.2.2.2.2.2.1, .int v0'.2.2.2.2.2.2.2.2.2.2.2.1, .int v0'.2.2.2.2.2.2.2.2.2.2.2.2.1, .ref a4, .int v0'.2.2.2.2.2.2.2.2.2.2.2.2.2.2.1, .int v0'.2.2.2.2.2.2.2.2.2.2.2.2.2.2.2.1, .int v0'.2.2.2.2.2.2.2.2.2.2.2.2.2.2.2.2.1, .int v0'.2.2.2.2.2.2.2.2.2.2.2.2.2.2.2.2.2.1, .int v0'.2.2.2.2.2.2.2.2.2.2.2.2.2.2.2.2.2.2.1, .long v0'.2.2.2.2.2.2.2.2.2.2.2.2.2.2.2.2.2.2.2.1, .long v0'.2.2.2.2.2.2.2.2.2.2.2.2.2.2.2.2.2.2.2.2.1, .ref a5])), (a1, .inl (ca 0, 4725, .inl v0'.2.1)), (a2, .inl (ca 2, 1500, .inl v0'.2.2.1)), (a3, .inl (ca 3, 3, .inl v0'.2.2.2.1)), (a4, .inl (ca 0, 22, .inl v0'.2.2.2.2.2.2.2.2.2.2.2.2.2.1)), (a5, .inl (ca 0, 256, .inl v0'.2.2.2.2.2.2.2.2.2.2.2.2.2.2.2.2.2.2.2.2.2))] (va_A [(a0, .inr (12, [.int v0.1, .ref a1, .ref a2, .ref a3, .int v0.2.2.2.2.1, .int v0.2.2.2.2.2.1, .int v0.2.2.2.2.2.2.1, .int v0.2.2.2.2.2.2.2.1, .int v0.2.2.2.2.2.2.2.2.1, .long v0.2.2.2.2.2.2.2.2.2.1, .int v0.2.2.2.2.2.2.2.2.2.2.1, .int v0.2.2.2.2.2.2.2.2.2.2.2.1, .int v0.2.2.2.2.2.2.2.2.2.2.2.2.1, .ref a4, .int v0.2.2.2.2.2.2.2.2.2.2.2.2.2.2.1, .int v0.2.2.2.2.2.2.2.2.2.2.2.2.2.2.2.1, .int v0.2.2.2.2.2.2.2.2.2.2.2.2.2.2.2.2.1, .int v0.2.2.2.2.2.2.2.2.2.2.2.2.2.2.2.2.2.1, .int v0.2.2.2.2.2.2.2.2.2.2.2.2.2.2.2.2.2.2.1, .long v0.2.2.2.2.2.2.2.2.2.2.2.2.2.2.2.2.2.2.2.1, .long v0.2.2.2.2.2.2.2.2.2.2.2.2.2.2.2.2.2.2.2.2.1, .ref a5])), (a1, .inl (ca 0, 4725, .inl v0.2.1)), (a2, .inl (ca 2, 1500, .inl v0.2.2.1)), (a3, .inl (ca 3, 3, .inl v0.2.2.2.1)), (a4, .inl (ca 0, 22, .inl v0.2.2.2.2.2.2.2.2.2.2.2.2.2.1)), (a5, .inl (ca 0, 256, .inl v0.2.2.2.2.2.2.2.2.2.2.2.2.2.2.2.2.2.2.2.2.2))] sz)) 0 0 (va_A [(a0, .inr (12, [.int v0.1, .ref a1, .ref a2, .ref a3, .int v0.2.2.2.2.1, .int v0.2.2.2.2.2.1, .int v0.2.2.2.2.2.2.1, .int v0.2.2.2.2.2.2.2.1, .int v0.2.2.2.2.2.2.2.2.1, .long v0.2.2.2.2.2.2.2.2.2.1, .int v0.2.2.2.2.2.2.2.2.2.2.1, .int v0.2.2.2.2.2.2.2.2.2.2.2.1, .int v0.2.2.2.2.2.2.2.2.2.2.2.2.1, .ref a4, .int v0.2.2.2.2.2.2.2.2.2.2.2.2.2.2.1, .int v0.2.2.2.2.2.2.2.2.2.2.2.2.2.2.2.1, .int v0.2.2.2.2.2.2.2.2.2.2.2.2.2.2.2.2.1, .int v0.2.2.2.2.2.2.2.2.2.2.2.2.2.2.2.2.2.1, .int v0.2.2.2.2.2.2.2.2.2.2.2.2.2.2.2.2.2.2.1, .long v0.2.2.2.2.2.2.2.2.2.2.2.2.2.2.2.2.2.2.2.1, .long v0.2.2.2.2.2.2.2.2.2.2.2.2.2.2.2.2.2.2.2.2.1, .ref a5])), (a1, .inl (ca 0, 4725, .inl v0.2.1)), (a2, .inl (ca 2, 1500, .inl v0.2.2.1)), (a3, .inl (ca 3, 3, .inl v0.2.2.2.1)), (a4, .inl (ca 0, 22, .inl v0.2.2.2.2.2.2.2.2.2.2.2.2.2.1)), (a5, .inl (ca 0, 256, .inl v0.2.2.2.2.2.2.2.2.2.2.2.2.2.2.2.2.2.2.2.2.2))] sz) := by
  refine en (y := yX12_count) (wsm := wq_X12_count) (av := [.ref a0, .int p1]) (cc := cX12_count) (maxL := 2) (ret := (some .int)) (Qf := fun A => (QI D ca r [(a0, .inr (12, [.int v0'.1, .ref a1, .ref a2, .ref a3, .int v0'.2.2.2.2.1, .int v0'.2.2.2.2.2.1, .int v0'.2.2.2.2.2.2.1, .int v0'.2.2.2.2.2.2.2.1, .int v0'.2.2.2.2.2.2.2.2.1, .long v0'.2.2.2.2.2.2.2.2.2.1, .int v0'.2.2.2.2.2.2.2.2.2.2.1, .int v0'.2.2.2.2.2.2.2.2.2.2.2.1, .int v0'.2.2.2.2.2.2.2.2.2.2.2.2.1, .ref a4, .int v0'.2.2.2.2.2.2.2.2.2.2.2.2.2.2.1, .int v0'.2.2.2.2.2.2.2.2.2.2.2.2.2.2.2.1, .int v0'.2.2.2.2.2.2.2.2.2.2.2.2.2.2.2.2.1, .int v0'.2.2.2.2.2.2.2.2.2.2.2.2.2.2.2.2.2.1, .int v0'.2.2.2.2.2.2.2.2.2.2.2.2.2.2.2.2.2.2.1, .long v0'.2.2.2.2.2.2.2.2.2.2.2.2.2.2.2.2.2.2.2.1, .long v0'.2.2.2.2.2.2.2.2.2.2.2.2.2.2.2.2.2.2.2.2.1, .ref a5])), (a1, .inl (ca 0, 4725, .inl v0'.2.1)), (a2, .inl (ca 2, 1500, .inl v0'.2.2.1)), (a3, .inl (ca 3, 3, .inl v0'.2.2.2.1)), (a4, .inl (ca 0, 22, .inl v0'.2.2.2.2.2.2.2.2.2.2.2.2.2.1)), (a5, .inl (ca 0, 256, .inl v0'.2.2.2.2.2.2.2.2.2.2.2.2.2.2.2.2.2.2.2.2.2))] A)) (by decide) rfl (Nat.le_of_ble_eq_true rfl) ?_
  intro p e s m args below meth c A Q ls hx hb hr hml hown hts hlocks hnm hA hN hZ hK hQ hP hD hS hl
  have w0 := hts _ (List.mem_cons_of_mem _ gw_5_115)
  have i12 : ∀ w ∈ u_ws RX12 TX12 22, w ∈ wq_X12_count := fun w h => List.mem_cons_of_mem _ (inX12 w h)
  unfold f_X12_count at hf
  refine lv_aload_n hx hb dX12_count_0 rfl (lv_at hl 0 rfl) ?_
  refine lv_iconst (v := 0) hx hb dX12_count_1 rfl ?_
  refine xput (C := RX12) (T := TX12) (N := 22) (wx := [(a0, .inr (12, [.int (0 : Int32), .ref a1, .ref a2, .ref a3, .int v0.2.2.2.2.1, .int v0.2.2.2.2.2.1, .int v0.2.2.2.2.2.2.1, .int v0.2.2.2.2.2.2.2.1, .int v0.2.2.2.2.2.2.2.2.1, .long v0.2.2.2.2.2.2.2.2.2.1, .int v0.2.2.2.2.2.2.2.2.2.2.1, .int v0.2.2.2.2.2.2.2.2.2.2.2.1, .int v0.2.2.2.2.2.2.2.2.2.2.2.2.1, .ref a4, .int v0.2.2.2.2.2.2.2.2.2.2.2.2.2.2.1, .int v0.2.2.2.2.2.2.2.2.2.2.2.2.2.2.2.1, .int v0.2.2.2.2.2.2.2.2.2.2.2.2.2.2.2.2.1, .int v0.2.2.2.2.2.2.2.2.2.2.2.2.2.2.2.2.2.1, .int v0.2.2.2.2.2.2.2.2.2.2.2.2.2.2.2.2.2.2.1, .long v0.2.2.2.2.2.2.2.2.2.2.2.2.2.2.2.2.2.2.2.1, .long v0.2.2.2.2.2.2.2.2.2.2.2.2.2.2.2.2.2.2.2.2.1, .ref a5])), (a1, .inl (ca 0, 4725, .inl v0.2.1)), (a2, .inl (ca 2, 1500, .inl v0.2.2.1)), (a3, .inl (ca 3, 3, .inl v0.2.2.2.1)), (a4, .inl (ca 0, 22, .inl v0.2.2.2.2.2.2.2.2.2.2.2.2.2.1)), (a5, .inl (ca 0, 256, .inl v0.2.2.2.2.2.2.2.2.2.2.2.2.2.2.2.2.2.2.2.2.2))]) hx hb hts i12 tyX12 tyX12_ok nmX12 hown hK hP hD hS 0 rfl rfl 0 (Nat.le_of_ble_eq_true rfl) w0 (fun _ h9 => h9) rfl rfl rfl rfl (Nat.le_of_ble_eq_true rfl) dX12_count_2 rfl (fun H locs hP hD hS => ?_)
  refine lv_iload_n hx hb dX12_count_5 rfl (lv_at hl 1 rfl) ?_
  refine lv_iconst (v := 0) hx hb dX12_count_6 rfl ?_
  refine lv_bipush (v := 28) hx hb dX12_count_7 rfl ?_
  obtain ⟨r_1, hc1, hf⟩ := bnd1_el hf
  refine xS_I (As := [.int p1, .int (0 : Int32), .int (28 : Int32)]) (wx := [(a0, .inr (12, [.int (0 : Int32), .ref a1, .ref a2, .ref a3, .int v0.2.2.2.2.1, .int v0.2.2.2.2.2.1, .int v0.2.2.2.2.2.2.1, .int v0.2.2.2.2.2.2.2.1, .int v0.2.2.2.2.2.2.2.2.1, .long v0.2.2.2.2.2.2.2.2.2.1, .int v0.2.2.2.2.2.2.2.2.2.2.1, .int v0.2.2.2.2.2.2.2.2.2.2.2.1, .int v0.2.2.2.2.2.2.2.2.2.2.2.2.1, .ref a4, .int v0.2.2.2.2.2.2.2.2.2.2.2.2.2.2.1, .int v0.2.2.2.2.2.2.2.2.2.2.2.2.2.2.2.1, .int v0.2.2.2.2.2.2.2.2.2.2.2.2.2.2.2.2.1, .int v0.2.2.2.2.2.2.2.2.2.2.2.2.2.2.2.2.2.1, .int v0.2.2.2.2.2.2.2.2.2.2.2.2.2.2.2.2.2.2.1, .long v0.2.2.2.2.2.2.2.2.2.2.2.2.2.2.2.2.2.2.2.1, .long v0.2.2.2.2.2.2.2.2.2.2.2.2.2.2.2.2.2.2.2.2.1, .ref a5])), (a1, .inl (ca 0, 4725, .inl v0.2.1)), (a2, .inl (ca 2, 1500, .inl v0.2.2.1)), (a3, .inl (ca 3, 3, .inl v0.2.2.2.1)), (a4, .inl (ca 0, 22, .inl v0.2.2.2.2.2.2.2.2.2.2.2.2.2.1)), (a5, .inl (ca 0, 256, .inl v0.2.2.2.2.2.2.2.2.2.2.2.2.2.2.2.2.2.2.2.2.2))]) ⟨hx, hb, hml, hown, hts⟩ (c_X12_in l D ca zz  _ p1 (0 : Int32) (28 : Int32) r_1 hc1) (va_cwS 3 hts (gS gw_5_200 gw_5_201 gw_1_15 gw_5_202) rfl rfl rfl (by decide +kernel) ⟨(Nat.le_of_ble_eq_true rfl), (Nat.le_of_ble_eq_true rfl)⟩) hK hN hZ hA hP hD hS [] [none, none, none, none, none, none] (by decide +kernel) rfl rfl rfl rfl hl.1 rfl (Nat.le_of_ble_eq_true rfl) dX12_count_9 ⟨Nat.zero_le _, Nat.zero_le _⟩ rfl (fun H locs hP hD hS => ?_)
  refine xi_eq (tgt := 23) hx hb dX12_count_12 (by decide) hf (fun hf => ?_) (fun hf => ?_)
  · refine lv_iconst (v := -1) hx hb dX12_count_23 rfl ?_
    have he := Option.some.inj hf
    obtain ⟨e_r, he⟩ := Prod.mk.inj he
    have e_v0 := he
    refine rt_I hx hb hr hlocks hK hP hD hS hQ e_r ?_ dX12_count_24
    simp only [← e_v0]
  · refine lv_aload_n hx hb dX12_count_15 rfl (lv_at hl 0 rfl) ?_
    refine lv_iload_n hx hb dX12_count_16 rfl (lv_at hl 1 rfl) ?_
    obtain ⟨r_2, hc2, hf⟩ := bnd1_el hf
    have hMhc2 := fun sz => c_X12_counted l D ca zz a0 a1 a2 a3 a4 a5 sz (((0 : Int32), v0.2)) p1 r_2 hc2
    dsimp only at hMhc2
    refine xV_I (As := [.int p1]) (wx := [(a0, .inr (12, [.int (0 : Int32), .ref a1, .ref a2, .ref a3, .int v0.2.2.2.2.1, .int v0.2.2.2.2.2.1, .int v0.2.2.2.2.2.2.1, .int v0.2.2.2.2.2.2.2.1, .int v0.2.2.2.2.2.2.2.2.1, .long v0.2.2.2.2.2.2.2.2.2.1, .int v0.2.2.2.2.2.2.2.2.2.2.1, .int v0.2.2.2.2.2.2.2.2.2.2.2.1, .int v0.2.2.2.2.2.2.2.2.2.2.2.2.1, .ref a4, .int v0.2.2.2.2.2.2.2.2.2.2.2.2.2.2.1, .int v0.2.2.2.2.2.2.2.2.2.2.2.2.2.2.2.1, .int v0.2.2.2.2.2.2.2.2.2.2.2.2.2.2.2.2.1, .int v0.2.2.2.2.2.2.2.2.2.2.2.2.2.2.2.2.2.1, .int v0.2.2.2.2.2.2.2.2.2.2.2.2.2.2.2.2.2.2.1, .long v0.2.2.2.2.2.2.2.2.2.2.2.2.2.2.2.2.2.2.2.1, .long v0.2.2.2.2.2.2.2.2.2.2.2.2.2.2.2.2.2.2.2.2.1, .ref a5])), (a1, .inl (ca 0, 4725, .inl v0.2.1)), (a2, .inl (ca 2, 1500, .inl v0.2.2.1)), (a3, .inl (ca 3, 3, .inl v0.2.2.2.1)), (a4, .inl (ca 0, 22, .inl v0.2.2.2.2.2.2.2.2.2.2.2.2.2.1)), (a5, .inl (ca 0, 256, .inl v0.2.2.2.2.2.2.2.2.2.2.2.2.2.2.2.2.2.2.2.2.2))]) ⟨hx, hb, hml, hown, hts⟩ (hMhc2 _) (cwV 1 hts (gV gw_6_140 gw_6_142 gw_s_4_8 gw_1_15 gw_6_143) rfl rfl rfl (by decide +kernel) ⟨(Nat.le_of_ble_eq_true rfl), (Nat.le_of_ble_eq_true rfl)⟩) hK hN hZ hA hP hD hS [0, 1] [some 0, some 1, none, none, none, none] (by decide +kernel) rfl rfl rfl rfl 0 rfl rfl hl.1 rfl (Nat.le_of_ble_eq_true rfl) dX12_count_17 ⟨Nat.zero_le _, Nat.zero_le _⟩ rfl (fun H locs hP hD hS => ?_)
    refine lv_goto (tgt := 24) hx hb dX12_count_20 (by decide) ?_
    have he := Option.some.inj hf
    obtain ⟨e_r, he⟩ := Prod.mk.inj he
    have e_v0 := he
    refine rt_I hx hb hr hlocks hK hP hD hS hQ e_r ?_ dX12_count_24
    simp only [← e_v0]
abbrev wq_X12_history : List Cond := Cond.code yX12_history cX12_history 2 (some .int) :: GL
set_option maxHeartbeats 4000000 in
set_option maxRecDepth 100000 in
theorem c_X12_history (l : Launch) (D : va_G) (ca : Nat → ClassId) (zz : Nat → Nat) (a0 a1 a2 a3 a4 a5 : Nat) (sz : Nat) (v0 : V12) (p1 : Int32) (r : Int32) (v0' : V12) (hf : f_X12_history v0 p1 = some (r, v0')) : Met l yX12_history wq_X12_history ({ frames := 1, cells := 0, slots := 0, locals := 22 } : Room) (PR D ca zz [.ref a0, .int p1] sz [(a0, .inr (12, [.int v0.1, .ref a1, .ref a2, .ref a3, .int v0.2.2.2.2.1, .int v0.2.2.2.2.2.1, .int v0.2.2.2.2.2.2.1, .int v0.2.2.2.2.2.2.2.1, .int v0.2.2.2.2.2.2.2.2.1, .long v0.2.2.2.2.2.2.2.2.2.1, .int v0.2.2.2.2.2.2.2.2.2.2.1, .int v0.2.2.2.2.2.2.2.2.2.2.2.1, .int v0.2.2.2.2.2.2.2.2.2.2.2.2.1, .ref a4, .int v0.2.2.2.2.2.2.2.2.2.2.2.2.2.2.1, .int v0.2.2.2.2.2.2.2.2.2.2.2.2.2.2.2.1, .int v0.2.2.2.2.2.2.2.2.2.2.2.2.2.2.2.2.1, .int v0.2.2.2.2.2.2.2.2.2.2.2.2.2.2.2.2.2.1, .int v0.2.2.2.2.2.2.2.2.2.2.2.2.2.2.2.2.2.2.1, .long v0.2.2.2.2.2.2.2.2.2.2.2.2.2.2.2.2.2.2.2.1, .long v0.2.2.2.2.2.2.2.2.2.2.2.2.2.2.2.2.2.2.2.2.1, .ref a5])), (a1, .inl (ca 0, 4725, .inl v0.2.1)), (a2, .inl (ca 2, 1500, .inl v0.2.2.1)), (a3, .inl (ca 3, 3, .inl v0.2.2.2.1)), (a4, .inl (ca 0, 22, .inl v0.2.2.2.2.2.2.2.2.2.2.2.2.2.1)), (a5, .inl (ca 0, 256, .inl v0.2.2.2.2.2.2.2.2.2.2.2.2.2.2.2.2.2.2.2.2.2))]) (QI D ca r [(a0, .inr (12, [.int v0'.1, .ref a1, .ref a2, .ref a3, .int v0'.2.2.2.2.1, .int v0'.2.2.2.2.2.1, .int v0'.2.2.2.2.2.2.1, .int v0'.2.2.2.2.2.2.2.1, .int v0'.2.2.2.2.2.2.2.2.1, .long v0'.2.2.2.2.2.2.2.2.2.1, .int v0'.2.2.2.2.2.2.2.2.2.2.1, .int v0'.2.2.2.2.2.2.2.2.2.2.2.1, .int v0'.2.2.2.2.2.2.2.2.2.2.2.2.1, .ref a4, .int v0'.2.2.2.2.2.2.2.2.2.2.2.2.2.2.1, .int v0'.2.2.2.2.2.2.2.2.2.2.2.2.2.2.2.1, .int v0'.2.2.2.2.2.2.2.2.2.2.2.2.2.2.2.2.1, .int v0'.2.2.2.2.2.2.2.2.2.2.2.2.2.2.2.2.2.1, .int v0'.2.2.2.2.2.2.2.2.2.2.2.2.2.2.2.2.2.2.1, .long v0'.2.2.2.2.2.2.2.2.2.2.2.2.2.2.2.2.2.2.2.1, .long v0'.2.2.2.2.2.2.2.2.2.2.2.2.2.2.2.2.2.2.2.2.1, .ref a5])), (a1, .inl (ca 0, 4725, .inl v0'.2.1)), (a2, .inl (ca 2, 1500, .inl v0'.2.2.1)), (a3, .inl (ca 3, 3, .inl v0'.2.2.2.1)), (a4, .inl (ca 0, 22, .inl v0'.2.2.2.2.2.2.2.2.2.2.2.2.2.1)), (a5, .inl (ca 0, 256, .inl v0'.2.2.2.2.2.2.2.2.2.2.2.2.2.2.2.2.2.2.2.2.2))] (va_A [(a0, .inr (12, [.int v0.1, .ref a1, .ref a2, .ref a3, .int v0.2.2.2.2.1, .int v0.2.2.2.2.2.1, .int v0.2.2.2.2.2.2.1, .int v0.2.2.2.2.2.2.2.1, .int v0.2.2.2.2.2.2.2.2.1, .long v0.2.2.2.2.2.2.2.2.2.1, .int v0.2.2.2.2.2.2.2.2.2.2.1, .int v0.2.2.2.2.2.2.2.2.2.2.2.1, .int v0.2.2.2.2.2.2.2.2.2.2.2.2.1, .ref a4, .int v0.2.2.2.2.2.2.2.2.2.2.2.2.2.2.1, .int v0.2.2.2.2.2.2.2.2.2.2.2.2.2.2.2.1, .int v0.2.2.2.2.2.2.2.2.2.2.2.2.2.2.2.2.1, .int v0.2.2.2.2.2.2.2.2.2.2.2.2.2.2.2.2.2.1, .int v0.2.2.2.2.2.2.2.2.2.2.2.2.2.2.2.2.2.2.1, .long v0.2.2.2.2.2.2.2.2.2.2.2.2.2.2.2.2.2.2.2.1, .long v0.2.2.2.2.2.2.2.2.2.2.2.2.2.2.2.2.2.2.2.2.1, .ref a5])), (a1, .inl (ca 0, 4725, .inl v0.2.1)), (a2, .inl (ca 2, 1500, .inl v0.2.2.1)), (a3, .inl (ca 3, 3, .inl v0.2.2.2.1)), (a4, .inl (ca 0, 22, .inl v0.2.2.2.2.2.2.2.2.2.2.2.2.2.1)), (a5, .inl (ca 0, 256, .inl v0.2.2.2.2.2.2.2.2.2.2.2.2.2.2.2.2.2.2.2.2.2))] sz)) 0 0 (va_A [(a0, .inr (12, [.int v0.1, .ref a1, .ref a2, .ref a3, .int v0.2.2.2.2.1, .int v0.2.2.2.2.2.1, .int v0.2.2.2.2.2.2.1, .int v0.2.2.2.2.2.2.2.1, .int v0.2.2.2.2.2.2.2.2.1, .long v0.2.2.2.2.2.2.2.2.2.1, .int v0.2.2.2.2.2.2.2.2.2.2.1, .int v0.2.2.2.2.2.2.2.2.2.2.2.1, .int v0.2.2.2.2.2.2.2.2.2.2.2.2.1, .ref a4, .int v0.2.2.2.2.2.2.2.2.2.2.2.2.2.2.1, .int v0.2.2.2.2.2.2.2.2.2.2.2.2.2.2.2.1, .int v0.2.2.2.2.2.2.2.2.2.2.2.2.2.2.2.2.1, .int v0.2.2.2.2.2.2.2.2.2.2.2.2.2.2.2.2.2.1, .int v0.2.2.2.2.2.2.2.2.2.2.2.2.2.2.2.2.2.2.1, .long v0.2.2.2.2.2.2.2.2.2.2.2.2.2.2.2.2.2.2.2.1, .long v0.2.2.2.2.2.2.2.2.2.2.2.2.2.2.2.2.2.2.2.2.1, .ref a5])), (a1, .inl (ca 0, 4725, .inl v0.2.1)), (a2, .inl (ca 2, 1500, .inl v0.2.2.1)), (a3, .inl (ca 3, 3, .inl v0.2.2.2.1)), (a4, .inl (ca 0, 22, .inl v0.2.2.2.2.2.2.2.2.2.2.2.2.2.1)), (a5, .inl (ca 0, 256, .inl v0.2.2.2.2.2.2.2.2.2.2.2.2.2.2.2.2.2.2.2.2.2))] sz) := by
  refine en (y := yX12_history) (wsm := wq_X12_history) (av := [.ref a0, .int p1]) (cc := cX12_history) (maxL := 2) (ret := (some .int)) (Qf := fun A => (QI D ca r [(a0, .inr (12, [.int v0'.1, .ref a1, .ref a2, .ref a3, .int v0'.2.2.2.2.1, .int v0'.2.2.2.2.2.1, .int v0'.2.2.2.2.2.2.1, .int v0'.2.2.2.2.2.2.2.1, .int v0'.2.2.2.2.2.2.2.2.1, .long v0'.2.2.2.2.2.2.2.2.2.1, .int v0'.2.2.2.2.2.2.2.2.2.2.1, .int v0'.2.2.2.2.2.2.2.2.2.2.2.1, .int v0'.2.2.2.2.2.2.2.2.2.2.2.2.1, .ref a4, .int v0'.2.2.2.2.2.2.2.2.2.2.2.2.2.2.1, .int v0'.2.2.2.2.2.2.2.2.2.2.2.2.2.2.2.1, .int v0'.2.2.2.2.2.2.2.2.2.2.2.2.2.2.2.2.1, .int v0'.2.2.2.2.2.2.2.2.2.2.2.2.2.2.2.2.2.1, .int v0'.2.2.2.2.2.2.2.2.2.2.2.2.2.2.2.2.2.2.1, .long v0'.2.2.2.2.2.2.2.2.2.2.2.2.2.2.2.2.2.2.2.1, .long v0'.2.2.2.2.2.2.2.2.2.2.2.2.2.2.2.2.2.2.2.2.1, .ref a5])), (a1, .inl (ca 0, 4725, .inl v0'.2.1)), (a2, .inl (ca 2, 1500, .inl v0'.2.2.1)), (a3, .inl (ca 3, 3, .inl v0'.2.2.2.1)), (a4, .inl (ca 0, 22, .inl v0'.2.2.2.2.2.2.2.2.2.2.2.2.2.1)), (a5, .inl (ca 0, 256, .inl v0'.2.2.2.2.2.2.2.2.2.2.2.2.2.2.2.2.2.2.2.2.2))] A)) (by decide) rfl (Nat.le_of_ble_eq_true rfl) ?_
  intro p e s m args below meth c A Q ls hx hb hr hml hown hts hlocks hnm hA hN hZ hK hQ hP hD hS hl
  have w0 := hts _ (List.mem_cons_of_mem _ gw_5_115)
  have w1 := hts _ (List.mem_cons_of_mem _ gw_5_116)
  have i12 : ∀ w ∈ u_ws RX12 TX12 22, w ∈ wq_X12_history := fun w h => List.mem_cons_of_mem _ (inX12 w h)
  unfold f_X12_history at hf
  refine lv_aload_n hx hb dX12_history_0 rfl (lv_at hl 0 rfl) ?_
  refine lv_iconst (v := 0) hx hb dX12_history_1 rfl ?_
  refine xput (C := RX12) (T := TX12) (N := 22) (wx := [(a0, .inr (12, [.int (0 : Int32), .ref a1, .ref a2, .ref a3, .int v0.2.2.2.2.1, .int v0.2.2.2.2.2.1, .int v0.2.2.2.2.2.2.1, .int v0.2.2.2.2.2.2.2.1, .int v0.2.2.2.2.2.2.2.2.1, .long v0.2.2.2.2.2.2.2.2.2.1, .int v0.2.2.2.2.2.2.2.2.2.2.1, .int v0.2.2.2.2.2.2.2.2.2.2.2.1, .int v0.2.2.2.2.2.2.2.2.2.2.2.2.1, .ref a4, .int v0.2.2.2.2.2.2.2.2.2.2.2.2.2.2.1, .int v0.2.2.2.2.2.2.2.2.2.2.2.2.2.2.2.1, .int v0.2.2.2.2.2.2.2.2.2.2.2.2.2.2.2.2.1, .int v0.2.2.2.2.2.2.2.2.2.2.2.2.2.2.2.2.2.1, .int v0.2.2.2.2.2.2.2.2.2.2.2.2.2.2.2.2.2.2.1, .long v0.2.2.2.2.2.2.2.2.2.2.2.2.2.2.2.2.2.2.2.1, .long v0.2.2.2.2.2.2.2.2.2.2.2.2.2.2.2.2.2.2.2.2.1, .ref a5])), (a1, .inl (ca 0, 4725, .inl v0.2.1)), (a2, .inl (ca 2, 1500, .inl v0.2.2.1)), (a3, .inl (ca 3, 3, .inl v0.2.2.2.1)), (a4, .inl (ca 0, 22, .inl v0.2.2.2.2.2.2.2.2.2.2.2.2.2.1)), (a5, .inl (ca 0, 256, .inl v0.2.2.2.2.2.2.2.2.2.2.2.2.2.2.2.2.2.2.2.2.2))]) hx hb hts i12 tyX12 tyX12_ok nmX12 hown hK hP hD hS 0 rfl rfl 0 (Nat.le_of_ble_eq_true rfl) w0 (fun _ h9 => h9) rfl rfl rfl rfl (Nat.le_of_ble_eq_true rfl) dX12_history_2 rfl (fun H locs hP hD hS => ?_)
  refine lv_iload_n hx hb dX12_history_5 rfl (lv_at hl 1 rfl) ?_
  refine lv_iconst (v := 0) hx hb dX12_history_6 rfl ?_
  refine lv_aload_n hx hb dX12_history_7 rfl (lv_at hl 0 rfl) ?_
  refine va_get (C := RX12) (T := TX12) (N := 22) hx hb hts i12 hown hK hP 0 rfl rfl 1 (Nat.le_of_ble_eq_true rfl) w1 (fun _ h9 => h9) rfl dX12_history_8 ?_
  refine lv_sipush (v := 300) hx hb dX12_history_11 rfl ?_
  refine xiald hx hb hK hP 1 rfl hf dX12_history_14 (fun hf => ?_)
  refine lv_iconst (v := 1) hx hb dX12_history_15 rfl ?_
  refine lv_isub hx hb dX12_history_16 ?_
  obtain ⟨r_1, hc1, hf⟩ := bnd1_el hf
  refine xS_I (As := [.int p1, .int (0 : Int32), .int ((v0.2.1 ((300 : Int32)).toNatClampNeg) - (1 : Int32))]) (wx := [(a0, .inr (12, [.int (0 : Int32), .ref a1, .ref a2, .ref a3, .int v0.2.2.2.2.1, .int v0.2.2.2.2.2.1, .int v0.2.2.2.2.2.2.1, .int v0.2.2.2.2.2.2.2.1, .int v0.2.2.2.2.2.2.2.2.1, .long v0.2.2.2.2.2.2.2.2.2.1, .int v0.2.2.2.2.2.2.2.2.2.2.1, .int v0.2.2.2.2.2.2.2.2.2.2.2.1, .int v0.2.2.2.2.2.2.2.2.2.2.2.2.1, .ref a4, .int v0.2.2.2.2.2.2.2.2.2.2.2.2.2.2.1, .int v0.2.2.2.2.2.2.2.2.2.2.2.2.2.2.2.1, .int v0.2.2.2.2.2.2.2.2.2.2.2.2.2.2.2.2.1, .int v0.2.2.2.2.2.2.2.2.2.2.2.2.2.2.2.2.2.1, .int v0.2.2.2.2.2.2.2.2.2.2.2.2.2.2.2.2.2.2.1, .long v0.2.2.2.2.2.2.2.2.2.2.2.2.2.2.2.2.2.2.2.1, .long v0.2.2.2.2.2.2.2.2.2.2.2.2.2.2.2.2.2.2.2.2.1, .ref a5])), (a1, .inl (ca 0, 4725, .inl v0.2.1)), (a2, .inl (ca 2, 1500, .inl v0.2.2.1)), (a3, .inl (ca 3, 3, .inl v0.2.2.2.1)), (a4, .inl (ca 0, 22, .inl v0.2.2.2.2.2.2.2.2.2.2.2.2.2.1)), (a5, .inl (ca 0, 256, .inl v0.2.2.2.2.2.2.2.2.2.2.2.2.2.2.2.2.2.2.2.2.2))]) ⟨hx, hb, hml, hown, hts⟩ (c_X12_in l D ca zz  _ p1 (0 : Int32) ((v0.2.1 ((300 : Int32)).toNatClampNeg) - (1 : Int32)) r_1 hc1) (va_cwS 3 hts (gS gw_5_200 gw_5_201 gw_1_15 gw_5_202) rfl rfl rfl (by decide +kernel) ⟨(Nat.le_of_ble_eq_true rfl), (Nat.le_of_ble_eq_true rfl)⟩) hK hN hZ hA hP hD hS [] [none, none, none, none, none, none] (by decide +kernel) rfl rfl rfl rfl hl.1 rfl (Nat.le_of_ble_eq_true rfl) dX12_history_17 ⟨Nat.zero_le _, Nat.zero_le _⟩ rfl (fun H locs hP hD hS => ?_)
  refine xi_eq (tgt := 36) hx hb dX12_history_20 (by decide) hf (fun hf => ?_) (fun hf => ?_)
  · refine lv_iconst (v := -1) hx hb dX12_history_36 rfl ?_
    have he := Option.some.inj hf
    obtain ⟨e_r, he⟩ := Prod.mk.inj he
    have e_v0 := he
    refine rt_I hx hb hr hlocks hK hP hD hS hQ e_r ?_ dX12_history_37
    simp only [← e_v0]
  · refine lv_aload_n hx hb dX12_history_23 rfl (lv_at hl 0 rfl) ?_
    refine va_get (C := RX12) (T := TX12) (N := 22) hx hb hts i12 hown hK hP 0 rfl rfl 1 (Nat.le_of_ble_eq_true rfl) w1 (fun _ h9 => h9) rfl dX12_history_24 ?_
    refine lv_sipush (v := 301) hx hb dX12_history_27 rfl ?_
    refine lv_iload_n hx hb dX12_history_30 rfl (lv_at hl 1 rfl) ?_
    refine lv_iadd hx hb dX12_history_31 ?_
    refine xiald hx hb hK hP 1 rfl hf dX12_history_32 (fun hf => ?_)
    refine lv_goto (tgt := 37) hx hb dX12_history_33 (by decide) ?_
    have he := Option.some.inj hf
    obtain ⟨e_r, he⟩ := Prod.mk.inj he
    have e_v0 := he
    refine rt_I hx hb hr hlocks hK hP hD hS hQ e_r ?_ dX12_history_37
    simp only [← e_v0]
