abbrev wq_X2_fill : List Cond := Cond.code yX2_fill cX2_fill 5 none :: GL
set_option maxHeartbeats 4000000 in
set_option maxRecDepth 100000 in
theorem c_X2_fill (l : Launch) (D : va_G) (ca : Nat → ClassId) (zz : Nat → Nat) (a0 a1 : Nat) (sz : Nat) (v0 : V2) (p1 : Int32) (p2 : Int32) (v0' : V2) (hf : f_X2_fill v0 p1 p2 = some v0') : Met l yX2_fill wq_X2_fill ({ frames := 1, cells := 0, slots := 0, locals := 24 } : Room) (PR D ca zz [.ref a0, .int p1, .int p2] sz [(a0, .inr (2, [.ref a1, .int v0.2.1, .int v0.2.2.1, .int v0.2.2.2.1, .int v0.2.2.2.2])), (a1, .inl (ca 1, 17, .inr (.inl v0.1)))]) (QV D ca [(a0, .inr (2, [.ref a1, .int v0'.2.1, .int v0'.2.2.1, .int v0'.2.2.2.1, .int v0'.2.2.2.2])), (a1, .inl (ca 1, 17, .inr (.inl v0'.1)))] (va_A [(a0, .inr (2, [.ref a1, .int v0.2.1, .int v0.2.2.1, .int v0.2.2.2.1, .int v0.2.2.2.2])), (a1, .inl (ca 1, 17, .inr (.inl v0.1)))] sz)) 0 0 (va_A [(a0, .inr (2, [.ref a1, .int v0.2.1, .int v0.2.2.1, .int v0.2.2.2.1, .int v0.2.2.2.2])), (a1, .inl (ca 1, 17, .inr (.inl v0.1)))] sz) := by
  refine en (y := yX2_fill) (wsm := wq_X2_fill) (av := [.ref a0, .int p1, .int p2]) (cc := cX2_fill) (maxL := 5) (ret := none) (Qf := fun A => (QV D ca [(a0, .inr (2, [.ref a1, .int v0'.2.1, .int v0'.2.2.1, .int v0'.2.2.2.1, .int v0'.2.2.2.2])), (a1, .inl (ca 1, 17, .inr (.inl v0'.1)))] A)) (by decide) rfl (Nat.le_of_ble_eq_true rfl) ?_
  intro p e s m args below meth c A Q ls hx hb hr hml hown hts hlocks hnm hA hN hZ hK hQ hP hD hS hl
  have w0 := hts _ (List.mem_cons_of_mem _ gw_2_29)
  have w1 := hts _ (List.mem_cons_of_mem _ gw_2_30)
  have w2 := hts _ (List.mem_cons_of_mem _ gw_1_11)
  have w3 := hts _ (List.mem_cons_of_mem _ gw_2_31)
  have w4 := hts _ (List.mem_cons_of_mem _ gw_2_32)
  have w5 := hts _ (List.mem_cons_of_mem _ gw_2_33)
  have w6 := hts _ (List.mem_cons_of_mem _ gw_2_34)
  have w7 := hts _ (List.mem_cons_of_mem _ gw_1_82)
  have w8 := hts _ (List.mem_cons_of_mem _ gw_1_81)
  have i2 : ∀ w ∈ u_ws RX2 TX2 5, w ∈ wq_X2_fill := fun w h => List.mem_cons_of_mem _ (inX2 w h)
  have bl114 : ∀ (k114 : V2 → Int32 → Option (V2)) (q114 : ∀ (v0 : V2) (x3 : Int32), k114 v0 x3 = some v0' → ∀ (H : Heap) (locs : List Loc) (ls : Array Slot), va_P D vwCl [(a0, .inr (2, [.ref a1, .int v0.2.1, .int v0.2.2.1, .int v0.2.2.2.1, .int v0.2.2.2.2])), (a1, .inl (ca 1, 17, .inr (.inl v0.1)))] H → va_D A [(a0, .inr (2, [.ref a1, .int v0.2.1, .int v0.2.2.1, .int v0.2.2.2.1, .int v0.2.2.2.2])), (a1, .inl (ca 1, 17, .inr (.inl v0.1)))] → va_S A s.heap H locs → lv_has ls 5 [(0, .ref a0), (3, .int x3)] → W p l e ({ frames := 1, cells := 0, slots := 0, locals := 24 } : Room) s m args below meth c H locs 0 0 Q (F0 m 114 ls [])) (v0 : V2) (x3 : Int32), fl_X2_fill_114 k114 v0 x3 = some v0' → ∀ (H : Heap) (locs : List Loc) (ls : Array Slot), va_P D vwCl [(a0, .inr (2, [.ref a1, .int v0.2.1, .int v0.2.2.1, .int v0.2.2.2.1, .int v0.2.2.2.2])), (a1, .inl (ca 1, 17, .inr (.inl v0.1)))] H → va_D A [(a0, .inr (2, [.ref a1, .int v0.2.1, .int v0.2.2.1, .int v0.2.2.2.1, .int v0.2.2.2.2])), (a1, .inl (ca 1, 17, .inr (.inl v0.1)))] → va_S A s.heap H locs → lv_has ls 5 [(0, .ref a0), (3, .int x3)] → W p l e ({ frames := 1, cells := 0, slots := 0, locals := 24 } : Room) s m args below meth c H locs 0 0 Q (F0 m 114 ls []) := by
    intro k114 q114 v0 x3 hf H locs ls hP hD hS hl
    unfold fl_X2_fill_114 at hf
    refine lv_iload_n hx hb dX2_fill_114 rfl (lv_at hl 1 rfl) ?_
    refine xi_lt (tgt := 141) hx hb dX2_fill_115 (by decide) hf (fun hf => ?_) (fun hf => ?_)
    · have he := Option.some.inj hf
      have e_v0 := he
      refine rt_V hx hb hr hlocks hK hP hD hS hQ ?_ dX2_fill_141
      simp only [← e_v0]
    · refine lv_aload_n hx hb dX2_fill_118 rfl (lv_at hl 0 rfl) ?_
      refine va_get (C := RX2) (T := TX2) (N := 5) hx hb hts i2 hown hK hP 0 rfl rfl 0 (Nat.le_of_ble_eq_true rfl) w8 (fun _ h9 => h9) rfl dX2_fill_119 ?_
      refine lv_iload_n hx hb dX2_fill_122 rfl (lv_at hl 1 rfl) ?_
      refine lv_dup2_11 hx hb dX2_fill_123 rfl rfl ?_
      refine xlald hx hb hK hP 1 rfl hf dX2_fill_124 (fun hf => ?_)
      refine lv_aload_n hx hb dX2_fill_125 rfl (lv_at hl 0 rfl) ?_
      refine va_get (C := RX2) (T := TX2) (N := 5) hx hb hts i2 hown hK hP 0 rfl rfl 0 (Nat.le_of_ble_eq_true rfl) w8 (fun _ h9 => h9) rfl dX2_fill_126 ?_
      refine lv_iload_n hx hb dX2_fill_129 rfl (lv_at hl 1 rfl) ?_
      refine lv_iconst (v := 1) hx hb dX2_fill_130 rfl ?_
      refine lv_iadd hx hb dX2_fill_131 ?_
      refine xlald hx hb hK hP 1 rfl hf dX2_fill_132 (fun hf => ?_)
      refine lv_ladd hx hb dX2_fill_133 ?_
      refine xlast (wx := [(a0, .inr (2, [.ref a1, .int v0.2.1, .int v0.2.2.1, .int v0.2.2.2.1, .int v0.2.2.2.2])), (a1, .inl (ca 1, 17, .inr (.inl ((vp_updL v0.1 (x3).toNatClampNeg ((v0.1 (x3).toNatClampNeg) + (v0.1 (x3 + (1 : Int32)).toNatClampNeg)))))))]) hx hb hK hP hD hS 1 rfl hf dX2_fill_134 rfl (fun H locs hf hP hD hS => ?_)
      obtain ⟨y_7, ey_7, hf⟩ := bnd_el hf
      rw [← ey_7] at hP hD
      obtain ⟨x_8, ex_8, hf⟩ := bnd_el hf
      refine lv_iinc (v := x_8) (lv' := [(3, .int x_8), (0, .ref a0)]) hx hb dX2_fill_135 hl (k := 1) rfl (by rw [ex_8]; rfl) (Nat.le_of_ble_eq_true rfl) rfl (fun ls hl => ?_)
      refine lv_goto (tgt := 114) hx hb dX2_fill_138 (by decide) ?_
      have jb := q114 ((y_7, v0.2)) x_8
      dsimp only at jb
      exact jb hf _ _ _ hP hD hS (lv_sub hl [1, 0] rfl)
  have b114 : ∀ (n : Nat) (v0 : V2) (x3 : Int32), fb_X2_fill_114 n v0 x3 = some v0' → ∀ (H : Heap) (locs : List Loc) (ls : Array Slot), va_P D vwCl [(a0, .inr (2, [.ref a1, .int v0.2.1, .int v0.2.2.1, .int v0.2.2.2.1, .int v0.2.2.2.2])), (a1, .inl (ca 1, 17, .inr (.inl v0.1)))] H → va_D A [(a0, .inr (2, [.ref a1, .int v0.2.1, .int v0.2.2.1, .int v0.2.2.2.1, .int v0.2.2.2.2])), (a1, .inl (ca 1, 17, .inr (.inl v0.1)))] → va_S A s.heap H locs → lv_has ls 5 [(0, .ref a0), (3, .int x3)] → W p l e ({ frames := 1, cells := 0, slots := 0, locals := 24 } : Room) s m args below meth c H locs 0 0 Q (F0 m 114 ls []) := by
    intro n
    induction n with
    | zero => intro v0 x3 hf; exact no_el hf
    | succ n ih => exact bl114 (fb_X2_fill_114 n) ih
  have b102 : ∀ (v0 : V2), fc_X2_fill_102 v0 = some v0' → ∀ (H : Heap) (locs : List Loc) (ls : Array Slot), va_P D vwCl [(a0, .inr (2, [.ref a1, .int v0.2.1, .int v0.2.2.1, .int v0.2.2.2.1, .int v0.2.2.2.2])), (a1, .inl (ca 1, 17, .inr (.inl v0.1)))] H → va_D A [(a0, .inr (2, [.ref a1, .int v0.2.1, .int v0.2.2.1, .int v0.2.2.2.1, .int v0.2.2.2.2])), (a1, .inl (ca 1, 17, .inr (.inl v0.1)))] → va_S A s.heap H locs → lv_has ls 5 [(0, .ref a0)] → W p l e ({ frames := 1, cells := 0, slots := 0, locals := 24 } : Room) s m args below meth c H locs 0 0 Q (F0 m 102 ls []) := by
    intro v0 hf H locs ls hP hD hS hl
    unfold fc_X2_fill_102 at hf
    refine lv_aload_n hx hb dX2_fill_102 rfl (lv_at hl 0 rfl) ?_
    refine va_get (C := RX2) (T := TX2) (N := 5) hx hb hts i2 hown hK hP 0 rfl rfl 1 (Nat.le_of_ble_eq_true rfl) w7 (fun _ h9 => h9) rfl dX2_fill_103 ?_
    refine lv_bipush (v := 15) hx hb dX2_fill_106 rfl ?_
    refine va_mmin hx hb (hml.trans hl.1.symm) hown w0 w1 w2 w3 (Nat.le_of_ble_eq_true rfl) (Nat.le_of_ble_eq_true rfl) (Nat.zero_le _) (Nat.zero_le _) dX2_fill_108 ?_
    refine xnm hf (fun x_5 hf => ?_)
    refine lv_iconst (v := 1) hx hb dX2_fill_111 rfl ?_
    refine lv_isub hx hb dX2_fill_112 ?_
    refine xnm hf (fun x_6 hf => ?_)
    refine lv_istore_n (lv' := [(3, .int x_6), (0, .ref a0)]) hx hb dX2_fill_113 rfl hl (Nat.le_of_ble_eq_true rfl) rfl (fun ls hl => ?_)
    exact b114 FU v0 x_6 hf _ _ _ hP hD hS (lv_sub hl [1, 0] rfl)
  have bl48 : ∀ (k31 : V2 → Int32 → Int32 → Option (V2)) (q31 : ∀ (v0 : V2) (x2 : Int32) (x3 : Int32), k31 v0 x2 x3 = some v0' → ∀ (H : Heap) (locs : List Loc) (ls : Array Slot), va_P D vwCl [(a0, .inr (2, [.ref a1, .int v0.2.1, .int v0.2.2.1, .int v0.2.2.2.1, .int v0.2.2.2.2])), (a1, .inl (ca 1, 17, .inr (.inl v0.1)))] H → va_D A [(a0, .inr (2, [.ref a1, .int v0.2.1, .int v0.2.2.1, .int v0.2.2.2.1, .int v0.2.2.2.2])), (a1, .inl (ca 1, 17, .inr (.inl v0.1)))] → va_S A s.heap H locs → lv_has ls 5 [(0, .ref a0), (2, .int x2), (3, .int x3)] → W p l e ({ frames := 1, cells := 0, slots := 0, locals := 24 } : Room) s m args below meth c H locs 0 0 Q (F0 m 31 ls [])) (k48 : V2 → Int32 → Int32 → Int32 → Option (V2)) (q48 : ∀ (v0 : V2) (x2 : Int32) (x3 : Int32) (x4 : Int32), k48 v0 x2 x3 x4 = some v0' → ∀ (H : Heap) (locs : List Loc) (ls : Array Slot), va_P D vwCl [(a0, .inr (2, [.ref a1, .int v0.2.1, .int v0.2.2.1, .int v0.2.2.2.1, .int v0.2.2.2.2])), (a1, .inl (ca 1, 17, .inr (.inl v0.1)))] H → va_D A [(a0, .inr (2, [.ref a1, .int v0.2.1, .int v0.2.2.1, .int v0.2.2.2.1, .int v0.2.2.2.2])), (a1, .inl (ca 1, 17, .inr (.inl v0.1)))] → va_S A s.heap H locs → lv_has ls 5 [(0, .ref a0), (2, .int x2), (3, .int x3), (4, .int x4)] → W p l e ({ frames := 1, cells := 0, slots := 0, locals := 24 } : Room) s m args below meth c H locs 0 0 Q (F0 m 48 ls [])) (v0 : V2) (x2 : Int32) (x3 : Int32) (x4 : Int32), fl_X2_fill_48 k31 k48 v0 x2 x3 x4 = some v0' → ∀ (H : Heap) (locs : List Loc) (ls : Array Slot), va_P D vwCl [(a0, .inr (2, [.ref a1, .int v0.2.1, .int v0.2.2.1, .int v0.2.2.2.1, .int v0.2.2.2.2])), (a1, .inl (ca 1, 17, .inr (.inl v0.1)))] H → va_D A [(a0, .inr (2, [.ref a1, .int v0.2.1, .int v0.2.2.1, .int v0.2.2.2.1, .int v0.2.2.2.2])), (a1, .inl (ca 1, 17, .inr (.inl v0.1)))] → va_S A s.heap H locs → lv_has ls 5 [(0, .ref a0), (2, .int x2), (3, .int x3), (4, .int x4)] → W p l e ({ frames := 1, cells := 0, slots := 0, locals := 24 } : Room) s m args below meth c H locs 0 0 Q (F0 m 48 ls []) := by
    intro k31 q31 k48 q48 v0 x2 x3 x4 hf H locs ls hP hD hS hl
    unfold fl_X2_fill_48 at hf
    refine lv_iload hx hb dX2_fill_48 (lv_at hl 3 rfl) ?_
    refine xi_lt (tgt := 96) hx hb dX2_fill_50 (by decide) hf (fun hf => ?_) (fun hf => ?_)
    · obtain ⟨x_9, ex_9, hf⟩ := bnd_el hf
      refine lv_iinc (v := x_9) (lv' := [(3, .int x_9), (0, .ref a0), (2, .int x2), (4, .int x4)]) hx hb dX2_fill_96 hl (k := 2) rfl (by rw [ex_9]; rfl) (Nat.le_of_ble_eq_true rfl) rfl (fun ls hl => ?_)
      refine lv_goto (tgt := 31) hx hb dX2_fill_99 (by decide) ?_
      exact q31 v0 x2 x_9 hf _ _ _ hP hD hS (lv_sub hl [1, 2, 0] rfl)
    · refine lv_aload_n hx hb dX2_fill_53 rfl (lv_at hl 0 rfl) ?_
      refine va_get (C := RX2) (T := TX2) (N := 5) hx hb hts i2 hown hK hP 0 rfl rfl 0 (Nat.le_of_ble_eq_true rfl) w8 (fun _ h9 => h9) rfl dX2_fill_54 ?_
      refine lv_iload hx hb dX2_fill_57 (lv_at hl 3 rfl) ?_
      refine lv_iconst (v := 1) hx hb dX2_fill_59 rfl ?_
      refine lv_iadd hx hb dX2_fill_60 ?_
      refine xnm hf (fun x_10 hf => ?_)
      refine lv_dup2_11 hx hb dX2_fill_61 rfl rfl ?_
      refine xlald hx hb hK hP 1 rfl hf dX2_fill_62 (fun hf => ?_)
      refine lv_aload_n hx hb dX2_fill_63 rfl (lv_at hl 0 rfl) ?_
      refine va_get (C := RX2) (T := TX2) (N := 5) hx hb hts i2 hown hK hP 0 rfl rfl 0 (Nat.le_of_ble_eq_true rfl) w8 (fun _ h9 => h9) rfl dX2_fill_64 ?_
      refine lv_iload hx hb dX2_fill_67 (lv_at hl 3 rfl) ?_
      refine xlald hx hb hK hP 1 rfl hf dX2_fill_69 (fun hf => ?_)
      refine lv_iload_n hx hb dX2_fill_70 rfl (lv_at hl 1 rfl) ?_
      refine lv_i2l hx hb dX2_fill_71 rfl ?_
      refine lv_lmul hx hb dX2_fill_72 ?_
      refine lv_ladd hx hb dX2_fill_73 ?_
      refine xlast (wx := [(a0, .inr (2, [.ref a1, .int v0.2.1, .int v0.2.2.1, .int v0.2.2.2.1, .int v0.2.2.2.2])), (a1, .inl (ca 1, 17, .inr (.inl ((vp_updL v0.1 (x_10).toNatClampNeg ((v0.1 (x_10).toNatClampNeg) + ((v0.1 (x4).toNatClampNeg) * (Int32.toInt64 x2))))))))]) hx hb hK hP hD hS 1 rfl hf dX2_fill_74 rfl (fun H locs hf hP hD hS => ?_)
      obtain ⟨y_11, ey_11, hf⟩ := bnd_el hf
      rw [← ey_11] at hP hD
      refine lv_aload_n hx hb dX2_fill_75 rfl (lv_at hl 0 rfl) ?_
      refine va_get (C := RX2) (T := TX2) (N := 5) hx hb hts i2 hown hK hP 0 rfl rfl 0 (Nat.le_of_ble_eq_true rfl) w8 (fun _ h9 => h9) rfl dX2_fill_76 ?_
      refine lv_iload hx hb dX2_fill_79 (lv_at hl 3 rfl) ?_
      refine lv_dup2_11 hx hb dX2_fill_81 rfl rfl ?_
      refine xlald hx hb hK hP 1 rfl hf dX2_fill_82 (fun hf => ?_)
      refine lv_bipush (v := 16) hx hb dX2_fill_83 rfl ?_
      refine lv_iload_n hx hb dX2_fill_85 rfl (lv_at hl 1 rfl) ?_
      refine lv_isub hx hb dX2_fill_86 ?_
      refine lv_i2l hx hb dX2_fill_87 rfl ?_
      refine lv_lmul hx hb dX2_fill_88 ?_
      refine xlast (wx := [(a0, .inr (2, [.ref a1, .int v0.2.1, .int v0.2.2.1, .int v0.2.2.2.1, .int v0.2.2.2.2])), (a1, .inl (ca 1, 17, .inr (.inl ((vp_updL y_11 (x4).toNatClampNeg ((y_11 (x4).toNatClampNeg) * (Int32.toInt64 ((16 : Int32) - x2))))))))]) hx hb hK hP hD hS 1 rfl hf dX2_fill_89 rfl (fun H locs hf hP hD hS => ?_)
      obtain ⟨y_12, ey_12, hf⟩ := bnd_el hf
      rw [← ey_12] at hP hD
      obtain ⟨x_13, ex_13, hf⟩ := bnd_el hf
      refine lv_iinc (v := x_13) (lv' := [(4, .int x_13), (0, .ref a0), (2, .int x2), (3, .int x3)]) hx hb dX2_fill_90 hl (k := 3) rfl (by rw [ex_13]; rfl) (Nat.le_of_ble_eq_true rfl) rfl (fun ls hl => ?_)
      refine lv_goto (tgt := 48) hx hb dX2_fill_93 (by decide) ?_
      have jb := q48 ((y_12, v0.2)) x2 x3 x_13
      dsimp only at jb
      exact jb hf _ _ _ hP hD hS (lv_sub hl [1, 2, 3, 0] rfl)
  have b48 : ∀ (k31 : V2 → Int32 → Int32 → Option (V2)) (q31 : ∀ (v0 : V2) (x2 : Int32) (x3 : Int32), k31 v0 x2 x3 = some v0' → ∀ (H : Heap) (locs : List Loc) (ls : Array Slot), va_P D vwCl [(a0, .inr (2, [.ref a1, .int v0.2.1, .int v0.2.2.1, .int v0.2.2.2.1, .int v0.2.2.2.2])), (a1, .inl (ca 1, 17, .inr (.inl v0.1)))] H → va_D A [(a0, .inr (2, [.ref a1, .int v0.2.1, .int v0.2.2.1, .int v0.2.2.2.1, .int v0.2.2.2.2])), (a1, .inl (ca 1, 17, .inr (.inl v0.1)))] → va_S A s.heap H locs → lv_has ls 5 [(0, .ref a0), (2, .int x2), (3, .int x3)] → W p l e ({ frames := 1, cells := 0, slots := 0, locals := 24 } : Room) s m args below meth c H locs 0 0 Q (F0 m 31 ls [])) (n : Nat) (v0 : V2) (x2 : Int32) (x3 : Int32) (x4 : Int32), fb_X2_fill_48 k31 n v0 x2 x3 x4 = some v0' → ∀ (H : Heap) (locs : List Loc) (ls : Array Slot), va_P D vwCl [(a0, .inr (2, [.ref a1, .int v0.2.1, .int v0.2.2.1, .int v0.2.2.2.1, .int v0.2.2.2.2])), (a1, .inl (ca 1, 17, .inr (.inl v0.1)))] H → va_D A [(a0, .inr (2, [.ref a1, .int v0.2.1, .int v0.2.2.1, .int v0.2.2.2.1, .int v0.2.2.2.2])), (a1, .inl (ca 1, 17, .inr (.inl v0.1)))] → va_S A s.heap H locs → lv_has ls 5 [(0, .ref a0), (2, .int x2), (3, .int x3), (4, .int x4)] → W p l e ({ frames := 1, cells := 0, slots := 0, locals := 24 } : Room) s m args below meth c H locs 0 0 Q (F0 m 48 ls []) := by
    intro k31 q31 n
    induction n with
    | zero => intro v0 x2 x3 x4 hf; exact no_el hf
    | succ n ih => exact bl48 k31 q31 (fb_X2_fill_48 k31 n) ih
  have bl31 : ∀ (k31 : V2 → Int32 → Int32 → Option (V2)) (q31 : ∀ (v0 : V2) (x2 : Int32) (x3 : Int32), k31 v0 x2 x3 = some v0' → ∀ (H : Heap) (locs : List Loc) (ls : Array Slot), va_P D vwCl [(a0, .inr (2, [.ref a1, .int v0.2.1, .int v0.2.2.1, .int v0.2.2.2.1, .int v0.2.2.2.2])), (a1, .inl (ca 1, 17, .inr (.inl v0.1)))] H → va_D A [(a0, .inr (2, [.ref a1, .int v0.2.1, .int v0.2.2.1, .int v0.2.2.2.1, .int v0.2.2.2.2])), (a1, .inl (ca 1, 17, .inr (.inl v0.1)))] → va_S A s.heap H locs → lv_has ls 5 [(0, .ref a0), (2, .int x2), (3, .int x3)] → W p l e ({ frames := 1, cells := 0, slots := 0, locals := 24 } : Room) s m args below meth c H locs 0 0 Q (F0 m 31 ls [])) (v0 : V2) (x2 : Int32) (x3 : Int32), fl_X2_fill_31 k31 v0 x2 x3 = some v0' → ∀ (H : Heap) (locs : List Loc) (ls : Array Slot), va_P D vwCl [(a0, .inr (2, [.ref a1, .int v0.2.1, .int v0.2.2.1, .int v0.2.2.2.1, .int v0.2.2.2.2])), (a1, .inl (ca 1, 17, .inr (.inl v0.1)))] H → va_D A [(a0, .inr (2, [.ref a1, .int v0.2.1, .int v0.2.2.1, .int v0.2.2.2.1, .int v0.2.2.2.2])), (a1, .inl (ca 1, 17, .inr (.inl v0.1)))] → va_S A s.heap H locs → lv_has ls 5 [(0, .ref a0), (2, .int x2), (3, .int x3)] → W p l e ({ frames := 1, cells := 0, slots := 0, locals := 24 } : Room) s m args below meth c H locs 0 0 Q (F0 m 31 ls []) := by
    intro k31 q31 v0 x2 x3 hf H locs ls hP hD hS hl
    unfold fl_X2_fill_31 at hf
    refine lv_iload_n hx hb dX2_fill_31 rfl (lv_at hl 2 rfl) ?_
    refine lv_aload_n hx hb dX2_fill_32 rfl (lv_at hl 0 rfl) ?_
    refine va_get (C := RX2) (T := TX2) (N := 5) hx hb hts i2 hown hK hP 0 rfl rfl 1 (Nat.le_of_ble_eq_true rfl) w7 (fun _ h9 => h9) rfl dX2_fill_33 ?_
    refine xc_ge (tgt := 102) hx hb dX2_fill_36 (by decide) hf (fun hf => ?_) (fun hf => ?_)
    · exact b102 v0 hf _ _ _ hP hD hS (lv_sub hl [0] rfl)
    · refine lv_iload_n hx hb dX2_fill_39 rfl (lv_at hl 2 rfl) ?_
      refine lv_bipush (v := 15) hx hb dX2_fill_40 rfl ?_
      refine xc_ge (tgt := 102) hx hb dX2_fill_42 (by decide) hf (fun hf => ?_) (fun hf => ?_)
      · exact b102 v0 hf _ _ _ hP hD hS (lv_sub hl [0] rfl)
      · refine lv_iload_n hx hb dX2_fill_45 rfl (lv_at hl 2 rfl) ?_
        refine lv_istore (lv' := [(4, .int x3), (0, .ref a0), (2, .int x2), (3, .int x3)]) hx hb dX2_fill_46 hl (Nat.le_of_ble_eq_true rfl) rfl (fun ls hl => ?_)
        exact b48 k31 q31 FU v0 x2 x3 x3 hf _ _ _ hP hD hS (lv_sub hl [1, 2, 3, 0] rfl)
  have b31 : ∀ (n : Nat) (v0 : V2) (x2 : Int32) (x3 : Int32), fb_X2_fill_31 n v0 x2 x3 = some v0' → ∀ (H : Heap) (locs : List Loc) (ls : Array Slot), va_P D vwCl [(a0, .inr (2, [.ref a1, .int v0.2.1, .int v0.2.2.1, .int v0.2.2.2.1, .int v0.2.2.2.2])), (a1, .inl (ca 1, 17, .inr (.inl v0.1)))] H → va_D A [(a0, .inr (2, [.ref a1, .int v0.2.1, .int v0.2.2.1, .int v0.2.2.2.1, .int v0.2.2.2.2])), (a1, .inl (ca 1, 17, .inr (.inl v0.1)))] → va_S A s.heap H locs → lv_has ls 5 [(0, .ref a0), (2, .int x2), (3, .int x3)] → W p l e ({ frames := 1, cells := 0, slots := 0, locals := 24 } : Room) s m args below meth c H locs 0 0 Q (F0 m 31 ls []) := by
    intro n
    induction n with
    | zero => intro v0 x2 x3 hf; exact no_el hf
    | succ n ih => exact bl31 (fb_X2_fill_31 n) ih
  unfold f_X2_fill at hf
  refine lv_aload_n hx hb dX2_fill_0 rfl (lv_at hl 0 rfl) ?_
  refine lv_iconst (v := 0) hx hb dX2_fill_1 rfl ?_
  refine lv_iload_n hx hb dX2_fill_2 rfl (lv_at hl 1 rfl) ?_
  refine lv_bipush (v := 15) hx hb dX2_fill_3 rfl ?_
  refine va_mmin hx hb (hml.trans hl.1.symm) hown w0 w1 w2 w3 (Nat.le_of_ble_eq_true rfl) (Nat.le_of_ble_eq_true rfl) (Nat.zero_le _) (Nat.zero_le _) dX2_fill_5 ?_
  refine xnm hf (fun x_1 hf => ?_)
  refine va_mmax hx hb (hml.trans hl.1.symm) hown w4 w5 w2 w6 (Nat.le_of_ble_eq_true rfl) (Nat.le_of_ble_eq_true rfl) (Nat.zero_le _) (Nat.zero_le _) dX2_fill_8 ?_
  refine xnm hf (fun x_2 hf => ?_)
  refine xput (C := RX2) (T := TX2) (N := 5) (wx := [(a0, .inr (2, [.ref a1, .int x_2, .int v0.2.2.1, .int v0.2.2.2.1, .int v0.2.2.2.2])), (a1, .inl (ca 1, 17, .inr (.inl v0.1)))]) hx hb hts i2 tyX2 tyX2_ok nmX2 hown hK hP hD hS 0 rfl rfl 1 (Nat.le_of_ble_eq_true rfl) w7 (fun _ h9 => h9) rfl rfl rfl rfl (Nat.le_of_ble_eq_true rfl) dX2_fill_11 rfl (fun H locs hP hD hS => ?_)
  refine lv_aload_n hx hb dX2_fill_14 rfl (lv_at hl 0 rfl) ?_
  refine va_get (C := RX2) (T := TX2) (N := 5) hx hb hts i2 hown hK hP 0 rfl rfl 0 (Nat.le_of_ble_eq_true rfl) w8 (fun _ h9 => h9) rfl dX2_fill_15 ?_
  refine lv_lconst (v := 0) hx hb dX2_fill_18 rfl ?_
  obtain ⟨u_3, hc3, hf⟩ := bnd1_el hf
  refine xS_V (As := [.ref a1, .long (0 : Int64)]) (wx := [(a0, .inr (2, [.ref a1, .int x_2, .int v0.2.2.1, .int v0.2.2.2.1, .int v0.2.2.2.2])), (a1, .inl (ca 1, 17, .inr (.inl u_3)))]) ⟨hx, hb, hml, hown, hts⟩ (c_J7_fill_d0a16 l D ca zz a1 _ 17 v0.1 (0 : Int64) u_3 hc3) (va_cwS 2 hts (gS gw_2_35 gw_2_36 gw_1_12 gw_2_37) rfl rfl rfl (by decide +kernel) ⟨(Nat.le_of_ble_eq_true rfl), (Nat.le_of_ble_eq_true rfl)⟩) hK hN hZ hA hP hD hS [1] [none, some 0] (by decide +kernel) rfl rfl rfl rfl hl.1 rfl (Nat.le_of_ble_eq_true rfl) dX2_fill_19 ⟨Nat.zero_le _, Nat.zero_le _⟩ rfl (fun H locs hP hD hS => ?_)
  refine lv_aload_n hx hb dX2_fill_22 rfl (lv_at hl 0 rfl) ?_
  refine va_get (C := RX2) (T := TX2) (N := 5) hx hb hts i2 hown hK hP 0 rfl rfl 0 (Nat.le_of_ble_eq_true rfl) w8 (fun _ h9 => h9) rfl dX2_fill_23 ?_
  refine lv_iconst (v := 0) hx hb dX2_fill_26 rfl ?_
  refine lv_lconst (v := 1) hx hb dX2_fill_27 rfl ?_
  refine xlast (wx := [(a0, .inr (2, [.ref a1, .int x_2, .int v0.2.2.1, .int v0.2.2.2.1, .int v0.2.2.2.2])), (a1, .inl (ca 1, 17, .inr (.inl ((vp_updL u_3 ((0 : Int32)).toNatClampNeg (1 : Int64))))))]) hx hb hK hP hD hS 1 rfl hf dX2_fill_28 rfl (fun H locs hf hP hD hS => ?_)
  obtain ⟨y_4, ey_4, hf⟩ := bnd_el hf
  rw [← ey_4] at hP hD
  refine lv_iconst (v := 0) hx hb dX2_fill_29 rfl ?_
  refine lv_istore_n (lv' := [(3, .int (0 : Int32)), (0, .ref a0), (1, .int p1), (2, .int p2)]) hx hb dX2_fill_30 rfl hl (Nat.le_of_ble_eq_true rfl) rfl (fun ls hl => ?_)
  have jb := b31 FU ((y_4, x_2, v0.2.2)) p2 (0 : Int32)
  dsimp only at jb
  exact jb hf _ _ _ hP hD hS (lv_sub hl [1, 3, 0] rfl)
abbrev wq_X2_leastBy : List Cond := Cond.code yX2_leastBy cX2_leastBy 7 (some .int) :: GL
set_option maxHeartbeats 4000000 in
set_option maxRecDepth 100000 in
theorem c_X2_leastBy (l : Launch) (D : va_G) (ca : Nat → ClassId) (zz : Nat → Nat) (a0 a1 : Nat) (sz : Nat) (v0 : V2) (p1 : Int32) (r : Int32) (hf : f_X2_leastBy v0 p1 = some r) : Met l yX2_leastBy wq_X2_leastBy ({ frames := 1, cells := 0, slots := 0, locals := 21 } : Room) (PR D ca zz [.ref a0, .int p1] sz [(a0, .inr (2, [.ref a1, .int v0.2.1, .int v0.2.2.1, .int v0.2.2.2.1, .int v0.2.2.2.2])), (a1, .inl (ca 1, 17, .inr (.inl v0.1)))]) (QI D ca r [(a0, .inr (2, [.ref a1, .int v0.2.1, .int v0.2.2.1, .int v0.2.2.2.1, .int v0.2.2.2.2])), (a1, .inl (ca 1, 17, .inr (.inl v0.1)))] (va_A [(a0, .inr (2, [.ref a1, .int v0.2.1, .int v0.2.2.1, .int v0.2.2.2.1, .int v0.2.2.2.2])), (a1, .inl (ca 1, 17, .inr (.inl v0.1)))] sz)) 0 0 (va_A [(a0, .inr (2, [.ref a1, .int v0.2.1, .int v0.2.2.1, .int v0.2.2.2.1, .int v0.2.2.2.2])), (a1, .inl (ca 1, 17, .inr (.inl v0.1)))] sz) := by
  refine en (y := yX2_leastBy) (wsm := wq_X2_leastBy) (av := [.ref a0, .int p1]) (cc := cX2_leastBy) (maxL := 7) (ret := (some .int)) (Qf := fun A => (QI D ca r [(a0, .inr (2, [.ref a1, .int v0.2.1, .int v0.2.2.1, .int v0.2.2.2.1, .int v0.2.2.2.2])), (a1, .inl (ca 1, 17, .inr (.inl v0.1)))] A)) (by decide) rfl (Nat.le_of_ble_eq_true rfl) ?_
  intro p e s m args below meth c A Q ls hx hb hr hml hown hts hlocks hnm hA hN hZ hK hQ hP hD hS hl
  have w0 := hts _ (List.mem_cons_of_mem _ gw_1_82)
  have w1 := hts _ (List.mem_cons_of_mem _ gw_2_29)
  have w2 := hts _ (List.mem_cons_of_mem _ gw_2_30)
  have w3 := hts _ (List.mem_cons_of_mem _ gw_1_11)
  have w4 := hts _ (List.mem_cons_of_mem _ gw_2_31)
  have w5 := hts _ (List.mem_cons_of_mem _ gw_1_81)
  have i2 : ∀ w ∈ u_ws RX2 TX2 5, w ∈ wq_X2_leastBy := fun w h => List.mem_cons_of_mem _ (inX2 w h)
  have bl38 : ∀ (k38 : Int32 → Int64 → Int32 → Option (Int32)) (q38 : ∀ (x3 : Int32) (x4 : Int64) (x6 : Int32), k38 x3 x4 x6 = some r → ∀ (H : Heap) (locs : List Loc) (ls : Array Slot), va_P D vwCl [(a0, .inr (2, [.ref a1, .int v0.2.1, .int v0.2.2.1, .int v0.2.2.2.1, .int v0.2.2.2.2])), (a1, .inl (ca 1, 17, .inr (.inl v0.1)))] H → va_D A [(a0, .inr (2, [.ref a1, .int v0.2.1, .int v0.2.2.1, .int v0.2.2.2.1, .int v0.2.2.2.2])), (a1, .inl (ca 1, 17, .inr (.inl v0.1)))] → va_S A s.heap H locs → lv_has ls 7 [(0, .ref a0), (3, .int x3), (4, .long x4), (6, .int x6)] → W p l e ({ frames := 1, cells := 0, slots := 0, locals := 21 } : Room) s m args below meth c H locs 0 0 Q (F0 m 38 ls [])) (x3 : Int32) (x4 : Int64) (x6 : Int32), fl_X2_leastBy_38 v0 k38 x3 x4 x6 = some r → ∀ (H : Heap) (locs : List Loc) (ls : Array Slot), va_P D vwCl [(a0, .inr (2, [.ref a1, .int v0.2.1, .int v0.2.2.1, .int v0.2.2.2.1, .int v0.2.2.2.2])), (a1, .inl (ca 1, 17, .inr (.inl v0.1)))] H → va_D A [(a0, .inr (2, [.ref a1, .int v0.2.1, .int v0.2.2.1, .int v0.2.2.2.1, .int v0.2.2.2.2])), (a1, .inl (ca 1, 17, .inr (.inl v0.1)))] → va_S A s.heap H locs → lv_has ls 7 [(0, .ref a0), (3, .int x3), (4, .long x4), (6, .int x6)] → W p l e ({ frames := 1, cells := 0, slots := 0, locals := 21 } : Room) s m args below meth c H locs 0 0 Q (F0 m 38 ls []) := by
    intro k38 q38 x3 x4 x6 hf H locs ls hP hD hS hl
    unfold fl_X2_leastBy_38 at hf
    refine lv_iload hx hb dX2_leastBy_38 (lv_at hl 3 rfl) ?_
    refine lv_iconst (v := 1) hx hb dX2_leastBy_40 rfl ?_
    refine xc_lt (tgt := 66) hx hb dX2_leastBy_41 (by decide) hf (fun hf => ?_) (fun hf => ?_)
    · refine lv_iload_n hx hb dX2_leastBy_66 rfl (lv_at hl 1 rfl) ?_
      have he := Option.some.inj hf
      have e_r := he
      refine rt_I hx hb hr hlocks hK hP hD hS hQ e_r ?_ dX2_leastBy_67
      rfl
    · refine lv_aload_n hx hb dX2_leastBy_44 rfl (lv_at hl 0 rfl) ?_
      refine va_get (C := RX2) (T := TX2) (N := 5) hx hb hts i2 hown hK hP 0 rfl rfl 0 (Nat.le_of_ble_eq_true rfl) w5 (fun _ h9 => h9) rfl dX2_leastBy_45 ?_
      refine lv_iload hx hb dX2_leastBy_48 (lv_at hl 3 rfl) ?_
      refine xlald hx hb hK hP 1 rfl hf dX2_leastBy_50 (fun hf => ?_)
      refine lv_lload hx hb dX2_leastBy_51 (lv_at hl 2 rfl) ?_
      refine xl_gt (tgt := 66) hx hb dX2_leastBy_53 dX2_leastBy_54 (by decide) hf (fun hf => ?_) (fun hf => ?_)
      · refine lv_iload_n hx hb dX2_leastBy_66 rfl (lv_at hl 1 rfl) ?_
        have he := Option.some.inj hf
        have e_r := he
        refine rt_I hx hb hr hlocks hK hP hD hS hQ e_r ?_ dX2_leastBy_67
        rfl
      · refine lv_iload hx hb dX2_leastBy_57 (lv_at hl 3 rfl) ?_
        refine lv_istore_n (lv' := [(3, .int x6), (0, .ref a0), (4, .long x4), (6, .int x6)]) hx hb dX2_leastBy_59 rfl hl (Nat.le_of_ble_eq_true rfl) rfl (fun ls hl => ?_)
        obtain ⟨x_5, ex_5, hf⟩ := bnd_el hf
        refine lv_iinc (v := x_5) (lv' := [(6, .int x_5), (3, .int x6), (0, .ref a0), (4, .long x4)]) hx hb dX2_leastBy_60 hl (k := 3) rfl (by rw [ex_5]; rfl) (Nat.le_of_ble_eq_true rfl) rfl (fun ls hl => ?_)
        refine lv_goto (tgt := 38) hx hb dX2_leastBy_63 (by decide) ?_
        exact q38 x6 x4 x_5 hf _ _ _ hP hD hS (lv_sub hl [2, 1, 3, 0] rfl)
  have b38 : ∀ (n : Nat) (x3 : Int32) (x4 : Int64) (x6 : Int32), fb_X2_leastBy_38 v0 n x3 x4 x6 = some r → ∀ (H : Heap) (locs : List Loc) (ls : Array Slot), va_P D vwCl [(a0, .inr (2, [.ref a1, .int v0.2.1, .int v0.2.2.1, .int v0.2.2.2.1, .int v0.2.2.2.2])), (a1, .inl (ca 1, 17, .inr (.inl v0.1)))] H → va_D A [(a0, .inr (2, [.ref a1, .int v0.2.1, .int v0.2.2.1, .int v0.2.2.2.1, .int v0.2.2.2.2])), (a1, .inl (ca 1, 17, .inr (.inl v0.1)))] → va_S A s.heap H locs → lv_has ls 7 [(0, .ref a0), (3, .int x3), (4, .long x4), (6, .int x6)] → W p l e ({ frames := 1, cells := 0, slots := 0, locals := 21 } : Room) s m args below meth c H locs 0 0 Q (F0 m 38 ls []) := by
    intro n
    induction n with
    | zero => intro x3 x4 x6 hf; exact no_el hf
    | succ n ih => exact bl38 (fb_X2_leastBy_38 v0 n) ih
  unfold f_X2_leastBy at hf
  refine lv_iconst (v := 4) hx hb dX2_leastBy_0 rfl ?_
  refine lv_aload_n hx hb dX2_leastBy_1 rfl (lv_at hl 0 rfl) ?_
  refine va_get (C := RX2) (T := TX2) (N := 5) hx hb hts i2 hown hK hP 0 rfl rfl 1 (Nat.le_of_ble_eq_true rfl) w0 (fun _ h9 => h9) rfl dX2_leastBy_2 ?_
  refine lv_imul hx hb dX2_leastBy_5 ?_
  refine lv_iload_n hx hb dX2_leastBy_6 rfl (lv_at hl 1 rfl) ?_
  refine lv_isub hx hb dX2_leastBy_7 ?_
  refine xnm hf (fun x_1 hf => ?_)
  refine lv_istore_n (lv' := [(2, .int x_1), (0, .ref a0), (1, .int p1)]) hx hb dX2_leastBy_8 rfl hl (Nat.le_of_ble_eq_true rfl) rfl (fun ls hl => ?_)
  refine lv_aload_n hx hb dX2_leastBy_9 rfl (lv_at hl 1 rfl) ?_
  refine va_get (C := RX2) (T := TX2) (N := 5) hx hb hts i2 hown hK hP 0 rfl rfl 1 (Nat.le_of_ble_eq_true rfl) w0 (fun _ h9 => h9) rfl dX2_leastBy_10 ?_
  refine lv_iconst (v := 1) hx hb dX2_leastBy_13 rfl ?_
  refine lv_iadd hx hb dX2_leastBy_14 ?_
  refine xnm hf (fun x_2 hf => ?_)
  refine lv_istore_n (lv' := [(3, .int x_2), (2, .int x_1), (0, .ref a0), (1, .int p1)]) hx hb dX2_leastBy_15 rfl hl (Nat.le_of_ble_eq_true rfl) rfl (fun ls hl => ?_)
  refine lv_iload_n hx hb dX2_leastBy_16 rfl (lv_at hl 1 rfl) ?_
  refine xi_ge (tgt := 22) hx hb dX2_leastBy_17 (by decide) hf (fun hf => ?_) (fun hf => ?_)
  · refine lv_lconst (v := 1) hx hb dX2_leastBy_22 rfl ?_
    refine lv_iload_n hx hb dX2_leastBy_23 rfl (lv_at hl 1 rfl) ?_
    refine lv_lshl (v := jlshl (1 : Int64) x_1) hx hb dX2_leastBy_24 rfl ?_
    refine xnml hf (fun x_3 hf => ?_)
    refine lv_lstore (lv' := [(4, .long x_3), (3, .int x_2), (2, .int x_1), (0, .ref a0), (1, .int p1)]) hx hb dX2_leastBy_25 hl (Nat.le_of_ble_eq_true rfl) rfl (fun ls hl => ?_)
    refine lv_aload_n hx hb dX2_leastBy_27 rfl (lv_at hl 3 rfl) ?_
    refine va_get (C := RX2) (T := TX2) (N := 5) hx hb hts i2 hown hK hP 0 rfl rfl 1 (Nat.le_of_ble_eq_true rfl) w0 (fun _ h9 => h9) rfl dX2_leastBy_28 ?_
    refine lv_bipush (v := 15) hx hb dX2_leastBy_31 rfl ?_
    refine va_mmin hx hb (hml.trans hl.1.symm) hown w1 w2 w3 w4 (Nat.le_of_ble_eq_true rfl) (Nat.le_of_ble_eq_true rfl) (Nat.zero_le _) (Nat.zero_le _) dX2_leastBy_33 ?_
    refine xnm hf (fun x_4 hf => ?_)
    refine lv_istore (lv' := [(6, .int x_4), (4, .long x_3), (3, .int x_2), (2, .int x_1), (0, .ref a0), (1, .int p1)]) hx hb dX2_leastBy_36 hl (Nat.le_of_ble_eq_true rfl) rfl (fun ls hl => ?_)
    exact b38 FU x_2 x_3 x_4 hf _ _ _ hP hD hS (lv_sub hl [4, 2, 1, 0] rfl)
  · refine lv_iload_n hx hb dX2_leastBy_20 rfl (lv_at hl 0 rfl) ?_
    have he := Option.some.inj hf
    have e_r := he
    refine rt_I hx hb hr hlocks hK hP hD hS hQ e_r ?_ dX2_leastBy_21
    rfl
abbrev wq_X2_setLimits : List Cond := Cond.code yX2_setLimits cX2_setLimits 4 none :: GL
set_option maxHeartbeats 4000000 in
set_option maxRecDepth 100000 in
theorem c_X2_setLimits (l : Launch) (D : va_G) (ca : Nat → ClassId) (zz : Nat → Nat) (a0 a1 : Nat) (sz : Nat) (v0 : V2) (p1 : Int32) (p2 : Int32) (p3 : Int32) (v0' : V2) (hf : f_X2_setLimits v0 p1 p2 p3 = some v0') : Met l yX2_setLimits wq_X2_setLimits ({ frames := 2, cells := 0, slots := 0, locals := 48 } : Room) (PR D ca zz [.ref a0, .int p1, .int p2, .int p3] sz [(a0, .inr (2, [.ref a1, .int v0.2.1, .int v0.2.2.1, .int v0.2.2.2.1, .int v0.2.2.2.2])), (a1, .inl (ca 1, 17, .inr (.inl v0.1)))]) (QV D ca [(a0, .inr (2, [.ref a1, .int v0'.2.1, .int v0'.2.2.1, .int v0'.2.2.2.1, .int v0'.2.2.2.2])), (a1, .inl (ca 1, 17, .inr (.inl v0'.1)))] (va_A [(a0, .inr (2, [.ref a1, .int v0.2.1, .int v0.2.2.1, .int v0.2.2.2.1, .int v0.2.2.2.2])), (a1, .inl (ca 1, 17, .inr (.inl v0.1)))] sz)) 0 0 (va_A [(a0, .inr (2, [.ref a1, .int v0.2.1, .int v0.2.2.1, .int v0.2.2.2.1, .int v0.2.2.2.2])), (a1, .inl (ca 1, 17, .inr (.inl v0.1)))] sz) := by
  refine en (y := yX2_setLimits) (wsm := wq_X2_setLimits) (av := [.ref a0, .int p1, .int p2, .int p3]) (cc := cX2_setLimits) (maxL := 4) (ret := none) (Qf := fun A => (QV D ca [(a0, .inr (2, [.ref a1, .int v0'.2.1, .int v0'.2.2.1, .int v0'.2.2.2.1, .int v0'.2.2.2.2])), (a1, .inl (ca 1, 17, .inr (.inl v0'.1)))] A)) (by decide) rfl (Nat.le_of_ble_eq_true rfl) ?_
  intro p e s m args below meth c A Q ls hx hb hr hml hown hts hlocks hnm hA hN hZ hK hQ hP hD hS hl
  have w0 := hts _ (List.mem_cons_of_mem _ gw_1_83)
  have w1 := hts _ (List.mem_cons_of_mem _ gw_1_86)
  have w2 := hts _ (List.mem_cons_of_mem _ gw_1_89)
  have i2 : ∀ w ∈ u_ws RX2 TX2 5, w ∈ wq_X2_setLimits := fun w h => List.mem_cons_of_mem _ (inX2 w h)
  unfold f_X2_setLimits at hf
  refine lv_aload_n hx hb dX2_setLimits_0 rfl (lv_at hl 0 rfl) ?_
  refine lv_iload_n hx hb dX2_setLimits_1 rfl (lv_at hl 1 rfl) ?_
  refine lv_iload_n hx hb dX2_setLimits_2 rfl (lv_at hl 2 rfl) ?_
  obtain ⟨r_1, hc1, hf⟩ := bnd1_el hf
  refine xS_I (As := [.int p1, .int p2]) (wx := [(a0, .inr (2, [.ref a1, .int v0.2.1, .int v0.2.2.1, .int v0.2.2.2.1, .int v0.2.2.2.2])), (a1, .inl (ca 1, 17, .inr (.inl v0.1)))]) ⟨hx, hb, hml, hown, hts⟩ (c_X2_leastRepeats l D ca zz  _ p1 p2 r_1 hc1) (va_cwS 2 hts (gS gw_2_22 gw_2_23 gw_1_4 gw_2_24) rfl rfl rfl (by decide +kernel) ⟨(Nat.le_of_ble_eq_true rfl), (Nat.le_of_ble_eq_true rfl)⟩) hK hN hZ hA hP hD hS [] [none, none] (by decide +kernel) rfl rfl rfl rfl hl.1 rfl (Nat.le_of_ble_eq_true rfl) dX2_setLimits_3 ⟨Nat.zero_le _, Nat.zero_le _⟩ rfl (fun H locs hP hD hS => ?_)
  refine xput (C := RX2) (T := TX2) (N := 5) (wx := [(a0, .inr (2, [.ref a1, .int v0.2.1, .int r_1, .int v0.2.2.2.1, .int v0.2.2.2.2])), (a1, .inl (ca 1, 17, .inr (.inl v0.1)))]) hx hb hts i2 tyX2 tyX2_ok nmX2 hown hK hP hD hS 0 rfl rfl 2 (Nat.le_of_ble_eq_true rfl) w0 (fun _ h9 => h9) rfl rfl rfl rfl (Nat.le_of_ble_eq_true rfl) dX2_setLimits_6 rfl (fun H locs hP hD hS => ?_)
  refine lv_aload_n hx hb dX2_setLimits_9 rfl (lv_at hl 0 rfl) ?_
  refine lv_iload_n hx hb dX2_setLimits_10 rfl (lv_at hl 3 rfl) ?_
  refine lv_iconst (v := 1) hx hb dX2_setLimits_11 rfl ?_
  refine lv_isub hx hb dX2_setLimits_12 ?_
  refine lv_iload_n hx hb dX2_setLimits_13 rfl (lv_at hl 1 rfl) ?_
  obtain ⟨u_2, hc2, hf⟩ := bnd1_el hf
  have hMhc2 := fun sz => c_X2_fill l D ca zz a0 a1 sz ((v0.1, v0.2.1, r_1, v0.2.2.2)) (p3 - (1 : Int32)) p1 u_2 hc2
  dsimp only at hMhc2
  refine xV_V (As := [.int (p3 - (1 : Int32)), .int p1]) (wx := [(a0, .inr (2, [.ref a1, .int u_2.2.1, .int u_2.2.2.1, .int u_2.2.2.2.1, .int u_2.2.2.2.2])), (a1, .inl (ca 1, 17, .inr (.inl u_2.1)))]) ⟨hx, hb, hml, hown, hts⟩ (hMhc2 _) (cwV 2 hts (gV gw_2_25 gw_2_26 gw_2_27 gw_1_4 gw_2_28) rfl rfl rfl (by decide +kernel) ⟨(Nat.le_of_ble_eq_true rfl), (Nat.le_of_ble_eq_true rfl)⟩) hK hN hZ hA hP hD hS [0, 1] [some 0, some 1] (by decide +kernel) rfl rfl rfl rfl 0 rfl rfl hl.1 rfl (Nat.le_of_ble_eq_true rfl) dX2_setLimits_14 ⟨Nat.zero_le _, Nat.zero_le _⟩ rfl (fun H locs hP hD hS => ?_)
  refine lv_aload_n hx hb dX2_setLimits_17 rfl (lv_at hl 0 rfl) ?_
  refine lv_aload_n hx hb dX2_setLimits_18 rfl (lv_at hl 0 rfl) ?_
  refine lv_iload_n hx hb dX2_setLimits_19 rfl (lv_at hl 2 rfl) ?_
  obtain ⟨r_3, hc3, hf⟩ := bnd1_el hf
  refine xV_I (As := [.int p2]) (wx := [(a0, .inr (2, [.ref a1, .int u_2.2.1, .int u_2.2.2.1, .int u_2.2.2.2.1, .int u_2.2.2.2.2])), (a1, .inl (ca 1, 17, .inr (.inl u_2.1)))]) ⟨hx, hb, hml, hown, hts⟩ (c_X2_leastBy l D ca zz a0 a1 _ u_2 p2 r_3 hc3) (cwV 1 hts (gV gw_2_38 gw_2_39 gw_2_40 gw_1_4 gw_2_41) rfl rfl rfl (by decide +kernel) ⟨(Nat.le_of_ble_eq_true rfl), (Nat.le_of_ble_eq_true rfl)⟩) hK hN hZ hA hP hD hS [0, 1] [some 0, some 1] (by decide +kernel) rfl rfl rfl rfl 0 rfl rfl hl.1 rfl (Nat.le_of_ble_eq_true rfl) dX2_setLimits_20 ⟨Nat.zero_le _, Nat.zero_le _⟩ rfl (fun H locs hP hD hS => ?_)
  refine lv_iconst (v := 1) hx hb dX2_setLimits_23 rfl ?_
  refine lv_iadd hx hb dX2_setLimits_24 ?_
  refine xnm hf (fun x_4 hf => ?_)
  refine xput (C := RX2) (T := TX2) (N := 5) (wx := [(a0, .inr (2, [.ref a1, .int u_2.2.1, .int u_2.2.2.1, .int x_4, .int u_2.2.2.2.2])), (a1, .inl (ca 1, 17, .inr (.inl u_2.1)))]) hx hb hts i2 tyX2 tyX2_ok nmX2 hown hK hP hD hS 0 rfl rfl 3 (Nat.le_of_ble_eq_true rfl) w1 (fun _ h9 => h9) rfl rfl rfl rfl (Nat.le_of_ble_eq_true rfl) dX2_setLimits_25 rfl (fun H locs hP hD hS => ?_)
  refine lv_aload_n hx hb dX2_setLimits_28 rfl (lv_at hl 0 rfl) ?_
  refine lv_iload_n hx hb dX2_setLimits_29 rfl (lv_at hl 3 rfl) ?_
  refine lv_iconst (v := 1) hx hb dX2_setLimits_30 rfl ?_
  refine lv_isub hx hb dX2_setLimits_31 ?_
  refine lv_bipush (v := 8) hx hb dX2_setLimits_32 rfl ?_
  obtain ⟨u_5, hc5, hf⟩ := bnd1_el hf
  have hMhc5 := fun sz => c_X2_fill l D ca zz a0 a1 sz ((u_2.1, u_2.2.1, u_2.2.2.1, x_4, u_2.2.2.2.2)) (p3 - (1 : Int32)) (8 : Int32) u_5 hc5
  dsimp only at hMhc5
  refine xV_V (As := [.int (p3 - (1 : Int32)), .int (8 : Int32)]) (wx := [(a0, .inr (2, [.ref a1, .int u_5.2.1, .int u_5.2.2.1, .int u_5.2.2.2.1, .int u_5.2.2.2.2])), (a1, .inl (ca 1, 17, .inr (.inl u_5.1)))]) ⟨hx, hb, hml, hown, hts⟩ (hMhc5 _) (cwV 2 hts (gV gw_2_25 gw_2_26 gw_2_27 gw_1_4 gw_2_28) rfl rfl rfl (by decide +kernel) ⟨(Nat.le_of_ble_eq_true rfl), (Nat.le_of_ble_eq_true rfl)⟩) hK hN hZ hA hP hD hS [0, 1] [some 0, some 1] (by decide +kernel) rfl rfl rfl rfl 0 rfl rfl hl.1 rfl (Nat.le_of_ble_eq_true rfl) dX2_setLimits_34 ⟨Nat.zero_le _, Nat.zero_le _⟩ rfl (fun H locs hP hD hS => ?_)
  refine lv_aload_n hx hb dX2_setLimits_37 rfl (lv_at hl 0 rfl) ?_
  refine lv_aload_n hx hb dX2_setLimits_38 rfl (lv_at hl 0 rfl) ?_
  refine lv_iload_n hx hb dX2_setLimits_39 rfl (lv_at hl 2 rfl) ?_
  obtain ⟨r_6, hc6, hf⟩ := bnd1_el hf
  refine xV_I (As := [.int p2]) (wx := [(a0, .inr (2, [.ref a1, .int u_5.2.1, .int u_5.2.2.1, .int u_5.2.2.2.1, .int u_5.2.2.2.2])), (a1, .inl (ca 1, 17, .inr (.inl u_5.1)))]) ⟨hx, hb, hml, hown, hts⟩ (c_X2_leastBy l D ca zz a0 a1 _ u_5 p2 r_6 hc6) (cwV 1 hts (gV gw_2_38 gw_2_39 gw_2_40 gw_1_4 gw_2_41) rfl rfl rfl (by decide +kernel) ⟨(Nat.le_of_ble_eq_true rfl), (Nat.le_of_ble_eq_true rfl)⟩) hK hN hZ hA hP hD hS [0, 1] [some 0, some 1] (by decide +kernel) rfl rfl rfl rfl 0 rfl rfl hl.1 rfl (Nat.le_of_ble_eq_true rfl) dX2_setLimits_40 ⟨Nat.zero_le _, Nat.zero_le _⟩ rfl (fun H locs hP hD hS => ?_)
  refine xput (C := RX2) (T := TX2) (N := 5) (wx := [(a0, .inr (2, [.ref a1, .int u_5.2.1, .int u_5.2.2.1, .int u_5.2.2.2.1, .int r_6])), (a1, .inl (ca 1, 17, .inr (.inl u_5.1)))]) hx hb hts i2 tyX2 tyX2_ok nmX2 hown hK hP hD hS 0 rfl rfl 4 (Nat.le_of_ble_eq_true rfl) w2 (fun _ h9 => h9) rfl rfl rfl rfl (Nat.le_of_ble_eq_true rfl) dX2_setLimits_43 rfl (fun H locs hP hD hS => ?_)
  have he := Option.some.inj hf
  have e_v0 := he
  refine rt_V hx hb hr hlocks hK hP hD hS hQ ?_ dX2_setLimits_46
  simp only [← e_v0]
abbrev wq_X8_begin : List Cond := Cond.code yX8_begin cX8_begin 2 none :: GL
set_option maxHeartbeats 4000000 in
set_option maxRecDepth 100000 in
theorem c_X8_begin (l : Launch) (D : va_G) (ca : Nat → ClassId) (zz : Nat → Nat) (a0 : Nat) (sz : Nat) (v0 : V8) (p1 : Int32) (v0' : V8) (hf : f_X8_begin v0 p1 = some v0') : Met l yX8_begin wq_X8_begin ({ frames := 0, cells := 0, slots := 0, locals := 0 } : Room) (PR D ca zz [.ref a0, .int p1] sz [(a0, .inr (8, [.int v0.1, .int v0.2.1, .int v0.2.2]))]) (QV D ca [(a0, .inr (8, [.int v0'.1, .int v0'.2.1, .int v0'.2.2]))] (va_A [(a0, .inr (8, [.int v0.1, .int v0.2.1, .int v0.2.2]))] sz)) 0 0 (va_A [(a0, .inr (8, [.int v0.1, .int v0.2.1, .int v0.2.2]))] sz) := by
  refine en (y := yX8_begin) (wsm := wq_X8_begin) (av := [.ref a0, .int p1]) (cc := cX8_begin) (maxL := 2) (ret := none) (Qf := fun A => (QV D ca [(a0, .inr (8, [.int v0'.1, .int v0'.2.1, .int v0'.2.2]))] A)) (by decide) rfl (Nat.le_of_ble_eq_true rfl) ?_
  intro p e s m args below meth c A Q ls hx hb hr hml hown hts hlocks hnm hA hN hZ hK hQ hP hD hS hl
  have w0 := hts _ (List.mem_cons_of_mem _ gw_1_110)
  have w1 := hts _ (List.mem_cons_of_mem _ gw_1_111)
  have w2 := hts _ (List.mem_cons_of_mem _ gw_1_113)
  have i8 : ∀ w ∈ u_ws RX8 TX8 3, w ∈ wq_X8_begin := fun w h => List.mem_cons_of_mem _ (inX8 w h)
  unfold f_X8_begin at hf
  refine lv_aload_n hx hb dX8_begin_0 rfl (lv_at hl 0 rfl) ?_
  refine lv_iload_n hx hb dX8_begin_1 rfl (lv_at hl 1 rfl) ?_
  refine xput (C := RX8) (T := TX8) (N := 3) (wx := [(a0, .inr (8, [.int p1, .int v0.2.1, .int v0.2.2]))]) hx hb hts i8 tyX8 tyX8_ok nmX8 hown hK hP hD hS 0 rfl rfl 0 (Nat.le_of_ble_eq_true rfl) w0 (fun _ h9 => h9) rfl rfl rfl rfl (Nat.le_of_ble_eq_true rfl) dX8_begin_2 rfl (fun H locs hP hD hS => ?_)
  refine lv_aload_n hx hb dX8_begin_5 rfl (lv_at hl 0 rfl) ?_
  refine lv_iconst (v := 0) hx hb dX8_begin_6 rfl ?_
  refine xput (C := RX8) (T := TX8) (N := 3) (wx := [(a0, .inr (8, [.int p1, .int (0 : Int32), .int v0.2.2]))]) hx hb hts i8 tyX8 tyX8_ok nmX8 hown hK hP hD hS 0 rfl rfl 1 (Nat.le_of_ble_eq_true rfl) w1 (fun _ h9 => h9) rfl rfl rfl rfl (Nat.le_of_ble_eq_true rfl) dX8_begin_7 rfl (fun H locs hP hD hS => ?_)
  refine lv_aload_n hx hb dX8_begin_10 rfl (lv_at hl 0 rfl) ?_
  refine lv_iconst (v := 0) hx hb dX8_begin_11 rfl ?_
  refine xput (C := RX8) (T := TX8) (N := 3) (wx := [(a0, .inr (8, [.int p1, .int (0 : Int32), .int (0 : Int32)]))]) hx hb hts i8 tyX8 tyX8_ok nmX8 hown hK hP hD hS 0 rfl rfl 2 (Nat.le_of_ble_eq_true rfl) w2 (fun _ h9 => h9) rfl rfl rfl rfl (Nat.le_of_ble_eq_true rfl) dX8_begin_12 rfl (fun H locs hP hD hS => ?_)
  have he := Option.some.inj hf
  have e_v0 := he
  refine rt_V hx hb hr hlocks hK hP hD hS hQ ?_ dX8_begin_15
  simp only [← e_v0]
abbrev wq_X1_clear : List Cond := Cond.code yX1_clear cX1_clear 1 none :: GL
set_option maxHeartbeats 4000000 in
set_option maxRecDepth 100000 in
theorem c_X1_clear (l : Launch) (D : va_G) (ca : Nat → ClassId) (zz : Nat → Nat) (a0 : Nat) (sz : Nat) (v0 : V1) (v0' : V1) (hf : f_X1_clear v0 = some v0') : Met l yX1_clear wq_X1_clear ({ frames := 0, cells := 0, slots := 0, locals := 0 } : Room) (PR D ca zz [.ref a0] sz [(a0, .inr (1, [.int v0.1, .int v0.2.1, .int v0.2.2.1, .int v0.2.2.2.1, .int v0.2.2.2.2.1, .int v0.2.2.2.2.2]))]) (QV D ca [(a0, .inr (1, [.int v0'.1, .int v0'.2.1, .int v0'.2.2.1, .int v0'.2.2.2.1, .int v0'.2.2.2.2.1, .int v0'.2.2.2.2.2]))] (va_A [(a0, .inr (1, [.int v0.1, .int v0.2.1, .int v0.2.2.1, .int v0.2.2.2.1, .int v0.2.2.2.2.1, .int v0.2.2.2.2.2]))] sz)) 0 0 (va_A [(a0, .inr (1, [.int v0.1, .int v0.2.1, .int v0.2.2.1, .int v0.2.2.2.1, .int v0.2.2.2.2.1, .int v0.2.2.2.2.2]))] sz) := by
  refine en (y := yX1_clear) (wsm := wq_X1_clear) (av := [.ref a0]) (cc := cX1_clear) (maxL := 1) (ret := none) (Qf := fun A => (QV D ca [(a0, .inr (1, [.int v0'.1, .int v0'.2.1, .int v0'.2.2.1, .int v0'.2.2.2.1, .int v0'.2.2.2.2.1, .int v0'.2.2.2.2.2]))] A)) (by decide) rfl (Nat.le_of_ble_eq_true rfl) ?_
  intro p e s m args below meth c A Q ls hx hb hr hml hown hts hlocks hnm hA hN hZ hK hQ hP hD hS hl
  have w0 := hts _ (List.mem_cons_of_mem _ gw_1_127)
  have w1 := hts _ (List.mem_cons_of_mem _ gw_1_130)
  have w2 := hts _ (List.mem_cons_of_mem _ gw_1_131)
  have w3 := hts _ (List.mem_cons_of_mem _ gw_1_133)
  have w4 := hts _ (List.mem_cons_of_mem _ gw_1_134)
  have w5 := hts _ (List.mem_cons_of_mem _ gw_1_137)
  have i1 : ∀ w ∈ u_ws RX1 TX1 6, w ∈ wq_X1_clear := fun w h => List.mem_cons_of_mem _ (inX1 w h)
  unfold f_X1_clear at hf
  refine lv_aload_n hx hb dX1_clear_0 rfl (lv_at hl 0 rfl) ?_
  refine lv_iconst (v := 0) hx hb dX1_clear_1 rfl ?_
  refine xput (C := RX1) (T := TX1) (N := 6) (wx := [(a0, .inr (1, [.int (0 : Int32), .int v0.2.1, .int v0.2.2.1, .int v0.2.2.2.1, .int v0.2.2.2.2.1, .int v0.2.2.2.2.2]))]) hx hb hts i1 tyX1 tyX1_ok nmX1 hown hK hP hD hS 0 rfl rfl 0 (Nat.le_of_ble_eq_true rfl) w0 (fun _ h9 => h9) rfl rfl rfl rfl (Nat.le_of_ble_eq_true rfl) dX1_clear_2 rfl (fun H locs hP hD hS => ?_)
  refine lv_aload_n hx hb dX1_clear_5 rfl (lv_at hl 0 rfl) ?_
  refine lv_iconst (v := 0) hx hb dX1_clear_6 rfl ?_
  refine xput (C := RX1) (T := TX1) (N := 6) (wx := [(a0, .inr (1, [.int (0 : Int32), .int (0 : Int32), .int v0.2.2.1, .int v0.2.2.2.1, .int v0.2.2.2.2.1, .int v0.2.2.2.2.2]))]) hx hb hts i1 tyX1 tyX1_ok nmX1 hown hK hP hD hS 0 rfl rfl 1 (Nat.le_of_ble_eq_true rfl) w1 (fun _ h9 => h9) rfl rfl rfl rfl (Nat.le_of_ble_eq_true rfl) dX1_clear_7 rfl (fun H locs hP hD hS => ?_)
  refine lv_aload_n hx hb dX1_clear_10 rfl (lv_at hl 0 rfl) ?_
  refine lv_iconst (v := 0) hx hb dX1_clear_11 rfl ?_
  refine xput (C := RX1) (T := TX1) (N := 6) (wx := [(a0, .inr (1, [.int (0 : Int32), .int (0 : Int32), .int (0 : Int32), .int v0.2.2.2.1, .int v0.2.2.2.2.1, .int v0.2.2.2.2.2]))]) hx hb hts i1 tyX1 tyX1_ok nmX1 hown hK hP hD hS 0 rfl rfl 2 (Nat.le_of_ble_eq_true rfl) w2 (fun _ h9 => h9) rfl rfl rfl rfl (Nat.le_of_ble_eq_true rfl) dX1_clear_12 rfl (fun H locs hP hD hS => ?_)
  refine lv_aload_n hx hb dX1_clear_15 rfl (lv_at hl 0 rfl) ?_
  refine lv_iconst (v := 0) hx hb dX1_clear_16 rfl ?_
  refine xput (C := RX1) (T := TX1) (N := 6) (wx := [(a0, .inr (1, [.int (0 : Int32), .int (0 : Int32), .int (0 : Int32), .int (0 : Int32), .int v0.2.2.2.2.1, .int v0.2.2.2.2.2]))]) hx hb hts i1 tyX1 tyX1_ok nmX1 hown hK hP hD hS 0 rfl rfl 3 (Nat.le_of_ble_eq_true rfl) w3 (fun _ h9 => h9) rfl rfl rfl rfl (Nat.le_of_ble_eq_true rfl) dX1_clear_17 rfl (fun H locs hP hD hS => ?_)
  refine lv_aload_n hx hb dX1_clear_20 rfl (lv_at hl 0 rfl) ?_
  refine lv_iconst (v := 0) hx hb dX1_clear_21 rfl ?_
  refine xput (C := RX1) (T := TX1) (N := 6) (wx := [(a0, .inr (1, [.int (0 : Int32), .int (0 : Int32), .int (0 : Int32), .int (0 : Int32), .int (0 : Int32), .int v0.2.2.2.2.2]))]) hx hb hts i1 tyX1 tyX1_ok nmX1 hown hK hP hD hS 0 rfl rfl 4 (Nat.le_of_ble_eq_true rfl) w4 (fun _ h9 => h9) rfl rfl rfl rfl (Nat.le_of_ble_eq_true rfl) dX1_clear_22 rfl (fun H locs hP hD hS => ?_)
  refine lv_aload_n hx hb dX1_clear_25 rfl (lv_at hl 0 rfl) ?_
  refine lv_iconst (v := 0) hx hb dX1_clear_26 rfl ?_
  refine xput (C := RX1) (T := TX1) (N := 6) (wx := [(a0, .inr (1, [.int (0 : Int32), .int (0 : Int32), .int (0 : Int32), .int (0 : Int32), .int (0 : Int32), .int (0 : Int32)]))]) hx hb hts i1 tyX1 tyX1_ok nmX1 hown hK hP hD hS 0 rfl rfl 5 (Nat.le_of_ble_eq_true rfl) w5 (fun _ h9 => h9) rfl rfl rfl rfl (Nat.le_of_ble_eq_true rfl) dX1_clear_27 rfl (fun H locs hP hD hS => ?_)
  have he := Option.some.inj hf
  have e_v0 := he
  refine rt_V hx hb hr hlocks hK hP hD hS hQ ?_ dX1_clear_30
  simp only [← e_v0]
abbrev wq_X4_clear : List Cond := Cond.code yX4_clear cX4_clear 1 none :: GL
set_option maxHeartbeats 4000000 in
set_option maxRecDepth 100000 in
theorem c_X4_clear (l : Launch) (D : va_G) (ca : Nat → ClassId) (zz : Nat → Nat) (a0 a1 : Nat) (sz : Nat) (v0 : V4) (v0' : V4) (hf : f_X4_clear v0 = some v0') : Met l yX4_clear wq_X4_clear ({ frames := 0, cells := 0, slots := 0, locals := 0 } : Room) (PR D ca zz [.ref a0] sz [(a0, .inr (4, [.ref a1, .int v0.2.1, .int v0.2.2])), (a1, .inl (ca 0, 512, .inl v0.1))]) (QV D ca [(a0, .inr (4, [.ref a1, .int v0'.2.1, .int v0'.2.2])), (a1, .inl (ca 0, 512, .inl v0'.1))] (va_A [(a0, .inr (4, [.ref a1, .int v0.2.1, .int v0.2.2])), (a1, .inl (ca 0, 512, .inl v0.1))] sz)) 0 0 (va_A [(a0, .inr (4, [.ref a1, .int v0.2.1, .int v0.2.2])), (a1, .inl (ca 0, 512, .inl v0.1))] sz) := by
  refine en (y := yX4_clear) (wsm := wq_X4_clear) (av := [.ref a0]) (cc := cX4_clear) (maxL := 1) (ret := none) (Qf := fun A => (QV D ca [(a0, .inr (4, [.ref a1, .int v0'.2.1, .int v0'.2.2])), (a1, .inl (ca 0, 512, .inl v0'.1))] A)) (by decide) rfl (Nat.le_of_ble_eq_true rfl) ?_
  intro p e s m args below meth c A Q ls hx hb hr hml hown hts hlocks hnm hA hN hZ hK hQ hP hD hS hl
  have w0 := hts _ (List.mem_cons_of_mem _ gw_1_166)
  have w1 := hts _ (List.mem_cons_of_mem _ gw_1_167)
  have i4 : ∀ w ∈ u_ws RX4 TX4 3, w ∈ wq_X4_clear := fun w h => List.mem_cons_of_mem _ (inX4 w h)
  unfold f_X4_clear at hf
  refine lv_aload_n hx hb dX4_clear_0 rfl (lv_at hl 0 rfl) ?_
  refine lv_iconst (v := 0) hx hb dX4_clear_1 rfl ?_
  refine xput (C := RX4) (T := TX4) (N := 3) (wx := [(a0, .inr (4, [.ref a1, .int (0 : Int32), .int v0.2.2])), (a1, .inl (ca 0, 512, .inl v0.1))]) hx hb hts i4 tyX4 tyX4_ok nmX4 hown hK hP hD hS 0 rfl rfl 1 (Nat.le_of_ble_eq_true rfl) w0 (fun _ h9 => h9) rfl rfl rfl rfl (Nat.le_of_ble_eq_true rfl) dX4_clear_2 rfl (fun H locs hP hD hS => ?_)
  refine lv_aload_n hx hb dX4_clear_5 rfl (lv_at hl 0 rfl) ?_
  refine lv_iconst (v := 0) hx hb dX4_clear_6 rfl ?_
  refine xput (C := RX4) (T := TX4) (N := 3) (wx := [(a0, .inr (4, [.ref a1, .int (0 : Int32), .int (0 : Int32)])), (a1, .inl (ca 0, 512, .inl v0.1))]) hx hb hts i4 tyX4 tyX4_ok nmX4 hown hK hP hD hS 0 rfl rfl 2 (Nat.le_of_ble_eq_true rfl) w1 (fun _ h9 => h9) rfl rfl rfl rfl (Nat.le_of_ble_eq_true rfl) dX4_clear_7 rfl (fun H locs hP hD hS => ?_)
  have he := Option.some.inj hf
  have e_v0 := he
  refine rt_V hx hb hr hlocks hK hP hD hS hQ ?_ dX4_clear_10
  simp only [← e_v0]
abbrev wq_X3_begin : List Cond := Cond.code yX3_begin cX3_begin 1 none :: GL
set_option maxHeartbeats 4000000 in
set_option maxRecDepth 100000 in
theorem c_X3_begin (l : Launch) (D : va_G) (ca : Nat → ClassId) (zz : Nat → Nat) (a0 a1 a2 : Nat) (sz : Nat) (v0 : V3) (v0' : V3) (hf : f_X3_begin v0 = some v0') : Met l yX3_begin wq_X3_begin ({ frames := 1, cells := 0, slots := 0, locals := 20 } : Room) (PR D ca zz [.ref a0] sz [(a0, .inr (3, [.ref a1, .int v0.2.1, .int v0.2.2.1, .int v0.2.2.2.1, .int v0.2.2.2.2.1, .int v0.2.2.2.2.2.1, .int v0.2.2.2.2.2.2])), (a1, .inr (4, [.ref a2, .int v0.1.2.1, .int v0.1.2.2])), (a2, .inl (ca 0, 512, .inl v0.1.1))]) (QV D ca [(a0, .inr (3, [.ref a1, .int v0'.2.1, .int v0'.2.2.1, .int v0'.2.2.2.1, .int v0'.2.2.2.2.1, .int v0'.2.2.2.2.2.1, .int v0'.2.2.2.2.2.2])), (a1, .inr (4, [.ref a2, .int v0'.1.2.1, .int v0'.1.2.2])), (a2, .inl (ca 0, 512, .inl v0'.1.1))] (va_A [(a0, .inr (3, [.ref a1, .int v0.2.1, .int v0.2.2.1, .int v0.2.2.2.1, .int v0.2.2.2.2.1, .int v0.2.2.2.2.2.1, .int v0.2.2.2.2.2.2])), (a1, .inr (4, [.ref a2, .int v0.1.2.1, .int v0.1.2.2])), (a2, .inl (ca 0, 512, .inl v0.1.1))] sz)) 0 0 (va_A [(a0, .inr (3, [.ref a1, .int v0.2.1, .int v0.2.2.1, .int v0.2.2.2.1, .int v0.2.2.2.2.1, .int v0.2.2.2.2.2.1, .int v0.2.2.2.2.2.2])), (a1, .inr (4, [.ref a2, .int v0.1.2.1, .int v0.1.2.2])), (a2, .inl (ca 0, 512, .inl v0.1.1))] sz) := by
  refine en (y := yX3_begin) (wsm := wq_X3_begin) (av := [.ref a0]) (cc := cX3_begin) (maxL := 1) (ret := none) (Qf := fun A => (QV D ca [(a0, .inr (3, [.ref a1, .int v0'.2.1, .int v0'.2.2.1, .int v0'.2.2.2.1, .int v0'.2.2.2.2.1, .int v0'.2.2.2.2.2.1, .int v0'.2.2.2.2.2.2])), (a1, .inr (4, [.ref a2, .int v0'.1.2.1, .int v0'.1.2.2])), (a2, .inl (ca 0, 512, .inl v0'.1.1))] A)) (by decide) rfl (Nat.le_of_ble_eq_true rfl) ?_
  intro p e s m args below meth c A Q ls hx hb hr hml hown hts hlocks hnm hA hN hZ hK hQ hP hD hS hl
  have w0 := hts _ (List.mem_cons_of_mem _ gw_1_179)
  have w1 := hts _ (List.mem_cons_of_mem _ gw_1_182)
  have w2 := hts _ (List.mem_cons_of_mem _ gw_1_183)
  have w3 := hts _ (List.mem_cons_of_mem _ gw_1_185)
  have w4 := hts _ (List.mem_cons_of_mem _ gw_1_187)
  have w5 := hts _ (List.mem_cons_of_mem _ gw_1_189)
  have w6 := hts _ (List.mem_cons_of_mem _ gw_1_191)
  have i3 : ∀ w ∈ u_ws RX3 TX3 7, w ∈ wq_X3_begin := fun w h => List.mem_cons_of_mem _ (inX3 w h)
  unfold f_X3_begin at hf
  refine lv_aload_n hx hb dX3_begin_0 rfl (lv_at hl 0 rfl) ?_
  refine va_get (C := RX3) (T := TX3) (N := 7) hx hb hts i3 hown hK hP 0 rfl rfl 0 (Nat.le_of_ble_eq_true rfl) w0 (fun _ h9 => h9) rfl dX3_begin_1 ?_
  obtain ⟨u_1, hc1, hf⟩ := bnd1_el hf
  refine xV_V (As := []) (wx := [(a0, .inr (3, [.ref a1, .int v0.2.1, .int v0.2.2.1, .int v0.2.2.2.1, .int v0.2.2.2.2.1, .int v0.2.2.2.2.2.1, .int v0.2.2.2.2.2.2])), (a1, .inr (4, [.ref a2, .int u_1.2.1, .int u_1.2.2])), (a2, .inl (ca 0, 512, .inl u_1.1))]) ⟨hx, hb, hml, hown, hts⟩ (c_X4_clear l D ca zz a1 a2 _ v0.1 u_1 hc1) (cwV 0 hts (gV gw_2_54 gw_2_55 gw_2_56 gw_1_8 gw_2_57) rfl rfl rfl (by decide +kernel) ⟨(Nat.le_of_ble_eq_true rfl), (Nat.le_of_ble_eq_true rfl)⟩) hK hN hZ hA hP hD hS [1, 2] [none, some 0, some 1] (by decide +kernel) rfl rfl rfl rfl 1 rfl rfl hl.1 rfl (Nat.le_of_ble_eq_true rfl) dX3_begin_4 ⟨Nat.zero_le _, Nat.zero_le _⟩ rfl (fun H locs hP hD hS => ?_)
  refine lv_aload_n hx hb dX3_begin_7 rfl (lv_at hl 0 rfl) ?_
  refine lv_iconst (v := 0) hx hb dX3_begin_8 rfl ?_
  refine xput (C := RX3) (T := TX3) (N := 7) (wx := [(a0, .inr (3, [.ref a1, .int (0 : Int32), .int v0.2.2.1, .int v0.2.2.2.1, .int v0.2.2.2.2.1, .int v0.2.2.2.2.2.1, .int v0.2.2.2.2.2.2])), (a1, .inr (4, [.ref a2, .int u_1.2.1, .int u_1.2.2])), (a2, .inl (ca 0, 512, .inl u_1.1))]) hx hb hts i3 tyX3 tyX3_ok nmX3 hown hK hP hD hS 0 rfl rfl 1 (Nat.le_of_ble_eq_true rfl) w1 (fun _ h9 => h9) rfl rfl rfl rfl (Nat.le_of_ble_eq_true rfl) dX3_begin_9 rfl (fun H locs hP hD hS => ?_)
  refine lv_aload_n hx hb dX3_begin_12 rfl (lv_at hl 0 rfl) ?_
  refine lv_iconst (v := 0) hx hb dX3_begin_13 rfl ?_
  refine xput (C := RX3) (T := TX3) (N := 7) (wx := [(a0, .inr (3, [.ref a1, .int (0 : Int32), .int (0 : Int32), .int v0.2.2.2.1, .int v0.2.2.2.2.1, .int v0.2.2.2.2.2.1, .int v0.2.2.2.2.2.2])), (a1, .inr (4, [.ref a2, .int u_1.2.1, .int u_1.2.2])), (a2, .inl (ca 0, 512, .inl u_1.1))]) hx hb hts i3 tyX3 tyX3_ok nmX3 hown hK hP hD hS 0 rfl rfl 2 (Nat.le_of_ble_eq_true rfl) w2 (fun _ h9 => h9) rfl rfl rfl rfl (Nat.le_of_ble_eq_true rfl) dX3_begin_14 rfl (fun H locs hP hD hS => ?_)
  refine lv_aload_n hx hb dX3_begin_17 rfl (lv_at hl 0 rfl) ?_
  refine lv_iconst (v := 0) hx hb dX3_begin_18 rfl ?_
  refine xput (C := RX3) (T := TX3) (N := 7) (wx := [(a0, .inr (3, [.ref a1, .int (0 : Int32), .int (0 : Int32), .int (0 : Int32), .int v0.2.2.2.2.1, .int v0.2.2.2.2.2.1, .int v0.2.2.2.2.2.2])), (a1, .inr (4, [.ref a2, .int u_1.2.1, .int u_1.2.2])), (a2, .inl (ca 0, 512, .inl u_1.1))]) hx hb hts i3 tyX3 tyX3_ok nmX3 hown hK hP hD hS 0 rfl rfl 3 (Nat.le_of_ble_eq_true rfl) w3 (fun _ h9 => h9) rfl rfl rfl rfl (Nat.le_of_ble_eq_true rfl) dX3_begin_19 rfl (fun H locs hP hD hS => ?_)
  refine lv_aload_n hx hb dX3_begin_22 rfl (lv_at hl 0 rfl) ?_
  refine lv_iconst (v := 0) hx hb dX3_begin_23 rfl ?_
  refine xput (C := RX3) (T := TX3) (N := 7) (wx := [(a0, .inr (3, [.ref a1, .int (0 : Int32), .int (0 : Int32), .int (0 : Int32), .int (0 : Int32), .int v0.2.2.2.2.2.1, .int v0.2.2.2.2.2.2])), (a1, .inr (4, [.ref a2, .int u_1.2.1, .int u_1.2.2])), (a2, .inl (ca 0, 512, .inl u_1.1))]) hx hb hts i3 tyX3 tyX3_ok nmX3 hown hK hP hD hS 0 rfl rfl 4 (Nat.le_of_ble_eq_true rfl) w4 (fun _ h9 => h9) rfl rfl rfl rfl (Nat.le_of_ble_eq_true rfl) dX3_begin_24 rfl (fun H locs hP hD hS => ?_)
  refine lv_aload_n hx hb dX3_begin_27 rfl (lv_at hl 0 rfl) ?_
  refine lv_iconst (v := 0) hx hb dX3_begin_28 rfl ?_
  refine xput (C := RX3) (T := TX3) (N := 7) (wx := [(a0, .inr (3, [.ref a1, .int (0 : Int32), .int (0 : Int32), .int (0 : Int32), .int (0 : Int32), .int (0 : Int32), .int v0.2.2.2.2.2.2])), (a1, .inr (4, [.ref a2, .int u_1.2.1, .int u_1.2.2])), (a2, .inl (ca 0, 512, .inl u_1.1))]) hx hb hts i3 tyX3 tyX3_ok nmX3 hown hK hP hD hS 0 rfl rfl 5 (Nat.le_of_ble_eq_true rfl) w5 (fun _ h9 => h9) rfl rfl rfl rfl (Nat.le_of_ble_eq_true rfl) dX3_begin_29 rfl (fun H locs hP hD hS => ?_)
  refine lv_aload_n hx hb dX3_begin_32 rfl (lv_at hl 0 rfl) ?_
  refine lv_iconst (v := 0) hx hb dX3_begin_33 rfl ?_
  refine xput (C := RX3) (T := TX3) (N := 7) (wx := [(a0, .inr (3, [.ref a1, .int (0 : Int32), .int (0 : Int32), .int (0 : Int32), .int (0 : Int32), .int (0 : Int32), .int (0 : Int32)])), (a1, .inr (4, [.ref a2, .int u_1.2.1, .int u_1.2.2])), (a2, .inl (ca 0, 512, .inl u_1.1))]) hx hb hts i3 tyX3 tyX3_ok nmX3 hown hK hP hD hS 0 rfl rfl 6 (Nat.le_of_ble_eq_true rfl) w6 (fun _ h9 => h9) rfl rfl rfl rfl (Nat.le_of_ble_eq_true rfl) dX3_begin_34 rfl (fun H locs hP hD hS => ?_)
  have he := Option.some.inj hf
  have e_v0 := he
  refine rt_V hx hb hr hlocks hK hP hD hS hQ ?_ dX3_begin_37
  simp only [← e_v0]
abbrev wq_X6_clear : List Cond := Cond.code yX6_clear cX6_clear 1 none :: GL
set_option maxHeartbeats 4000000 in
set_option maxRecDepth 100000 in
theorem c_X6_clear (l : Launch) (D : va_G) (ca : Nat → ClassId) (zz : Nat → Nat) (a0 a1 a2 : Nat) (sz : Nat) (v0 : V6) (v0' : V6) (hf : f_X6_clear v0 = some v0') : Met l yX6_clear wq_X6_clear ({ frames := 0, cells := 0, slots := 0, locals := 0 } : Room) (PR D ca zz [.ref a0] sz [(a0, .inr (6, [.ref a1, .ref a2, .int v0.2.2])), (a1, .inl (ca 0, 15, .inl v0.1)), (a2, .inl (ca 0, 15, .inl v0.2.1))]) (QV D ca [(a0, .inr (6, [.ref a1, .ref a2, .int v0'.2.2])), (a1, .inl (ca 0, 15, .inl v0'.1)), (a2, .inl (ca 0, 15, .inl v0'.2.1))] (va_A [(a0, .inr (6, [.ref a1, .ref a2, .int v0.2.2])), (a1, .inl (ca 0, 15, .inl v0.1)), (a2, .inl (ca 0, 15, .inl v0.2.1))] sz)) 0 0 (va_A [(a0, .inr (6, [.ref a1, .ref a2, .int v0.2.2])), (a1, .inl (ca 0, 15, .inl v0.1)), (a2, .inl (ca 0, 15, .inl v0.2.1))] sz) := by
  refine en (y := yX6_clear) (wsm := wq_X6_clear) (av := [.ref a0]) (cc := cX6_clear) (maxL := 1) (ret := none) (Qf := fun A => (QV D ca [(a0, .inr (6, [.ref a1, .ref a2, .int v0'.2.2])), (a1, .inl (ca 0, 15, .inl v0'.1)), (a2, .inl (ca 0, 15, .inl v0'.2.1))] A)) (by decide) rfl (Nat.le_of_ble_eq_true rfl) ?_
  intro p e s m args below meth c A Q ls hx hb hr hml hown hts hlocks hnm hA hN hZ hK hQ hP hD hS hl
  have w0 := hts _ (List.mem_cons_of_mem _ gw_1_218)
  have i6 : ∀ w ∈ u_ws RX6 TX6 3, w ∈ wq_X6_clear := fun w h => List.mem_cons_of_mem _ (inX6 w h)
  unfold f_X6_clear at hf
  refine lv_aload_n hx hb dX6_clear_0 rfl (lv_at hl 0 rfl) ?_
  refine lv_iconst (v := 0) hx hb dX6_clear_1 rfl ?_
  refine xput (C := RX6) (T := TX6) (N := 3) (wx := [(a0, .inr (6, [.ref a1, .ref a2, .int (0 : Int32)])), (a1, .inl (ca 0, 15, .inl v0.1)), (a2, .inl (ca 0, 15, .inl v0.2.1))]) hx hb hts i6 tyX6 tyX6_ok nmX6 hown hK hP hD hS 0 rfl rfl 2 (Nat.le_of_ble_eq_true rfl) w0 (fun _ h9 => h9) rfl rfl rfl rfl (Nat.le_of_ble_eq_true rfl) dX6_clear_2 rfl (fun H locs hP hD hS => ?_)
  have he := Option.some.inj hf
  have e_v0 := he
  refine rt_V hx hb hr hlocks hK hP hD hS hQ ?_ dX6_clear_5
  simp only [← e_v0]
abbrev wq_X9_refuse : List Cond := Cond.code yX9_refuse cX9_refuse 3 none :: GL
set_option maxHeartbeats 4000000 in
set_option maxRecDepth 100000 in
theorem c_X9_refuse (l : Launch) (D : va_G) (ca : Nat → ClassId) (zz : Nat → Nat) (a0 a1 : Nat) (sz : Nat) (v0 : V9) (p1 : Int32) (p2 : Int32) (v0' : V9) (hf : f_X9_refuse v0 p1 p2 = some v0') : Met l yX9_refuse wq_X9_refuse ({ frames := 0, cells := 0, slots := 0, locals := 0 } : Room) (PR D ca zz [.ref a0, .int p1, .int p2] sz [(a0, .inr (9, [.ref a1, .int v0.2.1, .int v0.2.2.1, .int v0.2.2.2])), (a1, .inl (ca 0, 300, .inl v0.1))]) (QV D ca [(a0, .inr (9, [.ref a1, .int v0'.2.1, .int v0'.2.2.1, .int v0'.2.2.2])), (a1, .inl (ca 0, 300, .inl v0'.1))] (va_A [(a0, .inr (9, [.ref a1, .int v0.2.1, .int v0.2.2.1, .int v0.2.2.2])), (a1, .inl (ca 0, 300, .inl v0.1))] sz)) 0 0 (va_A [(a0, .inr (9, [.ref a1, .int v0.2.1, .int v0.2.2.1, .int v0.2.2.2])), (a1, .inl (ca 0, 300, .inl v0.1))] sz) := by
  refine en (y := yX9_refuse) (wsm := wq_X9_refuse) (av := [.ref a0, .int p1, .int p2]) (cc := cX9_refuse) (maxL := 3) (ret := none) (Qf := fun A => (QV D ca [(a0, .inr (9, [.ref a1, .int v0'.2.1, .int v0'.2.2.1, .int v0'.2.2.2])), (a1, .inl (ca 0, 300, .inl v0'.1))] A)) (by decide) rfl (Nat.le_of_ble_eq_true rfl) ?_
  intro p e s m args below meth c A Q ls hx hb hr hml hown hts hlocks hnm hA hN hZ hK hQ hP hD hS hl
  have w0 := hts _ (List.mem_cons_of_mem _ gw_1_234)
  have w1 := hts _ (List.mem_cons_of_mem _ gw_1_237)
  have w2 := hts _ (List.mem_cons_of_mem _ gw_1_239)
  have i9 : ∀ w ∈ u_ws RX9 TX9 4, w ∈ wq_X9_refuse := fun w h => List.mem_cons_of_mem _ (inX9 w h)
  unfold f_X9_refuse at hf
  refine lv_aload_n hx hb dX9_refuse_0 rfl (lv_at hl 0 rfl) ?_
  refine lv_iconst (v := 0) hx hb dX9_refuse_1 rfl ?_
  refine xput (C := RX9) (T := TX9) (N := 4) (wx := [(a0, .inr (9, [.ref a1, .int (0 : Int32), .int v0.2.2.1, .int v0.2.2.2])), (a1, .inl (ca 0, 300, .inl v0.1))]) hx hb hts i9 tyX9 tyX9_ok nmX9 hown hK hP hD hS 0 rfl rfl 1 (Nat.le_of_ble_eq_true rfl) w0 (fun _ h9 => h9) rfl rfl rfl rfl (Nat.le_of_ble_eq_true rfl) dX9_refuse_2 rfl (fun H locs hP hD hS => ?_)
  refine lv_aload_n hx hb dX9_refuse_5 rfl (lv_at hl 0 rfl) ?_
  refine lv_iload_n hx hb dX9_refuse_6 rfl (lv_at hl 1 rfl) ?_
  refine xput (C := RX9) (T := TX9) (N := 4) (wx := [(a0, .inr (9, [.ref a1, .int (0 : Int32), .int p1, .int v0.2.2.2])), (a1, .inl (ca 0, 300, .inl v0.1))]) hx hb hts i9 tyX9 tyX9_ok nmX9 hown hK hP hD hS 0 rfl rfl 2 (Nat.le_of_ble_eq_true rfl) w1 (fun _ h9 => h9) rfl rfl rfl rfl (Nat.le_of_ble_eq_true rfl) dX9_refuse_7 rfl (fun H locs hP hD hS => ?_)
  refine lv_aload_n hx hb dX9_refuse_10 rfl (lv_at hl 0 rfl) ?_
  refine lv_iload_n hx hb dX9_refuse_11 rfl (lv_at hl 2 rfl) ?_
  refine xput (C := RX9) (T := TX9) (N := 4) (wx := [(a0, .inr (9, [.ref a1, .int (0 : Int32), .int p1, .int p2])), (a1, .inl (ca 0, 300, .inl v0.1))]) hx hb hts i9 tyX9 tyX9_ok nmX9 hown hK hP hD hS 0 rfl rfl 3 (Nat.le_of_ble_eq_true rfl) w2 (fun _ h9 => h9) rfl rfl rfl rfl (Nat.le_of_ble_eq_true rfl) dX9_refuse_12 rfl (fun H locs hP hD hS => ?_)
  have he := Option.some.inj hf
  have e_v0 := he
  refine rt_V hx hb hr hlocks hK hP hD hS hQ ?_ dX9_refuse_15
  simp only [← e_v0]
abbrev wq_X9_begin : List Cond := Cond.code yX9_begin cX9_begin 1 none :: GL
set_option maxHeartbeats 4000000 in
set_option maxRecDepth 100000 in
theorem c_X9_begin (l : Launch) (D : va_G) (ca : Nat → ClassId) (zz : Nat → Nat) (a0 a1 : Nat) (sz : Nat) (v0 : V9) (v0' : V9) (hf : f_X9_begin v0 = some v0') : Met l yX9_begin wq_X9_begin ({ frames := 1, cells := 0, slots := 0, locals := 22 } : Room) (PR D ca zz [.ref a0] sz [(a0, .inr (9, [.ref a1, .int v0.2.1, .int v0.2.2.1, .int v0.2.2.2])), (a1, .inl (ca 0, 300, .inl v0.1))]) (QV D ca [(a0, .inr (9, [.ref a1, .int v0'.2.1, .int v0'.2.2.1, .int v0'.2.2.2])), (a1, .inl (ca 0, 300, .inl v0'.1))] (va_A [(a0, .inr (9, [.ref a1, .int v0.2.1, .int v0.2.2.1, .int v0.2.2.2])), (a1, .inl (ca 0, 300, .inl v0.1))] sz)) 0 0 (va_A [(a0, .inr (9, [.ref a1, .int v0.2.1, .int v0.2.2.1, .int v0.2.2.2])), (a1, .inl (ca 0, 300, .inl v0.1))] sz) := by
  refine en (y := yX9_begin) (wsm := wq_X9_begin) (av := [.ref a0]) (cc := cX9_begin) (maxL := 1) (ret := none) (Qf := fun A => (QV D ca [(a0, .inr (9, [.ref a1, .int v0'.2.1, .int v0'.2.2.1, .int v0'.2.2.2])), (a1, .inl (ca 0, 300, .inl v0'.1))] A)) (by decide) rfl (Nat.le_of_ble_eq_true rfl) ?_
  intro p e s m args below meth c A Q ls hx hb hr hml hown hts hlocks hnm hA hN hZ hK hQ hP hD hS hl
  unfold f_X9_begin at hf
  refine lv_aload_n hx hb dX9_begin_0 rfl (lv_at hl 0 rfl) ?_
  refine lv_iconst (v := 0) hx hb dX9_begin_1 rfl ?_
  refine lv_iconst (v := -1) hx hb dX9_begin_2 rfl ?_
  obtain ⟨u_1, hc1, hf⟩ := bnd1_el hf
  refine xV_V (As := [.int (0 : Int32), .int (-1 : Int32)]) (wx := [(a0, .inr (9, [.ref a1, .int u_1.2.1, .int u_1.2.2.1, .int u_1.2.2.2])), (a1, .inl (ca 0, 300, .inl u_1.1))]) ⟨hx, hb, hml, hown, hts⟩ (c_X9_refuse l D ca zz a0 a1 _ v0 (0 : Int32) (-1 : Int32) u_1 hc1) (cwV 2 hts (gV gw_2_67 gw_2_68 gw_2_69 gw_1_10 gw_2_70) rfl rfl rfl (by decide +kernel) ⟨(Nat.le_of_ble_eq_true rfl), (Nat.le_of_ble_eq_true rfl)⟩) hK hN hZ hA hP hD hS [0, 1] [some 0, some 1] (by decide +kernel) rfl rfl rfl rfl 0 rfl rfl hl.1 rfl (Nat.le_of_ble_eq_true rfl) dX9_begin_3 ⟨Nat.zero_le _, Nat.zero_le _⟩ rfl (fun H locs hP hD hS => ?_)
  have he := Option.some.inj hf
  have e_v0 := he
  refine rt_V hx hb hr hlocks hK hP hD hS hQ ?_ dX9_begin_6
  simp only [← e_v0]
