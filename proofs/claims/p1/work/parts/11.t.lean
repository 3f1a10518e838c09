theorem gw_1_166 : Cond.fieldLink RX4 15 "NoiseWatch$Queue" "head" "I" ∈ GL := GL_1 (List.mem_of_getElem? (i := 166) rfl) rfl
theorem gw_1_167 : Cond.fieldLink RX4 19 "NoiseWatch$Queue" "size" "I" ∈ GL := GL_1 (List.mem_of_getElem? (i := 167) rfl) rfl
theorem gw_1_165 : Cond.fieldLink RX4 11 "NoiseWatch$Queue" "bits" "[I" ∈ GL := GL_1 (List.mem_of_getElem? (i := 165) rfl) rfl
theorem gw_1_16 : Cond.initialized "java/lang/System" ∈ GL := GL_1 (List.mem_of_getElem? (i := 16) rfl) rfl
theorem gw_4_216 : Cond.methodLink RX4 22 arraycopyName ∈ GL := GL_4 (List.mem_of_getElem? (i := 216) rfl) rfl
theorem gw_2_238 : Cond.native arraycopyName ∈ GL := GL_2 (List.mem_of_getElem? (i := 238) rfl) rfl
theorem gw_2_237 : Cond.static arraycopyName ∈ GL := GL_2 (List.mem_of_getElem? (i := 237) rfl) rfl
abbrev V1 : Type := Int32 × Int32 × Int32 × Int32 × Int32 × Int32
abbrev V2 : Type := (Nat → Int64) × Int32 × Int32 × Int32 × Int32
abbrev V4 : Type := (Nat → Int32) × Int32 × Int32
abbrev V7 : Type := (Nat → Int32) × (Nat → Int32) × (Nat → Int32) × (Nat → Int32) × Int32
abbrev V8 : Type := Int32 × Int32 × Int32
abbrev V9 : Type := (Nat → Int32) × Int32 × Int32 × Int32
abbrev V0 : Type := (Nat → Int32) × (Nat → Int32) × Int32 × Int32 × Int32
abbrev V6 : Type := (Nat → Int32) × (Nat → Int32) × Int32
abbrev V3 : Type := V4 × Int32 × Int32 × Int32 × Int32 × Int32 × Int32
abbrev V5 : Type := V7 × (Nat → Int32) × Int32 × Int32 × Int32 × Int32 × Int32 × Int32
abbrev V10 : Type := V7 × V2 × V8 × V1 × V3 × V4 × V6 × V9 × Int32 × Int32 × Int32 × Int32 × Int32 × Int32
abbrev V11 : Type := V10 × V10 × (Nat → Option Nat) × V5 × V0 × V2 × V1 × V1
abbrev V12 : Type := Int32 × (Nat → Int32) × (Nat → Int32) × (Nat → Int32) × Int32 × Int32 × Int32 × Int32 × Int32 × Int64 × Int32 × Int32 × Int32 × (Nat → Int32) × Int32 × Int32 × Int32 × Int32 × Int32 × Int64 × Int64 × (Nat → Int32)
def f_X4_clear (v0 : V4) : Option (V4) := some ((v0.1, (0 : Int32), (0 : Int32)))
def f_X4_bitAt (v0 : V4) (p1 : Int32) : Option (Int32) := if p1 < (0 : Int32) then (some (-1 : Int32)) else (if p1 < v0.2.2 then (chkin ((v0.2.1 + p1) &&& (511 : Int32)) 512 <| some (v0.1 ((v0.2.1 + p1) &&& (511 : Int32)).toNatClampNeg)) else (some (-1 : Int32)))
def f_X4_append (v0 : V4) (p1 : Int32) : Option (V4) := if (511 : Int32) < v0.2.2 then (some v0) else (chkin ((v0.2.1 + v0.2.2) &&& (511 : Int32)) 512 <| bnd (upd v0.1 ((v0.2.1 + v0.2.2) &&& (511 : Int32)).toNatClampNeg p1) fun y_1 => bnd (v0.2.2 + (1 : Int32)) fun x_2 => some ((y_1, v0.2.1, x_2)))
def f_X4_dropFirst (v0 : V4) : Option (Int32 × V4) := if (0 : Int32) < v0.2.2 then (chkin (v0.2.1 &&& (511 : Int32)) 512 <| bnd (v0.1 (v0.2.1 &&& (511 : Int32)).toNatClampNeg) fun x_1 => bnd ((v0.2.1 + (1 : Int32)) &&& (511 : Int32)) fun x_2 => bnd (v0.2.2 - (1 : Int32)) fun x_3 => some ((x_1, (v0.1, x_2, x_3)))) else (some (((0 : Int32), v0)))
def f_X4_copyFrom (v0 : V4) (v1 : V4) : Option (V4) := chkcp (0 : Int32) (0 : Int32) (512 : Int32) 512 512 <| bnd (va_cpy v1.1 v0.1 ((0 : Int32)).toNatClampNeg ((0 : Int32)).toNatClampNeg ((512 : Int32)).toNatClampNeg) fun y_1 => some ((y_1, v1.2.1, v1.2.2))
abbrev wq_X4_clear : List Cond := Cond.code yX4_clear cX4_clear 1 none :: GL
set_option maxHeartbeats 4000000 in
set_option maxRecDepth 100000 in
theorem c_X4_clear (l : Launch) (D : va_G) (ca : Nat → ClassId) (zz : Nat → Nat) (a0 a1 : Nat) (sz : Nat) (v0 : V4) (v0' : V4) (hf : f_X4_clear v0 = some v0') : Met l yX4_clear wq_X4_clear ({ frames := 0, cells := 0, slots := 0, locals := 0 } : Room) (PR D ca zz [.ref a0] sz [(a0, .inr (4, [.ref a1, .int v0.2.1, .int v0.2.2]))]) (QV D ca [(a0, .inr (4, [.ref a1, .int v0'.2.1, .int v0'.2.2]))] (va_A [(a0, .inr (4, [.ref a1, .int v0.2.1, .int v0.2.2]))] sz)) 0 0 (va_A [(a0, .inr (4, [.ref a1, .int v0.2.1, .int v0.2.2]))] sz) := by
  refine en (cc := cX4_clear) (maxL := 1) (ret := none) (Qf := fun A => QV D ca [(a0, .inr (4, [.ref a1, .int v0'.2.1, .int v0'.2.2]))] A) (by decide) rfl (Nat.le_of_ble_eq_true rfl) ?_
  intro p e s m args below meth c A Q ls hx hb hr hml hown hts hlocks hnm hA hN hZ hK hQ hP hD hS hl
  have w0 := hts _ (List.mem_cons_of_mem _ gw_1_166)
  have w1 := hts _ (List.mem_cons_of_mem _ gw_1_167)
  have i4 : ∀ w ∈ u_ws RX4 TX4 3, w ∈ wq_X4_clear := fun w h => List.mem_cons_of_mem _ (inX4 w h)
  unfold f_X4_clear at hf
  refine lv_aload_n hx hb dX4_clear_0 rfl (lv_at hl 0 rfl) ?_
  refine lv_iconst (v := 0) hx hb dX4_clear_1 rfl ?_
  refine xput (C := RX4) (T := TX4) (N := 3) (wx := [(a0, .inr (4, [.ref a1, .int (0 : Int32), .int v0.2.2]))]) hx hb hts i4 tyX4 tyX4_ok nmX4 hown hK hP hD hS 0 rfl rfl 1 (Nat.le_of_ble_eq_true rfl) w0 (fun _ h9 => h9) rfl rfl rfl rfl (Nat.le_of_ble_eq_true rfl) dX4_clear_2 rfl (fun H locs hP hD hS => ?_)
  refine lv_aload_n hx hb dX4_clear_5 rfl (lv_at hl 0 rfl) ?_
  refine lv_iconst (v := 0) hx hb dX4_clear_6 rfl ?_
  refine xput (C := RX4) (T := TX4) (N := 3) (wx := [(a0, .inr (4, [.ref a1, .int (0 : Int32), .int (0 : Int32)]))]) hx hb hts i4 tyX4 tyX4_ok nmX4 hown hK hP hD hS 0 rfl rfl 2 (Nat.le_of_ble_eq_true rfl) w1 (fun _ h9 => h9) rfl rfl rfl rfl (Nat.le_of_ble_eq_true rfl) dX4_clear_7 rfl (fun H locs hP hD hS => ?_)
  cases hf
  exact rt_V hx hb hr hlocks hK hP hD hS hQ rfl dX4_clear_10
abbrev wq_X4_bitAt : List Cond := Cond.code yX4_bitAt cX4_bitAt 2 (some .int) :: GL
set_option maxHeartbeats 4000000 in
set_option maxRecDepth 100000 in
theorem c_X4_bitAt (l : Launch) (D : va_G) (ca : Nat → ClassId) (zz : Nat → Nat) (a0 a1 : Nat) (sz : Nat) (v0 : V4) (p1 : Int32) (r : Int32) (hf : f_X4_bitAt v0 p1 = some r) : Met l yX4_bitAt wq_X4_bitAt ({ frames := 0, cells := 0, slots := 0, locals := 0 } : Room) (PR D ca zz [.ref a0, .int p1] sz [(a0, .inr (4, [.ref a1, .int v0.2.1, .int v0.2.2])), (a1, .inl (ca 0, 512, .inl v0.1))]) (QI D ca r [(a0, .inr (4, [.ref a1, .int v0.2.1, .int v0.2.2])), (a1, .inl (ca 0, 512, .inl v0.1))] (va_A [(a0, .inr (4, [.ref a1, .int v0.2.1, .int v0.2.2])), (a1, .inl (ca 0, 512, .inl v0.1))] sz)) 0 0 (va_A [(a0, .inr (4, [.ref a1, .int v0.2.1, .int v0.2.2])), (a1, .inl (ca 0, 512, .inl v0.1))] sz) := by
  refine en (cc := cX4_bitAt) (maxL := 2) (ret := (some .int)) (Qf := fun A => QI D ca r [(a0, .inr (4, [.ref a1, .int v0.2.1, .int v0.2.2])), (a1, .inl (ca 0, 512, .inl v0.1))] A) (by decide) rfl (Nat.le_of_ble_eq_true rfl) ?_
  intro p e s m args below meth c A Q ls hx hb hr hml hown hts hlocks hnm hA hN hZ hK hQ hP hD hS hl
  have w0 := hts _ (List.mem_cons_of_mem _ gw_1_167)
  have w1 := hts _ (List.mem_cons_of_mem _ gw_1_165)
  have w2 := hts _ (List.mem_cons_of_mem _ gw_1_166)
  have i4 : ∀ w ∈ u_ws RX4 TX4 3, w ∈ wq_X4_bitAt := fun w h => List.mem_cons_of_mem _ (inX4 w h)
  unfold f_X4_bitAt at hf
  refine lv_iload_n hx hb dX4_bitAt_0 rfl (lv_at hl 1 rfl) ?_
  refine xi_lt (tgt := 12) hx hb dX4_bitAt_1 (by decide) hf (fun hf => ?_) (fun hf => ?_)
  · refine lv_iconst (v := -1) hx hb dX4_bitAt_12 rfl ?_
    refine lv_goto (tgt := 31) hx hb dX4_bitAt_13 (by decide) ?_
    cases hf
    exact rt_I hx hb hr hlocks hK hP hD hS hQ rfl rfl dX4_bitAt_31
  · refine lv_iload_n hx hb dX4_bitAt_4 rfl (lv_at hl 1 rfl) ?_
    refine lv_aload_n hx hb dX4_bitAt_5 rfl (lv_at hl 0 rfl) ?_
    refine va_get (C := RX4) (T := TX4) (N := 3) hx hb hts i4 hown hK hP 0 rfl rfl 2 (Nat.le_of_ble_eq_true rfl) w0 (fun _ h9 => h9) rfl dX4_bitAt_6 ?_
    refine xc_lt (tgt := 16) hx hb dX4_bitAt_9 (by decide) hf (fun hf => ?_) (fun hf => ?_)
    · refine lv_aload_n hx hb dX4_bitAt_16 rfl (lv_at hl 0 rfl) ?_
      refine va_get (C := RX4) (T := TX4) (N := 3) hx hb hts i4 hown hK hP 0 rfl rfl 0 (Nat.le_of_ble_eq_true rfl) w1 (fun _ h9 => h9) rfl dX4_bitAt_17 ?_
      refine lv_aload_n hx hb dX4_bitAt_20 rfl (lv_at hl 0 rfl) ?_
      refine va_get (C := RX4) (T := TX4) (N := 3) hx hb hts i4 hown hK hP 0 rfl rfl 1 (Nat.le_of_ble_eq_true rfl) w2 (fun _ h9 => h9) rfl dX4_bitAt_21 ?_
      refine lv_iload_n hx hb dX4_bitAt_24 rfl (lv_at hl 1 rfl) ?_
      refine lv_iadd hx hb dX4_bitAt_25 ?_
      refine lv_sipush (v := 511) hx hb dX4_bitAt_26 rfl ?_
      refine lv_iand hx hb dX4_bitAt_29 ?_
      refine xiald hx hb hK hP 1 rfl hf dX4_bitAt_30 (fun hf => ?_)
      cases hf
      exact rt_I hx hb hr hlocks hK hP hD hS hQ rfl rfl dX4_bitAt_31
    · refine lv_iconst (v := -1) hx hb dX4_bitAt_12 rfl ?_
      refine lv_goto (tgt := 31) hx hb dX4_bitAt_13 (by decide) ?_
      cases hf
      exact rt_I hx hb hr hlocks hK hP hD hS hQ rfl rfl dX4_bitAt_31
abbrev wq_X4_append : List Cond := Cond.code yX4_append cX4_append 2 none :: GL
set_option maxHeartbeats 4000000 in
set_option maxRecDepth 100000 in
theorem c_X4_append (l : Launch) (D : va_G) (ca : Nat → ClassId) (zz : Nat → Nat) (a0 a1 : Nat) (sz : Nat) (v0 : V4) (p1 : Int32) (v0' : V4) (hf : f_X4_append v0 p1 = some v0') : Met l yX4_append wq_X4_append ({ frames := 0, cells := 0, slots := 0, locals := 0 } : Room) (PR D ca zz [.ref a0, .int p1] sz [(a0, .inr (4, [.ref a1, .int v0.2.1, .int v0.2.2])), (a1, .inl (ca 0, 512, .inl v0.1))]) (QV D ca [(a0, .inr (4, [.ref a1, .int v0'.2.1, .int v0'.2.2])), (a1, .inl (ca 0, 512, .inl v0'.1))] (va_A [(a0, .inr (4, [.ref a1, .int v0.2.1, .int v0.2.2])), (a1, .inl (ca 0, 512, .inl v0.1))] sz)) 0 0 (va_A [(a0, .inr (4, [.ref a1, .int v0.2.1, .int v0.2.2])), (a1, .inl (ca 0, 512, .inl v0.1))] sz) := by
  refine en (cc := cX4_append) (maxL := 2) (ret := none) (Qf := fun A => QV D ca [(a0, .inr (4, [.ref a1, .int v0'.2.1, .int v0'.2.2])), (a1, .inl (ca 0, 512, .inl v0'.1))] A) (by decide) rfl (Nat.le_of_ble_eq_true rfl) ?_
  intro p e s m args below meth c A Q ls hx hb hr hml hown hts hlocks hnm hA hN hZ hK hQ hP hD hS hl
  have w0 := hts _ (List.mem_cons_of_mem _ gw_1_167)
  have w1 := hts _ (List.mem_cons_of_mem _ gw_1_165)
  have w2 := hts _ (List.mem_cons_of_mem _ gw_1_166)
  have i4 : ∀ w ∈ u_ws RX4 TX4 3, w ∈ wq_X4_append := fun w h => List.mem_cons_of_mem _ (inX4 w h)
  unfold f_X4_append at hf
  refine lv_aload_n hx hb dX4_append_0 rfl (lv_at hl 0 rfl) ?_
  refine va_get (C := RX4) (T := TX4) (N := 3) hx hb hts i4 hown hK hP 0 rfl rfl 2 (Nat.le_of_ble_eq_true rfl) w0 (fun _ h9 => h9) rfl dX4_append_1 ?_
  refine lv_sipush (v := 511) hx hb dX4_append_4 rfl ?_
  refine xc_gt (tgt := 39) hx hb dX4_append_7 (by decide) hf (fun hf => ?_) (fun hf => ?_)
  · cases hf
    exact rt_V hx hb hr hlocks hK hP hD hS hQ rfl dX4_append_39
  · refine lv_aload_n hx hb dX4_append_10 rfl (lv_at hl 0 rfl) ?_
    refine va_get (C := RX4) (T := TX4) (N := 3) hx hb hts i4 hown hK hP 0 rfl rfl 0 (Nat.le_of_ble_eq_true rfl) w1 (fun _ h9 => h9) rfl dX4_append_11 ?_
    refine lv_aload_n hx hb dX4_append_14 rfl (lv_at hl 0 rfl) ?_
    refine va_get (C := RX4) (T := TX4) (N := 3) hx hb hts i4 hown hK hP 0 rfl rfl 1 (Nat.le_of_ble_eq_true rfl) w2 (fun _ h9 => h9) rfl dX4_append_15 ?_
    refine lv_aload_n hx hb dX4_append_18 rfl (lv_at hl 0 rfl) ?_
    refine va_get (C := RX4) (T := TX4) (N := 3) hx hb hts i4 hown hK hP 0 rfl rfl 2 (Nat.le_of_ble_eq_true rfl) w0 (fun _ h9 => h9) rfl dX4_append_19 ?_
    refine lv_iadd hx hb dX4_append_22 ?_
    refine lv_sipush (v := 511) hx hb dX4_append_23 rfl ?_
    refine lv_iand hx hb dX4_append_26 ?_
    refine lv_iload_n hx hb dX4_append_27 rfl (lv_at hl 1 rfl) ?_
    refine xiast (wx := [(a0, .inr (4, [.ref a1, .int v0.2.1, .int v0.2.2])), (a1, .inl (ca 0, 512, .inl ((upd v0.1 ((v0.2.1 + v0.2.2) &&& (511 : Int32)).toNatClampNeg p1))))]) hx hb hK hP hD hS 1 rfl hf dX4_append_28 rfl (fun H locs hf hP hD hS => ?_)
    obtain ⟨y_1, ey_1, hf⟩ := bnd_el hf
    rw [← ey_1] at hP hD
    refine lv_aload_n hx hb dX4_append_29 rfl (lv_at hl 0 rfl) ?_
    refine lv_dup hx hb dX4_append_30 rfl ?_
    refine va_get (C := RX4) (T := TX4) (N := 3) hx hb hts i4 hown hK hP 0 rfl rfl 2 (Nat.le_of_ble_eq_true rfl) w0 (fun _ h9 => h9) rfl dX4_append_31 ?_
    refine lv_iconst (v := 1) hx hb dX4_append_34 rfl ?_
    refine lv_iadd hx hb dX4_append_35 ?_
    refine xnm hf (fun x_2 hf => ?_)
    refine xput (C := RX4) (T := TX4) (N := 3) (wx := [(a0, .inr (4, [.ref a1, .int v0.2.1, .int x_2])), (a1, .inl (ca 0, 512, .inl y_1))]) hx hb hts i4 tyX4 tyX4_ok nmX4 hown hK hP hD hS 0 rfl rfl 2 (Nat.le_of_ble_eq_true rfl) w0 (fun _ h9 => h9) rfl rfl rfl rfl (Nat.le_of_ble_eq_true rfl) dX4_append_36 rfl (fun H locs hP hD hS => ?_)
    cases hf
    exact rt_V hx hb hr hlocks hK hP hD hS hQ rfl dX4_append_39
abbrev wq_X4_dropFirst : List Cond := Cond.code yX4_dropFirst cX4_dropFirst 2 (some .int) :: GL
set_option maxHeartbeats 4000000 in
set_option maxRecDepth 100000 in
theorem c_X4_dropFirst (l : Launch) (D : va_G) (ca : Nat → ClassId) (zz : Nat → Nat) (a0 a1 : Nat) (sz : Nat) (v0 : V4) (r : Int32) (v0' : V4) (hf : f_X4_dropFirst v0 = some (r, v0')) : Met l yX4_dropFirst wq_X4_dropFirst ({ frames := 0, cells := 0, slots := 0, locals := 0 } : Room) (PR D ca zz [.ref a0] sz [(a0, .inr (4, [.ref a1, .int v0.2.1, .int v0.2.2])), (a1, .inl (ca 0, 512, .inl v0.1))]) (QI D ca r [(a0, .inr (4, [.ref a1, .int v0'.2.1, .int v0'.2.2])), (a1, .inl (ca 0, 512, .inl v0'.1))] (va_A [(a0, .inr (4, [.ref a1, .int v0.2.1, .int v0.2.2])), (a1, .inl (ca 0, 512, .inl v0.1))] sz)) 0 0 (va_A [(a0, .inr (4, [.ref a1, .int v0.2.1, .int v0.2.2])), (a1, .inl (ca 0, 512, .inl v0.1))] sz) := by
  refine en (cc := cX4_dropFirst) (maxL := 2) (ret := (some .int)) (Qf := fun A => QI D ca r [(a0, .inr (4, [.ref a1, .int v0'.2.1, .int v0'.2.2])), (a1, .inl (ca 0, 512, .inl v0'.1))] A) (by decide) rfl (Nat.le_of_ble_eq_true rfl) ?_
  intro p e s m args below meth c A Q ls hx hb hr hml hown hts hlocks hnm hA hN hZ hK hQ hP hD hS hl
  have w0 := hts _ (List.mem_cons_of_mem _ gw_1_167)
  have w1 := hts _ (List.mem_cons_of_mem _ gw_1_165)
  have w2 := hts _ (List.mem_cons_of_mem _ gw_1_166)
  have i4 : ∀ w ∈ u_ws RX4 TX4 3, w ∈ wq_X4_dropFirst := fun w h => List.mem_cons_of_mem _ (inX4 w h)
  unfold f_X4_dropFirst at hf
  refine lv_aload_n hx hb dX4_dropFirst_0 rfl (lv_at hl 0 rfl) ?_
  refine va_get (C := RX4) (T := TX4) (N := 3) hx hb hts i4 hown hK hP 0 rfl rfl 2 (Nat.le_of_ble_eq_true rfl) w0 (fun _ h9 => h9) rfl dX4_dropFirst_1 ?_
  refine xi_gt (tgt := 9) hx hb dX4_dropFirst_4 (by decide) hf (fun hf => ?_) (fun hf => ?_)
  · refine lv_aload_n hx hb dX4_dropFirst_9 rfl (lv_at hl 0 rfl) ?_
    refine va_get (C := RX4) (T := TX4) (N := 3) hx hb hts i4 hown hK hP 0 rfl rfl 0 (Nat.le_of_ble_eq_true rfl) w1 (fun _ h9 => h9) rfl dX4_dropFirst_10 ?_
    refine lv_aload_n hx hb dX4_dropFirst_13 rfl (lv_at hl 0 rfl) ?_
    refine va_get (C := RX4) (T := TX4) (N := 3) hx hb hts i4 hown hK hP 0 rfl rfl 1 (Nat.le_of_ble_eq_true rfl) w2 (fun _ h9 => h9) rfl dX4_dropFirst_14 ?_
    refine lv_sipush (v := 511) hx hb dX4_dropFirst_17 rfl ?_
    refine lv_iand hx hb dX4_dropFirst_20 ?_
    refine xiald hx hb hK hP 1 rfl hf dX4_dropFirst_21 (fun hf => ?_)
    refine xnm hf (fun x_1 hf => ?_)
    refine lv_istore_n (lv' := [(1, .int x_1), (0, .ref a0)]) hx hb dX4_dropFirst_22 rfl hl (Nat.le_of_ble_eq_true rfl) rfl (fun ls hl => ?_)
    refine lv_aload_n hx hb dX4_dropFirst_23 rfl (lv_at hl 1 rfl) ?_
    refine lv_aload_n hx hb dX4_dropFirst_24 rfl (lv_at hl 1 rfl) ?_
    refine va_get (C := RX4) (T := TX4) (N := 3) hx hb hts i4 hown hK hP 0 rfl rfl 1 (Nat.le_of_ble_eq_true rfl) w2 (fun _ h9 => h9) rfl dX4_dropFirst_25 ?_
    refine lv_iconst (v := 1) hx hb dX4_dropFirst_28 rfl ?_
    refine lv_iadd hx hb dX4_dropFirst_29 ?_
    refine lv_sipush (v := 511) hx hb dX4_dropFirst_30 rfl ?_
    refine lv_iand hx hb dX4_dropFirst_33 ?_
    refine xnm hf (fun x_2 hf => ?_)
    refine xput (C := RX4) (T := TX4) (N := 3) (wx := [(a0, .inr (4, [.ref a1, .int x_2, .int v0.2.2])), (a1, .inl (ca 0, 512, .inl v0.1))]) hx hb hts i4 tyX4 tyX4_ok nmX4 hown hK hP hD hS 0 rfl rfl 1 (Nat.le_of_ble_eq_true rfl) w2 (fun _ h9 => h9) rfl rfl rfl rfl (Nat.le_of_ble_eq_true rfl) dX4_dropFirst_34 rfl (fun H locs hP hD hS => ?_)
    refine lv_aload_n hx hb dX4_dropFirst_37 rfl (lv_at hl 1 rfl) ?_
    refine lv_dup hx hb dX4_dropFirst_38 rfl ?_
    refine va_get (C := RX4) (T := TX4) (N := 3) hx hb hts i4 hown hK hP 0 rfl rfl 2 (Nat.le_of_ble_eq_true rfl) w0 (fun _ h9 => h9) rfl dX4_dropFirst_39 ?_
    refine lv_iconst (v := 1) hx hb dX4_dropFirst_42 rfl ?_
    refine lv_isub hx hb dX4_dropFirst_43 ?_
    refine xnm hf (fun x_3 hf => ?_)
    refine xput (C := RX4) (T := TX4) (N := 3) (wx := [(a0, .inr (4, [.ref a1, .int x_2, .int x_3])), (a1, .inl (ca 0, 512, .inl v0.1))]) hx hb hts i4 tyX4 tyX4_ok nmX4 hown hK hP hD hS 0 rfl rfl 2 (Nat.le_of_ble_eq_true rfl) w0 (fun _ h9 => h9) rfl rfl rfl rfl (Nat.le_of_ble_eq_true rfl) dX4_dropFirst_44 rfl (fun H locs hP hD hS => ?_)
    refine lv_iload_n hx hb dX4_dropFirst_47 rfl (lv_at hl 0 rfl) ?_
    cases hf
    exact rt_I hx hb hr hlocks hK hP hD hS hQ rfl rfl dX4_dropFirst_48
  · refine lv_iconst (v := 0) hx hb dX4_dropFirst_7 rfl ?_
    cases hf
    exact rt_I hx hb hr hlocks hK hP hD hS hQ rfl rfl dX4_dropFirst_8
abbrev wq_X4_copyFrom : List Cond := Cond.code yX4_copyFrom cX4_copyFrom 2 none :: GL
set_option maxHeartbeats 4000000 in
set_option maxRecDepth 100000 in
theorem c_X4_copyFrom (l : Launch) (D : va_G) (ca : Nat → ClassId) (zz : Nat → Nat) (a0 a1 b0 b1 : Nat) (sz : Nat) (v0 : V4) (v1 : V4) (v0' : V4) (hf : f_X4_copyFrom v0 v1 = some v0') : Met l yX4_copyFrom wq_X4_copyFrom ({ frames := 1, cells := 0, slots := 0, locals := 60 } : Room) (PR D ca zz [.ref a0, .ref b0] sz [(a0, .inr (4, [.ref a1, .int v0.2.1, .int v0.2.2])), (a1, .inl (ca 0, 512, .inl v0.1)), (b0, .inr (4, [.ref b1, .int v1.2.1, .int v1.2.2])), (b1, .inl (ca 0, 512, .inl v1.1))]) (QV D ca [(a0, .inr (4, [.ref a1, .int v0'.2.1, .int v0'.2.2])), (a1, .inl (ca 0, 512, .inl v0'.1)), (b0, .inr (4, [.ref b1, .int v1.2.1, .int v1.2.2])), (b1, .inl (ca 0, 512, .inl v1.1))] (va_A [(a0, .inr (4, [.ref a1, .int v0.2.1, .int v0.2.2])), (a1, .inl (ca 0, 512, .inl v0.1)), (b0, .inr (4, [.ref b1, .int v1.2.1, .int v1.2.2])), (b1, .inl (ca 0, 512, .inl v1.1))] sz)) 0 0 (va_A [(a0, .inr (4, [.ref a1, .int v0.2.1, .int v0.2.2])), (a1, .inl (ca 0, 512, .inl v0.1)), (b0, .inr (4, [.ref b1, .int v1.2.1, .int v1.2.2])), (b1, .inl (ca 0, 512, .inl v1.1))] sz) := by
  refine en (cc := cX4_copyFrom) (maxL := 2) (ret := none) (Qf := fun A => QV D ca [(a0, .inr (4, [.ref a1, .int v0'.2.1, .int v0'.2.2])), (a1, .inl (ca 0, 512, .inl v0'.1)), (b0, .inr (4, [.ref b1, .int v1.2.1, .int v1.2.2])), (b1, .inl (ca 0, 512, .inl v1.1))] A) (by decide) rfl (Nat.le_of_ble_eq_true rfl) ?_
  intro p e s m args below meth c A Q ls hx hb hr hml hown hts hlocks hnm hA hN hZ hK hQ hP hD hS hl
  have w0 := hts _ (List.mem_cons_of_mem _ gw_1_165)
  have w1 := hts _ (List.mem_cons_of_mem _ gw_4_216)
  have w2 := hts _ (List.mem_cons_of_mem _ gw_2_238)
  have w3 := hts _ (List.mem_cons_of_mem _ gw_2_237)
  have w4 := hts _ (List.mem_cons_of_mem _ gw_1_16)
  have w5 := hts _ (List.mem_cons_of_mem _ gw_1_166)
  have w6 := hts _ (List.mem_cons_of_mem _ gw_1_167)
  have i4 : ∀ w ∈ u_ws RX4 TX4 3, w ∈ wq_X4_copyFrom := fun w h => List.mem_cons_of_mem _ (inX4 w h)
  unfold f_X4_copyFrom at hf
  refine lv_aload_n hx hb dX4_copyFrom_0 rfl (lv_at hl 1 rfl) ?_
  refine va_get (C := RX4) (T := TX4) (N := 3) hx hb hts i4 hown hK hP 2 rfl rfl 0 (Nat.le_of_ble_eq_true rfl) w0 (fun _ h9 => h9) rfl dX4_copyFrom_1 ?_
  refine lv_iconst (v := 0) hx hb dX4_copyFrom_4 rfl ?_
  refine lv_aload_n hx hb dX4_copyFrom_5 rfl (lv_at hl 0 rfl) ?_
  refine va_get (C := RX4) (T := TX4) (N := 3) hx hb hts i4 hown hK hP 0 rfl rfl 0 (Nat.le_of_ble_eq_true rfl) w0 (fun _ h9 => h9) rfl dX4_copyFrom_6 ?_
  refine lv_iconst (v := 0) hx hb dX4_copyFrom_9 rfl ?_
  refine lv_sipush (v := 512) hx hb dX4_copyFrom_10 rfl ?_
  refine xcopyi (wx := [(a0, .inr (4, [.ref a1, .int v0.2.1, .int v0.2.2])), (a1, .inl (ca 0, 512, .inl ((va_cpy v1.1 v0.1 ((0 : Int32)).toNatClampNeg ((0 : Int32)).toNatClampNeg ((512 : Int32)).toNatClampNeg)))), (b0, .inr (4, [.ref b1, .int v1.2.1, .int v1.2.2])), (b1, .inl (ca 0, 512, .inl v1.1))]) hx hb (hml.trans hl.1.symm) hown w1 w2 w3 w4 hK hP hD hS 3 1 rfl rfl hf (Nat.le_of_ble_eq_true rfl) (Nat.le_of_ble_eq_true rfl) dX4_copyFrom_13 rfl (fun H locs hf hP hD hS => ?_)
  obtain ⟨y_1, ey_1, hf⟩ := bnd_el hf
  rw [← ey_1] at hP hD
  refine lv_aload_n hx hb dX4_copyFrom_16 rfl (lv_at hl 0 rfl) ?_
  refine lv_aload_n hx hb dX4_copyFrom_17 rfl (lv_at hl 1 rfl) ?_
  refine va_get (C := RX4) (T := TX4) (N := 3) hx hb hts i4 hown hK hP 2 rfl rfl 1 (Nat.le_of_ble_eq_true rfl) w5 (fun _ h9 => h9) rfl dX4_copyFrom_18 ?_
  refine xput (C := RX4) (T := TX4) (N := 3) (wx := [(a0, .inr (4, [.ref a1, .int v1.2.1, .int v0.2.2])), (a1, .inl (ca 0, 512, .inl y_1)), (b0, .inr (4, [.ref b1, .int v1.2.1, .int v1.2.2])), (b1, .inl (ca 0, 512, .inl v1.1))]) hx hb hts i4 tyX4 tyX4_ok nmX4 hown hK hP hD hS 0 rfl rfl 1 (Nat.le_of_ble_eq_true rfl) w5 (fun _ h9 => h9) rfl rfl rfl rfl (Nat.le_of_ble_eq_true rfl) dX4_copyFrom_21 rfl (fun H locs hP hD hS => ?_)
  refine lv_aload_n hx hb dX4_copyFrom_24 rfl (lv_at hl 0 rfl) ?_
  refine lv_aload_n hx hb dX4_copyFrom_25 rfl (lv_at hl 1 rfl) ?_
  refine va_get (C := RX4) (T := TX4) (N := 3) hx hb hts i4 hown hK hP 2 rfl rfl 2 (Nat.le_of_ble_eq_true rfl) w6 (fun _ h9 => h9) rfl dX4_copyFrom_26 ?_
  refine xput (C := RX4) (T := TX4) (N := 3) (wx := [(a0, .inr (4, [.ref a1, .int v1.2.1, .int v1.2.2])), (a1, .inl (ca 0, 512, .inl y_1)), (b0, .inr (4, [.ref b1, .int v1.2.1, .int v1.2.2])), (b1, .inl (ca 0, 512, .inl v1.1))]) hx hb hts i4 tyX4 tyX4_ok nmX4 hown hK hP hD hS 0 rfl rfl 2 (Nat.le_of_ble_eq_true rfl) w6 (fun _ h9 => h9) rfl rfl rfl rfl (Nat.le_of_ble_eq_true rfl) dX4_copyFrom_29 rfl (fun H locs hP hD hS => ?_)
  cases hf
  exact rt_V hx hb hr hlocks hK hP hD hS hQ rfl dX4_copyFrom_32
