set_option maxHeartbeats 8000000 in
set_option maxRecDepth 100000 in
theorem law_loop {p : Program} {l : Launch} {e : Env} {s : State} {m : MethodId} {below : List Frame} {meth : Method} {c : Code} {b L : Nat} {xs : Nat → Int32} {D : va_G} {ca : Nat → ClassId} {zz : Nat → Nat} {Q : State → Prop} (hlt : l.stackTraces = false) (hx : p.tables.exec = Jvm.exec) (hb : c.code = cL_law) (hml : c.maxLocals = 7) (hown : s.vm.findClass RL = some m.cls) (hts : ∀ w ∈ lw_tbl, w.before #[Value.ref b] s = true) (hX : va_X b L xs s s.heap) (hbl : b < s.heap.size) (hbA : ¬ A0 s b) (hA : ∀ q, s.heap.size ≤ q → A0 s q) (hN : NW s) (hZ : ZS zz (A0 s) s s.heap) (hK : va_K D vwCl (TY ca) s) (hL : L ≤ 2048) (qa qb : Nat → Nat) (d0 : Nat) (S9 : LSt)
    (fin : ∀ (H : Heap) (locs : List Loc) (ls : Array Slot) (cells slots : Nat), cells ≤ 601024 → slots ≤ 7293034 → va_S (A0 s) s.heap H locs → W p l e room_1 s m #[Value.ref b] below meth c H locs cells slots Q (F0 m 1103 ls [])) :
    ∀ (n t cells slots : Nat) (P0 P1 P2 : Option (V10 × (Nat → Nat))) (af : Nat → Option Nat) (v0 : V11) (v1 : V12) (v2 : Nat → Int64) (H : Heap) (locs : List Loc) (ls : Array Slot), 4 * t + 4 * n ≤ L → L < 4 * t + 4 * n + 4 → cells ≤ 200 + 40 * t → slots ≤ 12000 + 2000 * t → af 0 = P0.map (fun x => x.2 0) → af 1 = P1.map (fun x => x.2 0) → af 2 = P2.map (fun x => x.2 0) → frun xs n t (v0, v1, v2, (P0.map Prod.fst, P1.map Prod.fst, P2.map Prod.fst)) = some S9 → va_P D vwCl (WB ca qa qb d0 af v0 v1 v2 (kc ca P0 ++ (kc ca P1 ++ kc ca P2))) H → va_D (A0 s) (WB ca qa qb d0 af v0 v1 v2 (kc ca P0 ++ (kc ca P1 ++ kc ca P2))) → va_S (A0 s) s.heap H locs → lv_has ls 7 [(0, .ref b), (1, .ref (qa 0)), (2, .ref (qb 0)), (3, .ref d0), (4, .int (nI (4 * t)))] → W p l e room_1 s m #[Value.ref b] below meth c H locs cells slots Q (F0 m 23 ls []) := by
  intro n
  induction n with
  | zero =>
    intro t cells slots P0 P1 P2 af v0 v1 v2 H locs ls hn1 hn2 hc hs ha0 ha1 ha2 hf hP hD hS hl
    refine lv_iload hx hb dL_law_23 (lv_at hl 4 rfl) ?_
    refine lv_aload_n hx hb dL_law_25 rfl (lv_at hl 0 rfl) ?_
    refine va_slen hx hb hX hbl hbA hS dL_law_26 ?_
    refine lv_iconst (v := 4) hx hb dL_law_27 rfl ?_
    refine lv_isub hx hb dL_law_28 ?_
    refine lv_icmp_gt (tgt := 1103) hx hb dL_law_29 (by decide) (fun _ => fin _ _ _ _ _ (by omega) (by omega) hS) (fun h => absurd ?_ h)
    show nI L - nI 4 < nI (4 * t)
    rw [Int32.lt_iff_toInt_lt, pk_sub_toInt (by omega) (by decide), nI_toInt (by omega)]
    omega
  | succ n ih =>
    intro t cells slots P0 P1 P2 af v0 v1 v2 H locs ls hn1 hn2 hc hs ha0 ha1 ha2 hf hP hD hS hl
    refine lv_iload hx hb dL_law_23 (lv_at hl 4 rfl) ?_
    refine lv_aload_n hx hb dL_law_25 rfl (lv_at hl 0 rfl) ?_
    refine va_slen hx hb hX hbl hbA hS dL_law_26 ?_
    refine lv_iconst (v := 4) hx hb dL_law_27 rfl ?_
    refine lv_isub hx hb dL_law_28 ?_
    refine lv_icmp_gt (tgt := 1103) hx hb dL_law_29 (by decide) (fun h => absurd h ?_) (fun _ => ?_)
    · show ¬ nI L - nI 4 < nI (4 * t)
      rw [Int32.lt_iff_toInt_lt, pk_sub_toInt (by omega) (by decide), nI_toInt (by omega)]
      omega
    have next : ∀ (cells slots : Nat) (P0 P1 P2 : Option (V10 × (Nat → Nat))) (af : Nat → Option Nat) (v0 : V11) (v1 : V12) (v2 : Nat → Int64) (H : Heap) (locs : List Loc) (ls : Array Slot), cells ≤ 200 + 40 * (t + 1) → slots ≤ 12000 + 2000 * (t + 1) → af 0 = P0.map (fun x => x.2 0) → af 1 = P1.map (fun x => x.2 0) → af 2 = P2.map (fun x => x.2 0) → frun xs n (t + 1) (v0, v1, v2, (P0.map Prod.fst, P1.map Prod.fst, P2.map Prod.fst)) = some S9 → va_P D vwCl (WB ca qa qb d0 af v0 v1 v2 (kc ca P0 ++ (kc ca P1 ++ kc ca P2))) H → va_D (A0 s) (WB ca qa qb d0 af v0 v1 v2 (kc ca P0 ++ (kc ca P1 ++ kc ca P2))) → va_S (A0 s) s.heap H locs → lv_has ls 7 [(0, .ref b), (1, .ref (qa 0)), (2, .ref (qb 0)), (3, .ref d0), (4, .int (nI (4 * t)))] → W p l e room_1 s m #[Value.ref b] below meth c H locs cells slots Q (F0 m 1097 ls []) := by
      intro cells slots P0 P1 P2 af v0 v1 v2 H locs ls hc hs ha0 ha1 ha2 hf hP hD hS hl
      refine lv_iinc (v := nI (4 * (t + 1))) (lv' := [(4, .int (nI (4 * (t + 1)))), (0, .ref b), (1, .ref (qa 0)), (2, .ref (qb 0)), (3, .ref d0)]) hx hb dL_law_1097 hl (k := 4) rfl (nI4 t) (Nat.le_of_ble_eq_true rfl) rfl (fun ls hl => ?_)
      refine lv_goto (tgt := 23) hx hb dL_law_1100 (by decide) ?_
      exact ih (t + 1) cells slots P0 P1 P2 af v0 v1 v2 H locs ls (by omega) (by omega) hc hs ha0 ha1 ha2 hf hP hD hS (lv_sub hl [1, 2, 3, 4, 0] rfl)
    have hcr : ∀ x y : Nat, x ≤ 40 → y ≤ 2000 → cells + x ≤ room_1.cells ∧ slots + y ≤ room_1.slots := fun x y h1 h2 => by
      show cells + x ≤ 601024 ∧ slots + y ≤ 7293034
      exact ⟨by omega, by omega⟩
    have h1 : vp_in (nI (4 * t) + 1) L := by
      rw [show nI (4 * t) + (1 : Int32) = nI (4 * t + 1) from nIk t 1]
      exact vp_in_nI (by omega) (by omega)
    have h2 : vp_in (nI (4 * t) + 2) L := by
      rw [show nI (4 * t) + (2 : Int32) = nI (4 * t + 2) from nIk t 2]
      exact vp_in_nI (by omega) (by omega)
    have h3 : vp_in (nI (4 * t) + 3) L := by
      rw [show nI (4 * t) + (3 : Int32) = nI (4 * t + 3) from nIk t 3]
      exact vp_in_nI (by omega) (by omega)
    refine lv_aload_n hx hb dL_law_32 rfl (lv_at hl 0 rfl) ?_
    refine lv_iload hx hb dL_law_33 (lv_at hl 4 rfl) ?_
    refine va_sld hx hb hX hbl hbA hS (vp_in_nI (by omega) (by omega)) dL_law_35 ?_
    refine lv_bipush (v := 31) hx hb dL_law_36 rfl ?_
    refine lv_iand hx hb dL_law_38 ?_
    unfold frun at hf
    obtain ⟨⟨w0, w1, w2, w3⟩, hs9, hf⟩ := bnd1_el hf
    dsimp only at hs9
    unfold fstep at hs9
    by_cases hc0 : xs (nI (4 * t)).toNatClampNeg &&& 31 = 0
    · have hs9 := ite_t hc0 hs9
      obtain ⟨x0, x1, x2, hk9, he⟩ := bnd3_el hs9
      cases he
      refine xtabK (tgt := 172) hx hb dL_law_39 hc0 (by decide) (by decide) rfl (by decide) ?_
      exact lk_0 hlt hx hb hml hown hts hX hbl hbA hA hN hZ hK (hcr 0 0 (Nat.le_of_ble_eq_true rfl) (Nat.le_of_ble_eq_true rfl)) (qa 0) (qa 1) (qa 2) (qa 3) (qa 4) (qa 5) (qa 6) (qa 7) (qa 8) (qa 9) (qa 10) (qa 11) (qa 12) (qa 13) (qa 14) (qa 15) (qa 16) (qa 17) (qa 18) (qa 19) (qa 20) (qa 21) (qa 22) (qa 23) (qa 24) (qa 25) (qa 26) (qa 27) (qa 28) (qa 29) (qa 30) (qa 31) (qa 32) (qa 33) (qa 34) (qa 35) (qa 36) (qa 37) (qa 38) (qa 39) (qa 40) (qa 41) (qa 42) (qa 43) (qa 44) (qa 45) (qa 46) (qa 47) (qa 48) (qa 49) (qa 50) (qa 51) (qa 52) (qa 53) (qa 54) (qa 55) (qb 0) (qb 1) (qb 2) (qb 3) (qb 4) (qb 5) d0 af _ (nI (4 * t)) h1 h2 h3 v0 v1 v2 _ _ _ hk9 (fun H locs ls hP hD hS hl => next _ _ P0 P1 P2 af _ _ _ H locs ls (by omega) (by omega) ha0 ha1 ha2 hf hP hD hS hl) H locs ls hP hD hS hl
    have hs9 := ite_f hc0 hs9
    by_cases hc1 : xs (nI (4 * t)).toNatClampNeg &&& 31 = 1
    · have hs9 := ite_t hc1 hs9
      obtain ⟨x0, x1, x2, hk9, he⟩ := bnd3_el hs9
      cases he
      refine xtabK (tgt := 229) hx hb dL_law_39 hc1 (by decide) (by decide) rfl (by decide) ?_
      exact lk_1 hlt hx hb hml hown hts hX hbl hbA hA hN hZ hK (hcr 0 0 (Nat.le_of_ble_eq_true rfl) (Nat.le_of_ble_eq_true rfl)) (qa 0) (qa 1) (qa 2) (qa 3) (qa 4) (qa 5) (qa 6) (qa 7) (qa 8) (qa 9) (qa 10) (qa 11) (qa 12) (qa 13) (qa 14) (qa 15) (qa 16) (qa 17) (qa 18) (qa 19) (qa 20) (qa 21) (qa 22) (qa 23) (qa 24) (qa 25) (qa 26) (qa 27) (qa 28) (qa 29) (qa 30) (qa 31) (qa 32) (qa 33) (qa 34) (qa 35) (qa 36) (qa 37) (qa 38) (qa 39) (qa 40) (qa 41) (qa 42) (qa 43) (qa 44) (qa 45) (qa 46) (qa 47) (qa 48) (qa 49) (qa 50) (qa 51) (qa 52) (qa 53) (qa 54) (qa 55) (qb 0) (qb 1) (qb 2) (qb 3) (qb 4) (qb 5) d0 af _ (nI (4 * t)) h1 h2 h3 v0 v1 v2 _ _ _ hk9 (fun H locs ls hP hD hS hl => next _ _ P0 P1 P2 af _ _ _ H locs ls (by omega) (by omega) ha0 ha1 ha2 hf hP hD hS hl) H locs ls hP hD hS hl
    have hs9 := ite_f hc1 hs9
    by_cases hc2 : xs (nI (4 * t)).toNatClampNeg &&& 31 = 2
    · have hs9 := ite_t hc2 hs9
      obtain ⟨x0, x1, x2, hk9, he⟩ := bnd3_el hs9
      cases he
      refine xtabK (tgt := 242) hx hb dL_law_39 hc2 (by decide) (by decide) rfl (by decide) ?_
      exact lk_2 hlt hx hb hml hown hts hX hbl hbA hA hN hZ hK (hcr 0 0 (Nat.le_of_ble_eq_true rfl) (Nat.le_of_ble_eq_true rfl)) (qa 0) (qa 1) (qa 2) (qa 3) (qa 4) (qa 5) (qa 6) (qa 7) (qa 8) (qa 9) (qa 10) (qa 11) (qa 12) (qa 13) (qa 14) (qa 15) (qa 16) (qa 17) (qa 18) (qa 19) (qa 20) (qa 21) (qa 22) (qa 23) (qa 24) (qa 25) (qa 26) (qa 27) (qa 28) (qa 29) (qa 30) (qa 31) (qa 32) (qa 33) (qa 34) (qa 35) (qa 36) (qa 37) (qa 38) (qa 39) (qa 40) (qa 41) (qa 42) (qa 43) (qa 44) (qa 45) (qa 46) (qa 47) (qa 48) (qa 49) (qa 50) (qa 51) (qa 52) (qa 53) (qa 54) (qa 55) (qb 0) (qb 1) (qb 2) (qb 3) (qb 4) (qb 5) d0 af _ (nI (4 * t)) h1 h2 h3 v0 v1 v2 _ _ _ hk9 (fun H locs ls hP hD hS hl => next _ _ P0 P1 P2 af _ _ _ H locs ls (by omega) (by omega) ha0 ha1 ha2 hf hP hD hS hl) H locs ls hP hD hS hl
    have hs9 := ite_f hc2 hs9
    by_cases hc3 : xs (nI (4 * t)).toNatClampNeg &&& 31 = 3
    · have hs9 := ite_t hc3 hs9
      obtain ⟨x0, x1, x2, hk9, he⟩ := bnd3_el hs9
      cases he
      refine xtabK (tgt := 283) hx hb dL_law_39 hc3 (by decide) (by decide) rfl (by decide) ?_
      exact lk_3 hlt hx hb hml hown hts hX hbl hbA hA hN hZ hK (hcr 0 0 (Nat.le_of_ble_eq_true rfl) (Nat.le_of_ble_eq_true rfl)) (qa 0) (qa 1) (qa 2) (qa 3) (qa 4) (qa 5) (qa 6) (qa 7) (qa 8) (qa 9) (qa 10) (qa 11) (qa 12) (qa 13) (qa 14) (qa 15) (qa 16) (qa 17) (qa 18) (qa 19) (qa 20) (qa 21) (qa 22) (qa 23) (qa 24) (qa 25) (qa 26) (qa 27) (qa 28) (qa 29) (qa 30) (qa 31) (qa 32) (qa 33) (qa 34) (qa 35) (qa 36) (qa 37) (qa 38) (qa 39) (qa 40) (qa 41) (qa 42) (qa 43) (qa 44) (qa 45) (qa 46) (qa 47) (qa 48) (qa 49) (qa 50) (qa 51) (qa 52) (qa 53) (qa 54) (qa 55) (qb 0) (qb 1) (qb 2) (qb 3) (qb 4) (qb 5) d0 af _ (nI (4 * t)) h1 h2 h3 v0 v1 v2 _ _ _ hk9 (fun H locs ls hP hD hS hl => next _ _ P0 P1 P2 af _ _ _ H locs ls (by omega) (by omega) ha0 ha1 ha2 hf hP hD hS hl) H locs ls hP hD hS hl
    have hs9 := ite_f hc3 hs9
    by_cases hc4 : xs (nI (4 * t)).toNatClampNeg &&& 31 = 4
    · have hs9 := ite_t hc4 hs9
      obtain ⟨x0, x1, x2, hk9, he⟩ := bnd3_el hs9
      cases he
      refine xtabK (tgt := 296) hx hb dL_law_39 hc4 (by decide) (by decide) rfl (by decide) ?_
      exact lk_4 hlt hx hb hml hown hts hX hbl hbA hA hN hZ hK (hcr 0 0 (Nat.le_of_ble_eq_true rfl) (Nat.le_of_ble_eq_true rfl)) (qa 0) (qa 1) (qa 2) (qa 3) (qa 4) (qa 5) (qa 6) (qa 7) (qa 8) (qa 9) (qa 10) (qa 11) (qa 12) (qa 13) (qa 14) (qa 15) (qa 16) (qa 17) (qa 18) (qa 19) (qa 20) (qa 21) (qa 22) (qa 23) (qa 24) (qa 25) (qa 26) (qa 27) (qa 28) (qa 29) (qa 30) (qa 31) (qa 32) (qa 33) (qa 34) (qa 35) (qa 36) (qa 37) (qa 38) (qa 39) (qa 40) (qa 41) (qa 42) (qa 43) (qa 44) (qa 45) (qa 46) (qa 47) (qa 48) (qa 49) (qa 50) (qa 51) (qa 52) (qa 53) (qa 54) (qa 55) (qb 0) (qb 1) (qb 2) (qb 3) (qb 4) (qb 5) d0 af _ (nI (4 * t)) h1 h2 h3 v0 v1 v2 _ _ _ hk9 (fun H locs ls hP hD hS hl => next _ _ P0 P1 P2 af _ _ _ H locs ls (by omega) (by omega) ha0 ha1 ha2 hf hP hD hS hl) H locs ls hP hD hS hl
    have hs9 := ite_f hc4 hs9
    by_cases hc5 : xs (nI (4 * t)).toNatClampNeg &&& 31 = 5
    · have hs9 := ite_t hc5 hs9
      obtain ⟨x0, x1, x2, hk9, he⟩ := bnd3_el hs9
      cases he
      refine xtabK (tgt := 309) hx hb dL_law_39 hc5 (by decide) (by decide) rfl (by decide) ?_
      exact lk_5 hlt hx hb hml hown hts hX hbl hbA hA hN hZ hK (hcr 0 0 (Nat.le_of_ble_eq_true rfl) (Nat.le_of_ble_eq_true rfl)) (qa 0) (qa 1) (qa 2) (qa 3) (qa 4) (qa 5) (qa 6) (qa 7) (qa 8) (qa 9) (qa 10) (qa 11) (qa 12) (qa 13) (qa 14) (qa 15) (qa 16) (qa 17) (qa 18) (qa 19) (qa 20) (qa 21) (qa 22) (qa 23) (qa 24) (qa 25) (qa 26) (qa 27) (qa 28) (qa 29) (qa 30) (qa 31) (qa 32) (qa 33) (qa 34) (qa 35) (qa 36) (qa 37) (qa 38) (qa 39) (qa 40) (qa 41) (qa 42) (qa 43) (qa 44) (qa 45) (qa 46) (qa 47) (qa 48) (qa 49) (qa 50) (qa 51) (qa 52) (qa 53) (qa 54) (qa 55) (qb 0) (qb 1) (qb 2) (qb 3) (qb 4) (qb 5) d0 af _ (nI (4 * t)) h1 h2 h3 v0 v1 v2 _ _ _ hk9 (fun H locs ls hP hD hS hl => next _ _ P0 P1 P2 af _ _ _ H locs ls (by omega) (by omega) ha0 ha1 ha2 hf hP hD hS hl) H locs ls hP hD hS hl
    have hs9 := ite_f hc5 hs9
    by_cases hc6 : xs (nI (4 * t)).toNatClampNeg &&& 31 = 6
    · have hs9 := ite_t hc6 hs9
      obtain ⟨x0, x1, x2, hk9, he⟩ := bnd3_el hs9
      cases he
      refine xtabK (tgt := 334) hx hb dL_law_39 hc6 (by decide) (by decide) rfl (by decide) ?_
      exact lk_6 hlt hx hb hml hown hts hX hbl hbA hA hN hZ hK (hcr 0 0 (Nat.le_of_ble_eq_true rfl) (Nat.le_of_ble_eq_true rfl)) (qa 0) (qa 1) (qa 2) (qa 3) (qa 4) (qa 5) (qa 6) (qa 7) (qa 8) (qa 9) (qa 10) (qa 11) (qa 12) (qa 13) (qa 14) (qa 15) (qa 16) (qa 17) (qa 18) (qa 19) (qa 20) (qa 21) (qa 22) (qa 23) (qa 24) (qa 25) (qa 26) (qa 27) (qa 28) (qa 29) (qa 30) (qa 31) (qa 32) (qa 33) (qa 34) (qa 35) (qa 36) (qa 37) (qa 38) (qa 39) (qa 40) (qa 41) (qa 42) (qa 43) (qa 44) (qa 45) (qa 46) (qa 47) (qa 48) (qa 49) (qa 50) (qa 51) (qa 52) (qa 53) (qa 54) (qa 55) (qb 0) (qb 1) (qb 2) (qb 3) (qb 4) (qb 5) d0 af _ (nI (4 * t)) h1 h2 h3 v0 v1 v2 _ _ _ hk9 (fun H locs ls hP hD hS hl => next _ _ P0 P1 P2 af _ _ _ H locs ls (by omega) (by omega) ha0 ha1 ha2 hf hP hD hS hl) H locs ls hP hD hS hl
    have hs9 := ite_f hc6 hs9
    by_cases hc7 : xs (nI (4 * t)).toNatClampNeg &&& 31 = 7
    · have hs9 := ite_t hc7 hs9
      obtain ⟨x0, x1, x2, hk9, he⟩ := bnd3_el hs9
      cases he
      refine xtabK (tgt := 371) hx hb dL_law_39 hc7 (by decide) (by decide) rfl (by decide) ?_
      exact lk_7 hlt hx hb hml hown hts hX hbl hbA hA hN hZ hK (hcr 0 0 (Nat.le_of_ble_eq_true rfl) (Nat.le_of_ble_eq_true rfl)) (qa 0) (qa 1) (qa 2) (qa 3) (qa 4) (qa 5) (qa 6) (qa 7) (qa 8) (qa 9) (qa 10) (qa 11) (qa 12) (qa 13) (qa 14) (qa 15) (qa 16) (qa 17) (qa 18) (qa 19) (qa 20) (qa 21) (qa 22) (qa 23) (qa 24) (qa 25) (qa 26) (qa 27) (qa 28) (qa 29) (qa 30) (qa 31) (qa 32) (qa 33) (qa 34) (qa 35) (qa 36) (qa 37) (qa 38) (qa 39) (qa 40) (qa 41) (qa 42) (qa 43) (qa 44) (qa 45) (qa 46) (qa 47) (qa 48) (qa 49) (qa 50) (qa 51) (qa 52) (qa 53) (qa 54) (qa 55) (qb 0) (qb 1) (qb 2) (qb 3) (qb 4) (qb 5) d0 af _ (nI (4 * t)) h1 h2 h3 v0 v1 v2 _ _ _ hk9 (fun H locs ls hP hD hS hl => next _ _ P0 P1 P2 af _ _ _ H locs ls (by omega) (by omega) ha0 ha1 ha2 hf hP hD hS hl) H locs ls hP hD hS hl
    have hs9 := ite_f hc7 hs9
    by_cases hc8 : xs (nI (4 * t)).toNatClampNeg &&& 31 = 8
    · have hs9 := ite_t hc8 hs9
      obtain ⟨x0, x1, x2, hk9, he⟩ := bnd3_el hs9
      cases he
      refine xtabK (tgt := 396) hx hb dL_law_39 hc8 (by decide) (by decide) rfl (by decide) ?_
      exact lk_8 hlt hx hb hml hown hts hX hbl hbA hA hN hZ hK (hcr 0 0 (Nat.le_of_ble_eq_true rfl) (Nat.le_of_ble_eq_true rfl)) (qa 0) (qa 1) (qa 2) (qa 3) (qa 4) (qa 5) (qa 6) (qa 7) (qa 8) (qa 9) (qa 10) (qa 11) (qa 12) (qa 13) (qa 14) (qa 15) (qa 16) (qa 17) (qa 18) (qa 19) (qa 20) (qa 21) (qa 22) (qa 23) (qa 24) (qa 25) (qa 26) (qa 27) (qa 28) (qa 29) (qa 30) (qa 31) (qa 32) (qa 33) (qa 34) (qa 35) (qa 36) (qa 37) (qa 38) (qa 39) (qa 40) (qa 41) (qa 42) (qa 43) (qa 44) (qa 45) (qa 46) (qa 47) (qa 48) (qa 49) (qa 50) (qa 51) (qa 52) (qa 53) (qa 54) (qa 55) (qb 0) (qb 1) (qb 2) (qb 3) (qb 4) (qb 5) d0 af _ (nI (4 * t)) h1 h2 h3 v0 v1 v2 _ _ _ hk9 (fun H locs ls hP hD hS hl => next _ _ P0 P1 P2 af _ _ _ H locs ls (by omega) (by omega) ha0 ha1 ha2 hf hP hD hS hl) H locs ls hP hD hS hl
    have hs9 := ite_f hc8 hs9
    by_cases hc9 : xs (nI (4 * t)).toNatClampNeg &&& 31 = 9
    · have hs9 := ite_t hc9 hs9
      obtain ⟨x0, x1, x2, hk9, he⟩ := bnd3_el hs9
      cases he
      refine xtabK (tgt := 421) hx hb dL_law_39 hc9 (by decide) (by decide) rfl (by decide) ?_
      exact lk_9 hlt hx hb hml hown hts hX hbl hbA hA hN hZ hK (hcr 1 6 (Nat.le_of_ble_eq_true rfl) (Nat.le_of_ble_eq_true rfl)) (qa 0) (qa 1) (qa 2) (qa 3) (qa 4) (qa 5) (qa 6) (qa 7) (qa 8) (qa 9) (qa 10) (qa 11) (qa 12) (qa 13) (qa 14) (qa 15) (qa 16) (qa 17) (qa 18) (qa 19) (qa 20) (qa 21) (qa 22) (qa 23) (qa 24) (qa 25) (qa 26) (qa 27) (qa 28) (qa 29) (qa 30) (qa 31) (qa 32) (qa 33) (qa 34) (qa 35) (qa 36) (qa 37) (qa 38) (qa 39) (qa 40) (qa 41) (qa 42) (qa 43) (qa 44) (qa 45) (qa 46) (qa 47) (qa 48) (qa 49) (qa 50) (qa 51) (qa 52) (qa 53) (qa 54) (qa 55) (qb 0) (qb 1) (qb 2) (qb 3) (qb 4) (qb 5) d0 af _ (nI (4 * t)) h1 h2 h3 v0 v1 v2 _ _ _ hk9 (fun H locs ls hP hD hS hl => next _ _ P0 P1 P2 af _ _ _ H locs ls (by omega) (by omega) ha0 ha1 ha2 hf hP hD hS hl) H locs ls hP hD hS hl
    have hs9 := ite_f hc9 hs9
    by_cases hc10 : xs (nI (4 * t)).toNatClampNeg &&& 31 = 10
    · have hs9 := ite_t hc10 hs9
      obtain ⟨x0, x1, x2, hk9, he⟩ := bnd3_el hs9
      cases he
      refine xtabK (tgt := 449) hx hb dL_law_39 hc10 (by decide) (by decide) rfl (by decide) ?_
      exact lk_10 hlt hx hb hml hown hts hX hbl hbA hA hN hZ hK (hcr 0 0 (Nat.le_of_ble_eq_true rfl) (Nat.le_of_ble_eq_true rfl)) (qa 0) (qa 1) (qa 2) (qa 3) (qa 4) (qa 5) (qa 6) (qa 7) (qa 8) (qa 9) (qa 10) (qa 11) (qa 12) (qa 13) (qa 14) (qa 15) (qa 16) (qa 17) (qa 18) (qa 19) (qa 20) (qa 21) (qa 22) (qa 23) (qa 24) (qa 25) (qa 26) (qa 27) (qa 28) (qa 29) (qa 30) (qa 31) (qa 32) (qa 33) (qa 34) (qa 35) (qa 36) (qa 37) (qa 38) (qa 39) (qa 40) (qa 41) (qa 42) (qa 43) (qa 44) (qa 45) (qa 46) (qa 47) (qa 48) (qa 49) (qa 50) (qa 51) (qa 52) (qa 53) (qa 54) (qa 55) (qb 0) (qb 1) (qb 2) (qb 3) (qb 4) (qb 5) d0 af _ (nI (4 * t)) h1 h2 h3 v0 v1 v2 _ _ _ hk9 (fun H locs ls hP hD hS hl => next _ _ P0 P1 P2 af _ _ _ H locs ls (by omega) (by omega) ha0 ha1 ha2 hf hP hD hS hl) H locs ls hP hD hS hl
    have hs9 := ite_f hc10 hs9
    by_cases hc11 : xs (nI (4 * t)).toNatClampNeg &&& 31 = 11
    · have hs9 := ite_t hc11 hs9
      obtain ⟨x0, x1, x2, hk9, he⟩ := bnd3_el hs9
      cases he
      refine xtabK (tgt := 502) hx hb dL_law_39 hc11 (by decide) (by decide) rfl (by decide) ?_
      exact lk_11 hlt hx hb hml hown hts hX hbl hbA hA hN hZ hK (hcr 0 0 (Nat.le_of_ble_eq_true rfl) (Nat.le_of_ble_eq_true rfl)) (qa 0) (qa 1) (qa 2) (qa 3) (qa 4) (qa 5) (qa 6) (qa 7) (qa 8) (qa 9) (qa 10) (qa 11) (qa 12) (qa 13) (qa 14) (qa 15) (qa 16) (qa 17) (qa 18) (qa 19) (qa 20) (qa 21) (qa 22) (qa 23) (qa 24) (qa 25) (qa 26) (qa 27) (qa 28) (qa 29) (qa 30) (qa 31) (qa 32) (qa 33) (qa 34) (qa 35) (qa 36) (qa 37) (qa 38) (qa 39) (qa 40) (qa 41) (qa 42) (qa 43) (qa 44) (qa 45) (qa 46) (qa 47) (qa 48) (qa 49) (qa 50) (qa 51) (qa 52) (qa 53) (qa 54) (qa 55) (qb 0) (qb 1) (qb 2) (qb 3) (qb 4) (qb 5) d0 af _ (nI (4 * t)) h1 h2 h3 v0 v1 v2 _ _ _ hk9 (fun H locs ls hP hD hS hl => next _ _ P0 P1 P2 af _ _ _ H locs ls (by omega) (by omega) ha0 ha1 ha2 hf hP hD hS hl) H locs ls hP hD hS hl
    have hs9 := ite_f hc11 hs9
    by_cases hc12 : xs (nI (4 * t)).toNatClampNeg &&& 31 = 12
    · have hs9 := ite_t hc12 hs9
      obtain ⟨x0, x1, x2, hk9, he⟩ := bnd3_el hs9
      cases he
      refine xtabK (tgt := 527) hx hb dL_law_39 hc12 (by decide) (by decide) rfl (by decide) ?_
      exact lk_12 hlt hx hb hml hown hts hX hbl hbA hA hN hZ hK (hcr 0 0 (Nat.le_of_ble_eq_true rfl) (Nat.le_of_ble_eq_true rfl)) (qa 0) (qa 1) (qa 2) (qa 3) (qa 4) (qa 5) (qa 6) (qa 7) (qa 8) (qa 9) (qa 10) (qa 11) (qa 12) (qa 13) (qa 14) (qa 15) (qa 16) (qa 17) (qa 18) (qa 19) (qa 20) (qa 21) (qa 22) (qa 23) (qa 24) (qa 25) (qa 26) (qa 27) (qa 28) (qa 29) (qa 30) (qa 31) (qa 32) (qa 33) (qa 34) (qa 35) (qa 36) (qa 37) (qa 38) (qa 39) (qa 40) (qa 41) (qa 42) (qa 43) (qa 44) (qa 45) (qa 46) (qa 47) (qa 48) (qa 49) (qa 50) (qa 51) (qa 52) (qa 53) (qa 54) (qa 55) (qb 0) (qb 1) (qb 2) (qb 3) (qb 4) (qb 5) d0 af _ (nI (4 * t)) h1 h2 h3 v0 v1 v2 _ _ _ hk9 (fun H locs ls hP hD hS hl => next _ _ P0 P1 P2 af _ _ _ H locs ls (by omega) (by omega) ha0 ha1 ha2 hf hP hD hS hl) H locs ls hP hD hS hl
    have hs9 := ite_f hc12 hs9
    by_cases hc13 : xs (nI (4 * t)).toNatClampNeg &&& 31 = 13
    · have hs9 := ite_t hc13 hs9
      obtain ⟨x0, x1, x2, hk9, he⟩ := bnd3_el hs9
      cases he
      refine xtabK (tgt := 552) hx hb dL_law_39 hc13 (by decide) (by decide) rfl (by decide) ?_
      exact lk_13 hlt hx hb hml hown hts hX hbl hbA hA hN hZ hK (hcr 0 0 (Nat.le_of_ble_eq_true rfl) (Nat.le_of_ble_eq_true rfl)) (qa 0) (qa 1) (qa 2) (qa 3) (qa 4) (qa 5) (qa 6) (qa 7) (qa 8) (qa 9) (qa 10) (qa 11) (qa 12) (qa 13) (qa 14) (qa 15) (qa 16) (qa 17) (qa 18) (qa 19) (qa 20) (qa 21) (qa 22) (qa 23) (qa 24) (qa 25) (qa 26) (qa 27) (qa 28) (qa 29) (qa 30) (qa 31) (qa 32) (qa 33) (qa 34) (qa 35) (qa 36) (qa 37) (qa 38) (qa 39) (qa 40) (qa 41) (qa 42) (qa 43) (qa 44) (qa 45) (qa 46) (qa 47) (qa 48) (qa 49) (qa 50) (qa 51) (qa 52) (qa 53) (qa 54) (qa 55) (qb 0) (qb 1) (qb 2) (qb 3) (qb 4) (qb 5) d0 af _ (nI (4 * t)) h1 h2 h3 v0 v1 v2 _ _ _ hk9 (fun H locs ls hP hD hS hl => next _ _ P0 P1 P2 af _ _ _ H locs ls (by omega) (by omega) ha0 ha1 ha2 hf hP hD hS hl) H locs ls hP hD hS hl
    have hs9 := ite_f hc13 hs9
    by_cases hc14 : xs (nI (4 * t)).toNatClampNeg &&& 31 = 14
    · have hs9 := ite_t hc14 hs9
      obtain ⟨x0, x1, x2, hk9, he⟩ := bnd3_el hs9
      cases he
      refine xtabK (tgt := 617) hx hb dL_law_39 hc14 (by decide) (by decide) rfl (by decide) ?_
      exact lk_14 hlt hx hb hml hown hts hX hbl hbA hA hN hZ hK (hcr 0 0 (Nat.le_of_ble_eq_true rfl) (Nat.le_of_ble_eq_true rfl)) (qa 0) (qa 1) (qa 2) (qa 3) (qa 4) (qa 5) (qa 6) (qa 7) (qa 8) (qa 9) (qa 10) (qa 11) (qa 12) (qa 13) (qa 14) (qa 15) (qa 16) (qa 17) (qa 18) (qa 19) (qa 20) (qa 21) (qa 22) (qa 23) (qa 24) (qa 25) (qa 26) (qa 27) (qa 28) (qa 29) (qa 30) (qa 31) (qa 32) (qa 33) (qa 34) (qa 35) (qa 36) (qa 37) (qa 38) (qa 39) (qa 40) (qa 41) (qa 42) (qa 43) (qa 44) (qa 45) (qa 46) (qa 47) (qa 48) (qa 49) (qa 50) (qa 51) (qa 52) (qa 53) (qa 54) (qa 55) (qb 0) (qb 1) (qb 2) (qb 3) (qb 4) (qb 5) d0 af _ (nI (4 * t)) h1 h2 h3 v0 v1 v2 _ _ _ hk9 (fun H locs ls hP hD hS hl => next _ _ P0 P1 P2 af _ _ _ H locs ls (by omega) (by omega) ha0 ha1 ha2 hf hP hD hS hl) H locs ls hP hD hS hl
    have hs9 := ite_f hc14 hs9
    by_cases hc15 : xs (nI (4 * t)).toNatClampNeg &&& 31 = 15
    · have hs9 := ite_t hc15 hs9
      obtain ⟨x0, x1, x2, hk9, he⟩ := bnd3_el hs9
      cases he
      refine xtabK (tgt := 682) hx hb dL_law_39 hc15 (by decide) (by decide) rfl (by decide) ?_
      exact lk_15 hlt hx hb hml hown hts hX hbl hbA hA hN hZ hK (hcr 0 0 (Nat.le_of_ble_eq_true rfl) (Nat.le_of_ble_eq_true rfl)) (qa 0) (qa 1) (qa 2) (qa 3) (qa 4) (qa 5) (qa 6) (qa 7) (qa 8) (qa 9) (qa 10) (qa 11) (qa 12) (qa 13) (qa 14) (qa 15) (qa 16) (qa 17) (qa 18) (qa 19) (qa 20) (qa 21) (qa 22) (qa 23) (qa 24) (qa 25) (qa 26) (qa 27) (qa 28) (qa 29) (qa 30) (qa 31) (qa 32) (qa 33) (qa 34) (qa 35) (qa 36) (qa 37) (qa 38) (qa 39) (qa 40) (qa 41) (qa 42) (qa 43) (qa 44) (qa 45) (qa 46) (qa 47) (qa 48) (qa 49) (qa 50) (qa 51) (qa 52) (qa 53) (qa 54) (qa 55) (qb 0) (qb 1) (qb 2) (qb 3) (qb 4) (qb 5) d0 af _ (nI (4 * t)) h1 h2 h3 v0 v1 v2 _ _ _ hk9 (fun H locs ls hP hD hS hl => next _ _ P0 P1 P2 af _ _ _ H locs ls (by omega) (by omega) ha0 ha1 ha2 hf hP hD hS hl) H locs ls hP hD hS hl
    have hs9 := ite_f hc15 hs9
    by_cases hc16 : xs (nI (4 * t)).toNatClampNeg &&& 31 = 16
    · have hs9 := ite_t hc16 hs9
      obtain ⟨x0, x1, x2, hk9, he⟩ := bnd3_el hs9
      cases he
      refine xtabK (tgt := 707) hx hb dL_law_39 hc16 (by decide) (by decide) rfl (by decide) ?_
      exact lk_16 hlt hx hb hml hown hts hX hbl hbA hA hN hZ hK (hcr 0 0 (Nat.le_of_ble_eq_true rfl) (Nat.le_of_ble_eq_true rfl)) (qa 0) (qa 1) (qa 2) (qa 3) (qa 4) (qa 5) (qa 6) (qa 7) (qa 8) (qa 9) (qa 10) (qa 11) (qa 12) (qa 13) (qa 14) (qa 15) (qa 16) (qa 17) (qa 18) (qa 19) (qa 20) (qa 21) (qa 22) (qa 23) (qa 24) (qa 25) (qa 26) (qa 27) (qa 28) (qa 29) (qa 30) (qa 31) (qa 32) (qa 33) (qa 34) (qa 35) (qa 36) (qa 37) (qa 38) (qa 39) (qa 40) (qa 41) (qa 42) (qa 43) (qa 44) (qa 45) (qa 46) (qa 47) (qa 48) (qa 49) (qa 50) (qa 51) (qa 52) (qa 53) (qa 54) (qa 55) (qb 0) (qb 1) (qb 2) (qb 3) (qb 4) (qb 5) d0 af _ (nI (4 * t)) h1 h2 h3 v0 v1 v2 _ _ _ hk9 (fun H locs ls hP hD hS hl => next _ _ P0 P1 P2 af _ _ _ H locs ls (by omega) (by omega) ha0 ha1 ha2 hf hP hD hS hl) H locs ls hP hD hS hl
    have hs9 := ite_f hc16 hs9
    by_cases hc17 : xs (nI (4 * t)).toNatClampNeg &&& 31 = 17
    · have hs9 := ite_t hc17 hs9
      obtain ⟨x0, x1, x2, hk9, he⟩ := bnd3_el hs9
      cases he
      refine xtabK (tgt := 732) hx hb dL_law_39 hc17 (by decide) (by decide) rfl (by decide) ?_
      exact lk_17 hlt hx hb hml hown hts hX hbl hbA hA hN hZ hK (hcr 0 0 (Nat.le_of_ble_eq_true rfl) (Nat.le_of_ble_eq_true rfl)) (qa 0) (qa 1) (qa 2) (qa 3) (qa 4) (qa 5) (qa 6) (qa 7) (qa 8) (qa 9) (qa 10) (qa 11) (qa 12) (qa 13) (qa 14) (qa 15) (qa 16) (qa 17) (qa 18) (qa 19) (qa 20) (qa 21) (qa 22) (qa 23) (qa 24) (qa 25) (qa 26) (qa 27) (qa 28) (qa 29) (qa 30) (qa 31) (qa 32) (qa 33) (qa 34) (qa 35) (qa 36) (qa 37) (qa 38) (qa 39) (qa 40) (qa 41) (qa 42) (qa 43) (qa 44) (qa 45) (qa 46) (qa 47) (qa 48) (qa 49) (qa 50) (qa 51) (qa 52) (qa 53) (qa 54) (qa 55) (qb 0) (qb 1) (qb 2) (qb 3) (qb 4) (qb 5) d0 af _ (nI (4 * t)) h1 h2 h3 v0 v1 v2 _ _ _ hk9 (fun H locs ls hP hD hS hl => next _ _ P0 P1 P2 af _ _ _ H locs ls (by omega) (by omega) ha0 ha1 ha2 hf hP hD hS hl) H locs ls hP hD hS hl
    have hs9 := ite_f hc17 hs9
    by_cases hc18 : xs (nI (4 * t)).toNatClampNeg &&& 31 = 18
    · have hs9 := ite_t hc18 hs9
      obtain ⟨x0, x1, x2, hk9, he⟩ := bnd3_el hs9
      cases he
      refine xtabK (tgt := 769) hx hb dL_law_39 hc18 (by decide) (by decide) rfl (by decide) ?_
      exact lk_18 hlt hx hb hml hown hts hX hbl hbA hA hN hZ hK (hcr 0 0 (Nat.le_of_ble_eq_true rfl) (Nat.le_of_ble_eq_true rfl)) (qa 0) (qa 1) (qa 2) (qa 3) (qa 4) (qa 5) (qa 6) (qa 7) (qa 8) (qa 9) (qa 10) (qa 11) (qa 12) (qa 13) (qa 14) (qa 15) (qa 16) (qa 17) (qa 18) (qa 19) (qa 20) (qa 21) (qa 22) (qa 23) (qa 24) (qa 25) (qa 26) (qa 27) (qa 28) (qa 29) (qa 30) (qa 31) (qa 32) (qa 33) (qa 34) (qa 35) (qa 36) (qa 37) (qa 38) (qa 39) (qa 40) (qa 41) (qa 42) (qa 43) (qa 44) (qa 45) (qa 46) (qa 47) (qa 48) (qa 49) (qa 50) (qa 51) (qa 52) (qa 53) (qa 54) (qa 55) (qb 0) (qb 1) (qb 2) (qb 3) (qb 4) (qb 5) d0 af _ (nI (4 * t)) h1 h2 h3 v0 v1 v2 _ _ _ hk9 (fun H locs ls hP hD hS hl => next _ _ P0 P1 P2 af _ _ _ H locs ls (by omega) (by omega) ha0 ha1 ha2 hf hP hD hS hl) H locs ls hP hD hS hl
    have hs9 := ite_f hc18 hs9
    by_cases hc19 : xs (nI (4 * t)).toNatClampNeg &&& 31 = 19
    · have hs9 := ite_t hc19 hs9
      obtain ⟨x0, x1, x2, hk9, he⟩ := bnd3_el hs9
      cases he
      refine xtabK (tgt := 806) hx hb dL_law_39 hc19 (by decide) (by decide) rfl (by decide) ?_
      exact lk_19 hlt hx hb hml hown hts hX hbl hbA hA hN hZ hK (hcr 0 0 (Nat.le_of_ble_eq_true rfl) (Nat.le_of_ble_eq_true rfl)) (qa 0) (qa 1) (qa 2) (qa 3) (qa 4) (qa 5) (qa 6) (qa 7) (qa 8) (qa 9) (qa 10) (qa 11) (qa 12) (qa 13) (qa 14) (qa 15) (qa 16) (qa 17) (qa 18) (qa 19) (qa 20) (qa 21) (qa 22) (qa 23) (qa 24) (qa 25) (qa 26) (qa 27) (qa 28) (qa 29) (qa 30) (qa 31) (qa 32) (qa 33) (qa 34) (qa 35) (qa 36) (qa 37) (qa 38) (qa 39) (qa 40) (qa 41) (qa 42) (qa 43) (qa 44) (qa 45) (qa 46) (qa 47) (qa 48) (qa 49) (qa 50) (qa 51) (qa 52) (qa 53) (qa 54) (qa 55) (qb 0) (qb 1) (qb 2) (qb 3) (qb 4) (qb 5) d0 af _ (nI (4 * t)) h1 h2 h3 v0 v1 v2 _ _ _ hk9 (fun H locs ls hP hD hS hl => next _ _ P0 P1 P2 af _ _ _ H locs ls (by omega) (by omega) ha0 ha1 ha2 hf hP hD hS hl) H locs ls hP hD hS hl
    have hs9 := ite_f hc19 hs9
    by_cases hc20 : xs (nI (4 * t)).toNatClampNeg &&& 31 = 20
    · have hs9 := ite_t hc20 hs9
      obtain ⟨x0, x1, x2, hk9, he⟩ := bnd3_el hs9
      cases he
      refine xtabK (tgt := 843) hx hb dL_law_39 hc20 (by decide) (by decide) rfl (by decide) ?_
      exact lk_20 hlt hx hb hml hown hts hX hbl hbA hA hN hZ hK (hcr 0 0 (Nat.le_of_ble_eq_true rfl) (Nat.le_of_ble_eq_true rfl)) (qa 0) (qa 1) (qa 2) (qa 3) (qa 4) (qa 5) (qa 6) (qa 7) (qa 8) (qa 9) (qa 10) (qa 11) (qa 12) (qa 13) (qa 14) (qa 15) (qa 16) (qa 17) (qa 18) (qa 19) (qa 20) (qa 21) (qa 22) (qa 23) (qa 24) (qa 25) (qa 26) (qa 27) (qa 28) (qa 29) (qa 30) (qa 31) (qa 32) (qa 33) (qa 34) (qa 35) (qa 36) (qa 37) (qa 38) (qa 39) (qa 40) (qa 41) (qa 42) (qa 43) (qa 44) (qa 45) (qa 46) (qa 47) (qa 48) (qa 49) (qa 50) (qa 51) (qa 52) (qa 53) (qa 54) (qa 55) (qb 0) (qb 1) (qb 2) (qb 3) (qb 4) (qb 5) d0 af _ (nI (4 * t)) h1 h2 h3 v0 v1 v2 _ _ _ hk9 (fun H locs ls hP hD hS hl => next _ _ P0 P1 P2 af _ _ _ H locs ls (by omega) (by omega) ha0 ha1 ha2 hf hP hD hS hl) H locs ls hP hD hS hl
    have hs9 := ite_f hc20 hs9
    by_cases hc21 : xs (nI (4 * t)).toNatClampNeg &&& 31 = 21
    · have hs9 := ite_t hc21 hs9
      obtain ⟨x0, x1, x2, hk9, he⟩ := bnd3_el hs9
      cases he
      refine xtabK (tgt := 868) hx hb dL_law_39 hc21 (by decide) (by decide) rfl (by decide) ?_
      exact lk_21 hlt hx hb hml hown hts hX hbl hbA hA hN hZ hK (hcr 0 0 (Nat.le_of_ble_eq_true rfl) (Nat.le_of_ble_eq_true rfl)) (qa 0) (qa 1) (qa 2) (qa 3) (qa 4) (qa 5) (qa 6) (qa 7) (qa 8) (qa 9) (qa 10) (qa 11) (qa 12) (qa 13) (qa 14) (qa 15) (qa 16) (qa 17) (qa 18) (qa 19) (qa 20) (qa 21) (qa 22) (qa 23) (qa 24) (qa 25) (qa 26) (qa 27) (qa 28) (qa 29) (qa 30) (qa 31) (qa 32) (qa 33) (qa 34) (qa 35) (qa 36) (qa 37) (qa 38) (qa 39) (qa 40) (qa 41) (qa 42) (qa 43) (qa 44) (qa 45) (qa 46) (qa 47) (qa 48) (qa 49) (qa 50) (qa 51) (qa 52) (qa 53) (qa 54) (qa 55) (qb 0) (qb 1) (qb 2) (qb 3) (qb 4) (qb 5) d0 af _ (nI (4 * t)) h1 h2 h3 v0 v1 v2 _ _ _ hk9 (fun H locs ls hP hD hS hl => next _ _ P0 P1 P2 af _ _ _ H locs ls (by omega) (by omega) ha0 ha1 ha2 hf hP hD hS hl) H locs ls hP hD hS hl
    have hs9 := ite_f hc21 hs9
    by_cases hc22 : xs (nI (4 * t)).toNatClampNeg &&& 31 = 22
    · have hs9 := ite_t hc22 hs9
      obtain ⟨x0, x1, x2, hk9, he⟩ := bnd3_el hs9
      cases he
      refine xtabK (tgt := 893) hx hb dL_law_39 hc22 (by decide) (by decide) rfl (by decide) ?_
      exact lk_22 hlt hx hb hml hown hts hX hbl hbA hA hN hZ hK (hcr 0 0 (Nat.le_of_ble_eq_true rfl) (Nat.le_of_ble_eq_true rfl)) (qa 0) (qa 1) (qa 2) (qa 3) (qa 4) (qa 5) (qa 6) (qa 7) (qa 8) (qa 9) (qa 10) (qa 11) (qa 12) (qa 13) (qa 14) (qa 15) (qa 16) (qa 17) (qa 18) (qa 19) (qa 20) (qa 21) (qa 22) (qa 23) (qa 24) (qa 25) (qa 26) (qa 27) (qa 28) (qa 29) (qa 30) (qa 31) (qa 32) (qa 33) (qa 34) (qa 35) (qa 36) (qa 37) (qa 38) (qa 39) (qa 40) (qa 41) (qa 42) (qa 43) (qa 44) (qa 45) (qa 46) (qa 47) (qa 48) (qa 49) (qa 50) (qa 51) (qa 52) (qa 53) (qa 54) (qa 55) (qb 0) (qb 1) (qb 2) (qb 3) (qb 4) (qb 5) d0 af _ (nI (4 * t)) h1 h2 h3 v0 v1 v2 _ _ _ hk9 (fun H locs ls hP hD hS hl => next _ _ P0 P1 P2 af _ _ _ H locs ls (by omega) (by omega) ha0 ha1 ha2 hf hP hD hS hl) H locs ls hP hD hS hl
    have hs9 := ite_f hc22 hs9
    by_cases hc23 : xs (nI (4 * t)).toNatClampNeg &&& 31 = 23
    · have hs9 := ite_t hc23 hs9
      obtain ⟨x0, x1, x2, hk9, he⟩ := bnd3_el hs9
      cases he
      refine xtabK (tgt := 946) hx hb dL_law_39 hc23 (by decide) (by decide) rfl (by decide) ?_
      exact lk_23 hlt hx hb hml hown hts hX hbl hbA hA hN hZ hK (hcr 0 0 (Nat.le_of_ble_eq_true rfl) (Nat.le_of_ble_eq_true rfl)) (qa 0) (qa 1) (qa 2) (qa 3) (qa 4) (qa 5) (qa 6) (qa 7) (qa 8) (qa 9) (qa 10) (qa 11) (qa 12) (qa 13) (qa 14) (qa 15) (qa 16) (qa 17) (qa 18) (qa 19) (qa 20) (qa 21) (qa 22) (qa 23) (qa 24) (qa 25) (qa 26) (qa 27) (qa 28) (qa 29) (qa 30) (qa 31) (qa 32) (qa 33) (qa 34) (qa 35) (qa 36) (qa 37) (qa 38) (qa 39) (qa 40) (qa 41) (qa 42) (qa 43) (qa 44) (qa 45) (qa 46) (qa 47) (qa 48) (qa 49) (qa 50) (qa 51) (qa 52) (qa 53) (qa 54) (qa 55) (qb 0) (qb 1) (qb 2) (qb 3) (qb 4) (qb 5) d0 af _ (nI (4 * t)) h1 h2 h3 v0 v1 v2 _ _ _ hk9 (fun H locs ls hP hD hS hl => next _ _ P0 P1 P2 af _ _ _ H locs ls (by omega) (by omega) ha0 ha1 ha2 hf hP hD hS hl) H locs ls hP hD hS hl
    have hs9 := ite_f hc23 hs9
    by_cases hc24 : xs (nI (4 * t)).toNatClampNeg &&& 31 = 24
    · have hs9 := ite_t hc24 hs9
      obtain ⟨x0, x1, x2, hk9, he⟩ := bnd3_el hs9
      cases he
      refine xtabK (tgt := 983) hx hb dL_law_39 hc24 (by decide) (by decide) rfl (by decide) ?_
      exact lk_24 hlt hx hb hml hown hts hX hbl hbA hA hN hZ hK (hcr 0 0 (Nat.le_of_ble_eq_true rfl) (Nat.le_of_ble_eq_true rfl)) (qa 0) (qa 1) (qa 2) (qa 3) (qa 4) (qa 5) (qa 6) (qa 7) (qa 8) (qa 9) (qa 10) (qa 11) (qa 12) (qa 13) (qa 14) (qa 15) (qa 16) (qa 17) (qa 18) (qa 19) (qa 20) (qa 21) (qa 22) (qa 23) (qa 24) (qa 25) (qa 26) (qa 27) (qa 28) (qa 29) (qa 30) (qa 31) (qa 32) (qa 33) (qa 34) (qa 35) (qa 36) (qa 37) (qa 38) (qa 39) (qa 40) (qa 41) (qa 42) (qa 43) (qa 44) (qa 45) (qa 46) (qa 47) (qa 48) (qa 49) (qa 50) (qa 51) (qa 52) (qa 53) (qa 54) (qa 55) (qb 0) (qb 1) (qb 2) (qb 3) (qb 4) (qb 5) d0 af _ (nI (4 * t)) h1 h2 h3 v0 v1 v2 _ _ _ hk9 (fun H locs ls hP hD hS hl => next _ _ P0 P1 P2 af _ _ _ H locs ls (by omega) (by omega) ha0 ha1 ha2 hf hP hD hS hl) H locs ls hP hD hS hl
    have hs9 := ite_f hc24 hs9
    by_cases hc25 : xs (nI (4 * t)).toNatClampNeg &&& 31 = 25
    · have hs9 := ite_t hc25 hs9
      obtain ⟨x0, x1, x2, hk9, he⟩ := bnd3_el hs9
      cases he
      refine xtabK (tgt := 996) hx hb dL_law_39 hc25 (by decide) (by decide) rfl (by decide) ?_
      exact lk_25 hlt hx hb hml hown hts hX hbl hbA hA hN hZ hK (hcr 0 0 (Nat.le_of_ble_eq_true rfl) (Nat.le_of_ble_eq_true rfl)) (qa 0) (qa 1) (qa 2) (qa 3) (qa 4) (qa 5) (qa 6) (qa 7) (qa 8) (qa 9) (qa 10) (qa 11) (qa 12) (qa 13) (qa 14) (qa 15) (qa 16) (qa 17) (qa 18) (qa 19) (qa 20) (qa 21) (qa 22) (qa 23) (qa 24) (qa 25) (qa 26) (qa 27) (qa 28) (qa 29) (qa 30) (qa 31) (qa 32) (qa 33) (qa 34) (qa 35) (qa 36) (qa 37) (qa 38) (qa 39) (qa 40) (qa 41) (qa 42) (qa 43) (qa 44) (qa 45) (qa 46) (qa 47) (qa 48) (qa 49) (qa 50) (qa 51) (qa 52) (qa 53) (qa 54) (qa 55) (qb 0) (qb 1) (qb 2) (qb 3) (qb 4) (qb 5) d0 af _ (nI (4 * t)) h1 h2 h3 v0 v1 v2 _ _ _ hk9 (fun H locs ls hP hD hS hl => next _ _ P0 P1 P2 af _ _ _ H locs ls (by omega) (by omega) ha0 ha1 ha2 hf hP hD hS hl) H locs ls hP hD hS hl
    have hs9 := ite_f hc25 hs9
    by_cases hc26 : xs (nI (4 * t)).toNatClampNeg &&& 31 = 26
    · have hs9 := ite_t hc26 hs9
      obtain ⟨x0, x1, x2, hk9, he⟩ := bnd3_el hs9
      cases he
      refine xtabK (tgt := 1021) hx hb dL_law_39 hc26 (by decide) (by decide) rfl (by decide) ?_
      exact lk_26 hlt hx hb hml hown hts hX hbl hbA hA hN hZ hK (hcr 0 0 (Nat.le_of_ble_eq_true rfl) (Nat.le_of_ble_eq_true rfl)) (qa 0) (qa 1) (qa 2) (qa 3) (qa 4) (qa 5) (qa 6) (qa 7) (qa 8) (qa 9) (qa 10) (qa 11) (qa 12) (qa 13) (qa 14) (qa 15) (qa 16) (qa 17) (qa 18) (qa 19) (qa 20) (qa 21) (qa 22) (qa 23) (qa 24) (qa 25) (qa 26) (qa 27) (qa 28) (qa 29) (qa 30) (qa 31) (qa 32) (qa 33) (qa 34) (qa 35) (qa 36) (qa 37) (qa 38) (qa 39) (qa 40) (qa 41) (qa 42) (qa 43) (qa 44) (qa 45) (qa 46) (qa 47) (qa 48) (qa 49) (qa 50) (qa 51) (qa 52) (qa 53) (qa 54) (qa 55) (qb 0) (qb 1) (qb 2) (qb 3) (qb 4) (qb 5) d0 af _ (nI (4 * t)) h1 h2 h3 v0 v1 v2 _ _ _ hk9 (fun H locs ls hP hD hS hl => next _ _ P0 P1 P2 af _ _ _ H locs ls (by omega) (by omega) ha0 ha1 ha2 hf hP hD hS hl) H locs ls hP hD hS hl
    have hs9 := ite_f hc26 hs9
    by_cases hc27 : xs (nI (4 * t)).toNatClampNeg &&& 31 = 27
    · have hs9 := ite_t hc27 hs9
      obtain ⟨x0, x1, x2, hk9, he⟩ := bnd3_el hs9
      cases he
      refine xtabK (tgt := 1034) hx hb dL_law_39 hc27 (by decide) (by decide) rfl (by decide) ?_
      exact lk_27 hlt hx hb hml hown hts hX hbl hbA hA hN hZ hK (hcr 0 0 (Nat.le_of_ble_eq_true rfl) (Nat.le_of_ble_eq_true rfl)) (qa 0) (qa 1) (qa 2) (qa 3) (qa 4) (qa 5) (qa 6) (qa 7) (qa 8) (qa 9) (qa 10) (qa 11) (qa 12) (qa 13) (qa 14) (qa 15) (qa 16) (qa 17) (qa 18) (qa 19) (qa 20) (qa 21) (qa 22) (qa 23) (qa 24) (qa 25) (qa 26) (qa 27) (qa 28) (qa 29) (qa 30) (qa 31) (qa 32) (qa 33) (qa 34) (qa 35) (qa 36) (qa 37) (qa 38) (qa 39) (qa 40) (qa 41) (qa 42) (qa 43) (qa 44) (qa 45) (qa 46) (qa 47) (qa 48) (qa 49) (qa 50) (qa 51) (qa 52) (qa 53) (qa 54) (qa 55) (qb 0) (qb 1) (qb 2) (qb 3) (qb 4) (qb 5) d0 af _ (nI (4 * t)) h1 h2 h3 v0 v1 v2 _ _ _ hk9 (fun H locs ls hP hD hS hl => next _ _ P0 P1 P2 af _ _ _ H locs ls (by omega) (by omega) ha0 ha1 ha2 hf hP hD hS hl) H locs ls hP hD hS hl
    have hs9 := ite_f hc27 hs9
    by_cases hc28 : xs (nI (4 * t)).toNatClampNeg &&& 31 = 28
    · have hs9 := ite_t hc28 hs9
      unfold fk_28 at hs9
      refine xtabK (tgt := 1047) hx hb dL_law_39 hc28 (by decide) (by decide) rfl (by decide) ?_
      by_cases hp0 : (xs (nI (4 * t) + (1 : Int32)).toNatClampNeg) = 0
      · have hs9 := ite_t hp0 hs9
        have eP : (xs (nI (4 * t) + (1 : Int32)).toNatClampNeg).toNatClampNeg = 0 := by rw [hp0]; rfl
        have hin : vp_in (xs (nI (4 * t) + (1 : Int32)).toNatClampNeg) 3 := by rw [hp0]; unfold vp_in; decide
        cases P0 with
        | none =>
          have hs9 : (bnd4 (fk_28_new xs (nI (4 * t)) v0 v1 v2) fun a b c d => _) = some (w0, w1, w2, w3) := hs9
          obtain ⟨x0, x1, x2, x3, hk9, he⟩ := bnd4_el hs9
          cases he
          refine lk_28_new hlt hx hb hml hown hts hX hbl hbA hA hN hZ hK (hcr 20 1445 (Nat.le_of_ble_eq_true rfl) (Nat.le_of_ble_eq_true rfl)) (qa 0) (qa 1) (qa 2) (qa 3) (qa 4) (qa 5) (qa 6) (qa 7) (qa 8) (qa 9) (qa 10) (qa 11) (qa 12) (qa 13) (qa 14) (qa 15) (qa 16) (qa 17) (qa 18) (qa 19) (qa 20) (qa 21) (qa 22) (qa 23) (qa 24) (qa 25) (qa 26) (qa 27) (qa 28) (qa 29) (qa 30) (qa 31) (qa 32) (qa 33) (qa 34) (qa 35) (qa 36) (qa 37) (qa 38) (qa 39) (qa 40) (qa 41) (qa 42) (qa 43) (qa 44) (qa 45) (qa 46) (qa 47) (qa 48) (qa 49) (qa 50) (qa 51) (qa 52) (qa 53) (qa 54) (qa 55) (qb 0) (qb 1) (qb 2) (qb 3) (qb 4) (qb 5) d0 af _ (nI (4 * t)) h1 h2 h3 hin (by rw [eP, ha0]; rfl) v0 v1 v2 _ _ _ _ hk9 (fun q H locs ls hP hD hS hl => ?_) H locs ls hP hD hS hl
          have hP : va_P D vwCl (WB ca qa qb d0 (va_up af (xs (nI (4 * t) + (1 : Int32)).toNatClampNeg).toNatClampNeg (some (q 0))) w0 w1 w2 ((kc ca none ++ (kc ca P1 ++ kc ca P2)) ++ kc ca (some (x3, q)))) H := hP
          have hD : va_D (A0 s) (WB ca qa qb d0 (va_up af (xs (nI (4 * t) + (1 : Int32)).toNatClampNeg).toNatClampNeg (some (q 0))) w0 w1 w2 ((kc ca none ++ (kc ca P1 ++ kc ca P2)) ++ kc ca (some (x3, q)))) := hD
          have hpm0 : ((kc ca none ++ (kc ca P1 ++ kc ca P2)) ++ kc ca (some (x3, q))).Perm (kc ca (some (x3, q)) ++ (kc ca P1 ++ kc ca P2)) := by
            exact pmA _ _
          have hpm := WB_perm ca qa qb d0 (va_up af (xs (nI (4 * t) + (1 : Int32)).toNatClampNeg).toNatClampNeg (some (q 0))) w0 w1 w2 hpm0
          exact next _ _ (some (x3, q)) P1 P2 (va_up af (xs (nI (4 * t) + (1 : Int32)).toNatClampNeg).toNatClampNeg (some (q 0))) _ _ _ H locs ls (by omega) (by omega) (by simp [va_up, eP]) (by simp [va_up, eP, ha1]) (by simp [va_up, eP, ha2]) hf (va_P_perm hpm hP) (va_D_perm hpm hD) hS hl
        | some z =>
          obtain ⟨v3, q⟩ := z
          have hs9 : (bnd4 (fk_28_old xs (nI (4 * t)) v0 v1 v2 v3) fun a b c d => _) = some (w0, w1, w2, w3) := hs9
          obtain ⟨x0, x1, x2, x3, hk9, he⟩ := bnd4_el hs9
          cases he
          have hP := va_P_perm (List.Perm.refl _) hP
          have hD := va_D_perm (List.Perm.refl _) hD
          refine lk_28_old hlt hx hb hml hown hts hX hbl hbA hA hN hZ hK (hcr 0 0 (Nat.le_of_ble_eq_true rfl) (Nat.le_of_ble_eq_true rfl)) (qa 0) (qa 1) (qa 2) (qa 3) (qa 4) (qa 5) (qa 6) (qa 7) (qa 8) (qa 9) (qa 10) (qa 11) (qa 12) (qa 13) (qa 14) (qa 15) (qa 16) (qa 17) (qa 18) (qa 19) (qa 20) (qa 21) (qa 22) (qa 23) (qa 24) (qa 25) (qa 26) (qa 27) (qa 28) (qa 29) (qa 30) (qa 31) (qa 32) (qa 33) (qa 34) (qa 35) (qa 36) (qa 37) (qa 38) (qa 39) (qa 40) (qa 41) (qa 42) (qa 43) (qa 44) (qa 45) (qa 46) (qa 47) (qa 48) (qa 49) (qa 50) (qa 51) (qa 52) (qa 53) (qa 54) (qa 55) (qb 0) (qb 1) (qb 2) (qb 3) (qb 4) (qb 5) d0 q af (kc ca P1 ++ kc ca P2) (nI (4 * t)) h1 h2 h3 hin (by rw [eP, ha0]; rfl) v0 v1 v2 v3 _ _ _ _ hk9 (fun H locs ls hP hD hS hl => ?_) H locs ls hP hD hS hl
          have hP : va_P D vwCl (WB ca qa qb d0 af w0 w1 w2 (kc ca (some (x3, q)) ++ (kc ca P1 ++ kc ca P2))) H := hP
          have hD : va_D (A0 s) (WB ca qa qb d0 af w0 w1 w2 (kc ca (some (x3, q)) ++ (kc ca P1 ++ kc ca P2))) := hD
          exact next _ _ (some (x3, q)) P1 P2 af _ _ _ H locs ls (by omega) (by omega) ha0 ha1 ha2 hf (va_P_perm (List.Perm.refl _) hP) (va_D_perm (List.Perm.refl _) hD) hS hl
      have hs9 := ite_f hp0 hs9
      by_cases hp1 : (xs (nI (4 * t) + (1 : Int32)).toNatClampNeg) = 1
      · have hs9 := ite_t hp1 hs9
        have eP : (xs (nI (4 * t) + (1 : Int32)).toNatClampNeg).toNatClampNeg = 1 := by rw [hp1]; rfl
        have hin : vp_in (xs (nI (4 * t) + (1 : Int32)).toNatClampNeg) 3 := by rw [hp1]; unfold vp_in; decide
        cases P1 with
        | none =>
          have hs9 : (bnd4 (fk_28_new xs (nI (4 * t)) v0 v1 v2) fun a b c d => _) = some (w0, w1, w2, w3) := hs9
          obtain ⟨x0, x1, x2, x3, hk9, he⟩ := bnd4_el hs9
          cases he
          refine lk_28_new hlt hx hb hml hown hts hX hbl hbA hA hN hZ hK (hcr 20 1445 (Nat.le_of_ble_eq_true rfl) (Nat.le_of_ble_eq_true rfl)) (qa 0) (qa 1) (qa 2) (qa 3) (qa 4) (qa 5) (qa 6) (qa 7) (qa 8) (qa 9) (qa 10) (qa 11) (qa 12) (qa 13) (qa 14) (qa 15) (qa 16) (qa 17) (qa 18) (qa 19) (qa 20) (qa 21) (qa 22) (qa 23) (qa 24) (qa 25) (qa 26) (qa 27) (qa 28) (qa 29) (qa 30) (qa 31) (qa 32) (qa 33) (qa 34) (qa 35) (qa 36) (qa 37) (qa 38) (qa 39) (qa 40) (qa 41) (qa 42) (qa 43) (qa 44) (qa 45) (qa 46) (qa 47) (qa 48) (qa 49) (qa 50) (qa 51) (qa 52) (qa 53) (qa 54) (qa 55) (qb 0) (qb 1) (qb 2) (qb 3) (qb 4) (qb 5) d0 af _ (nI (4 * t)) h1 h2 h3 hin (by rw [eP, ha1]; rfl) v0 v1 v2 _ _ _ _ hk9 (fun q H locs ls hP hD hS hl => ?_) H locs ls hP hD hS hl
          have hP : va_P D vwCl (WB ca qa qb d0 (va_up af (xs (nI (4 * t) + (1 : Int32)).toNatClampNeg).toNatClampNeg (some (q 0))) w0 w1 w2 ((kc ca P0 ++ (kc ca none ++ kc ca P2)) ++ kc ca (some (x3, q)))) H := hP
          have hD : va_D (A0 s) (WB ca qa qb d0 (va_up af (xs (nI (4 * t) + (1 : Int32)).toNatClampNeg).toNatClampNeg (some (q 0))) w0 w1 w2 ((kc ca P0 ++ (kc ca none ++ kc ca P2)) ++ kc ca (some (x3, q)))) := hD
          have hpm0 : ((kc ca P0 ++ (kc ca none ++ kc ca P2)) ++ kc ca (some (x3, q))).Perm (kc ca P0 ++ (kc ca (some (x3, q)) ++ kc ca P2)) := by
            exact (pmA _ _).trans (pm1 _ _ _).symm
          have hpm := WB_perm ca qa qb d0 (va_up af (xs (nI (4 * t) + (1 : Int32)).toNatClampNeg).toNatClampNeg (some (q 0))) w0 w1 w2 hpm0
          exact next _ _ P0 (some (x3, q)) P2 (va_up af (xs (nI (4 * t) + (1 : Int32)).toNatClampNeg).toNatClampNeg (some (q 0))) _ _ _ H locs ls (by omega) (by omega) (by simp [va_up, eP, ha0]) (by simp [va_up, eP]) (by simp [va_up, eP, ha2]) hf (va_P_perm hpm hP) (va_D_perm hpm hD) hS hl
        | some z =>
          obtain ⟨v3, q⟩ := z
          have hs9 : (bnd4 (fk_28_old xs (nI (4 * t)) v0 v1 v2 v3) fun a b c d => _) = some (w0, w1, w2, w3) := hs9
          obtain ⟨x0, x1, x2, x3, hk9, he⟩ := bnd4_el hs9
          cases he
          have hP := va_P_perm (WB_perm ca qa qb d0 _ _ _ _ (pm1 _ _ _)) hP
          have hD := va_D_perm (WB_perm ca qa qb d0 _ _ _ _ (pm1 _ _ _)) hD
          refine lk_28_old hlt hx hb hml hown hts hX hbl hbA hA hN hZ hK (hcr 0 0 (Nat.le_of_ble_eq_true rfl) (Nat.le_of_ble_eq_true rfl)) (qa 0) (qa 1) (qa 2) (qa 3) (qa 4) (qa 5) (qa 6) (qa 7) (qa 8) (qa 9) (qa 10) (qa 11) (qa 12) (qa 13) (qa 14) (qa 15) (qa 16) (qa 17) (qa 18) (qa 19) (qa 20) (qa 21) (qa 22) (qa 23) (qa 24) (qa 25) (qa 26) (qa 27) (qa 28) (qa 29) (qa 30) (qa 31) (qa 32) (qa 33) (qa 34) (qa 35) (qa 36) (qa 37) (qa 38) (qa 39) (qa 40) (qa 41) (qa 42) (qa 43) (qa 44) (qa 45) (qa 46) (qa 47) (qa 48) (qa 49) (qa 50) (qa 51) (qa 52) (qa 53) (qa 54) (qa 55) (qb 0) (qb 1) (qb 2) (qb 3) (qb 4) (qb 5) d0 q af (kc ca P0 ++ kc ca P2) (nI (4 * t)) h1 h2 h3 hin (by rw [eP, ha1]; rfl) v0 v1 v2 v3 _ _ _ _ hk9 (fun H locs ls hP hD hS hl => ?_) H locs ls hP hD hS hl
          have hP : va_P D vwCl (WB ca qa qb d0 af w0 w1 w2 (kc ca (some (x3, q)) ++ (kc ca P0 ++ kc ca P2))) H := hP
          have hD : va_D (A0 s) (WB ca qa qb d0 af w0 w1 w2 (kc ca (some (x3, q)) ++ (kc ca P0 ++ kc ca P2))) := hD
          exact next _ _ P0 (some (x3, q)) P2 af _ _ _ H locs ls (by omega) (by omega) ha0 ha1 ha2 hf (va_P_perm ((WB_perm ca qa qb d0 _ _ _ _ (pm1 _ _ _)).symm) hP) (va_D_perm ((WB_perm ca qa qb d0 _ _ _ _ (pm1 _ _ _)).symm) hD) hS hl
      have hs9 := ite_f hp1 hs9
      by_cases hp2 : (xs (nI (4 * t) + (1 : Int32)).toNatClampNeg) = 2
      · have hs9 := ite_t hp2 hs9
        have eP : (xs (nI (4 * t) + (1 : Int32)).toNatClampNeg).toNatClampNeg = 2 := by rw [hp2]; rfl
        have hin : vp_in (xs (nI (4 * t) + (1 : Int32)).toNatClampNeg) 3 := by rw [hp2]; unfold vp_in; decide
        cases P2 with
        | none =>
          have hs9 : (bnd4 (fk_28_new xs (nI (4 * t)) v0 v1 v2) fun a b c d => _) = some (w0, w1, w2, w3) := hs9
          obtain ⟨x0, x1, x2, x3, hk9, he⟩ := bnd4_el hs9
          cases he
          refine lk_28_new hlt hx hb hml hown hts hX hbl hbA hA hN hZ hK (hcr 20 1445 (Nat.le_of_ble_eq_true rfl) (Nat.le_of_ble_eq_true rfl)) (qa 0) (qa 1) (qa 2) (qa 3) (qa 4) (qa 5) (qa 6) (qa 7) (qa 8) (qa 9) (qa 10) (qa 11) (qa 12) (qa 13) (qa 14) (qa 15) (qa 16) (qa 17) (qa 18) (qa 19) (qa 20) (qa 21) (qa 22) (qa 23) (qa 24) (qa 25) (qa 26) (qa 27) (qa 28) (qa 29) (qa 30) (qa 31) (qa 32) (qa 33) (qa 34) (qa 35) (qa 36) (qa 37) (qa 38) (qa 39) (qa 40) (qa 41) (qa 42) (qa 43) (qa 44) (qa 45) (qa 46) (qa 47) (qa 48) (qa 49) (qa 50) (qa 51) (qa 52) (qa 53) (qa 54) (qa 55) (qb 0) (qb 1) (qb 2) (qb 3) (qb 4) (qb 5) d0 af _ (nI (4 * t)) h1 h2 h3 hin (by rw [eP, ha2]; rfl) v0 v1 v2 _ _ _ _ hk9 (fun q H locs ls hP hD hS hl => ?_) H locs ls hP hD hS hl
          have hP : va_P D vwCl (WB ca qa qb d0 (va_up af (xs (nI (4 * t) + (1 : Int32)).toNatClampNeg).toNatClampNeg (some (q 0))) w0 w1 w2 ((kc ca P0 ++ (kc ca P1 ++ kc ca none)) ++ kc ca (some (x3, q)))) H := hP
          have hD : va_D (A0 s) (WB ca qa qb d0 (va_up af (xs (nI (4 * t) + (1 : Int32)).toNatClampNeg).toNatClampNeg (some (q 0))) w0 w1 w2 ((kc ca P0 ++ (kc ca P1 ++ kc ca none)) ++ kc ca (some (x3, q)))) := hD
          have hpm0 : ((kc ca P0 ++ (kc ca P1 ++ kc ca none)) ++ kc ca (some (x3, q))).Perm (kc ca P0 ++ (kc ca P1 ++ kc ca (some (x3, q)))) := by
            have e9 : kc ca P0 ++ (kc ca P1 ++ kc ca none) = kc ca P0 ++ kc ca P1 := by show kc ca P0 ++ (kc ca P1 ++ []) = _; rw [List.append_nil]
            rw [e9]
            exact (pmA _ _).trans (pm2 _ _ _).symm
          have hpm := WB_perm ca qa qb d0 (va_up af (xs (nI (4 * t) + (1 : Int32)).toNatClampNeg).toNatClampNeg (some (q 0))) w0 w1 w2 hpm0
          exact next _ _ P0 P1 (some (x3, q)) (va_up af (xs (nI (4 * t) + (1 : Int32)).toNatClampNeg).toNatClampNeg (some (q 0))) _ _ _ H locs ls (by omega) (by omega) (by simp [va_up, eP, ha0]) (by simp [va_up, eP, ha1]) (by simp [va_up, eP]) hf (va_P_perm hpm hP) (va_D_perm hpm hD) hS hl
        | some z =>
          obtain ⟨v3, q⟩ := z
          have hs9 : (bnd4 (fk_28_old xs (nI (4 * t)) v0 v1 v2 v3) fun a b c d => _) = some (w0, w1, w2, w3) := hs9
          obtain ⟨x0, x1, x2, x3, hk9, he⟩ := bnd4_el hs9
          cases he
          have hP := va_P_perm (WB_perm ca qa qb d0 _ _ _ _ (pm2 _ _ _)) hP
          have hD := va_D_perm (WB_perm ca qa qb d0 _ _ _ _ (pm2 _ _ _)) hD
          refine lk_28_old hlt hx hb hml hown hts hX hbl hbA hA hN hZ hK (hcr 0 0 (Nat.le_of_ble_eq_true rfl) (Nat.le_of_ble_eq_true rfl)) (qa 0) (qa 1) (qa 2) (qa 3) (qa 4) (qa 5) (qa 6) (qa 7) (qa 8) (qa 9) (qa 10) (qa 11) (qa 12) (qa 13) (qa 14) (qa 15) (qa 16) (qa 17) (qa 18) (qa 19) (qa 20) (qa 21) (qa 22) (qa 23) (qa 24) (qa 25) (qa 26) (qa 27) (qa 28) (qa 29) (qa 30) (qa 31) (qa 32) (qa 33) (qa 34) (qa 35) (qa 36) (qa 37) (qa 38) (qa 39) (qa 40) (qa 41) (qa 42) (qa 43) (qa 44) (qa 45) (qa 46) (qa 47) (qa 48) (qa 49) (qa 50) (qa 51) (qa 52) (qa 53) (qa 54) (qa 55) (qb 0) (qb 1) (qb 2) (qb 3) (qb 4) (qb 5) d0 q af (kc ca P0 ++ kc ca P1) (nI (4 * t)) h1 h2 h3 hin (by rw [eP, ha2]; rfl) v0 v1 v2 v3 _ _ _ _ hk9 (fun H locs ls hP hD hS hl => ?_) H locs ls hP hD hS hl
          have hP : va_P D vwCl (WB ca qa qb d0 af w0 w1 w2 (kc ca (some (x3, q)) ++ (kc ca P0 ++ kc ca P1))) H := hP
          have hD : va_D (A0 s) (WB ca qa qb d0 af w0 w1 w2 (kc ca (some (x3, q)) ++ (kc ca P0 ++ kc ca P1))) := hD
          exact next _ _ P0 P1 (some (x3, q)) af _ _ _ H locs ls (by omega) (by omega) ha0 ha1 ha2 hf (va_P_perm ((WB_perm ca qa qb d0 _ _ _ _ (pm2 _ _ _)).symm) hP) (va_D_perm ((WB_perm ca qa qb d0 _ _ _ _ (pm2 _ _ _)).symm) hD) hS hl
      have hs9 := ite_f hp2 hs9
      obtain ⟨x0, x1, x2, hk9, he⟩ := bnd3_el hs9
      cases he
      exact lk_28_out hlt hx hb hml hown hts hX hbl hbA hA hN hZ hK (hcr 0 0 (Nat.le_of_ble_eq_true rfl) (Nat.le_of_ble_eq_true rfl)) (qa 0) (qa 1) (qa 2) (qa 3) (qa 4) (qa 5) (qa 6) (qa 7) (qa 8) (qa 9) (qa 10) (qa 11) (qa 12) (qa 13) (qa 14) (qa 15) (qa 16) (qa 17) (qa 18) (qa 19) (qa 20) (qa 21) (qa 22) (qa 23) (qa 24) (qa 25) (qa 26) (qa 27) (qa 28) (qa 29) (qa 30) (qa 31) (qa 32) (qa 33) (qa 34) (qa 35) (qa 36) (qa 37) (qa 38) (qa 39) (qa 40) (qa 41) (qa 42) (qa 43) (qa 44) (qa 45) (qa 46) (qa 47) (qa 48) (qa 49) (qa 50) (qa 51) (qa 52) (qa 53) (qa 54) (qa 55) (qb 0) (qb 1) (qb 2) (qb 3) (qb 4) (qb 5) d0 af _ (nI (4 * t)) h1 h2 h3 v0 v1 v2 _ _ _ hk9 (fun H locs ls hP hD hS hl => next _ _ P0 P1 P2 af _ _ _ H locs ls (by omega) (by omega) ha0 ha1 ha2 hf hP hD hS hl) H locs ls hP hD hS hl
    have hs9 := ite_f hc28 hs9
    by_cases hc29 : xs (nI (4 * t)).toNatClampNeg &&& 31 = 29
    · have hs9 := ite_t hc29 hs9
      unfold fk_29 at hs9
      refine xtabK (tgt := 1072) hx hb dL_law_39 hc29 (by decide) (by decide) rfl (by decide) ?_
      by_cases hp0 : (xs (nI (4 * t) + (1 : Int32)).toNatClampNeg) = 0
      · have hs9 := ite_t hp0 hs9
        have eP : (xs (nI (4 * t) + (1 : Int32)).toNatClampNeg).toNatClampNeg = 0 := by rw [hp0]; rfl
        have hin : vp_in (xs (nI (4 * t) + (1 : Int32)).toNatClampNeg) 3 := by rw [hp0]; unfold vp_in; decide
        cases P0 with
        | none =>
          obtain ⟨x0, x1, x2, hk9, he⟩ := bnd3_el (show (bnd3 (fk_29_none xs (nI (4 * t)) v0 v1 v2) fun a b c => _) = some (w0, w1, w2, w3) from hs9)
          cases he
          exact lk_29_none hlt hx hb hml hown hts hX hbl hbA hA hN hZ hK (hcr 0 0 (Nat.le_of_ble_eq_true rfl) (Nat.le_of_ble_eq_true rfl)) (qa 0) (qa 1) (qa 2) (qa 3) (qa 4) (qa 5) (qa 6) (qa 7) (qa 8) (qa 9) (qa 10) (qa 11) (qa 12) (qa 13) (qa 14) (qa 15) (qa 16) (qa 17) (qa 18) (qa 19) (qa 20) (qa 21) (qa 22) (qa 23) (qa 24) (qa 25) (qa 26) (qa 27) (qa 28) (qa 29) (qa 30) (qa 31) (qa 32) (qa 33) (qa 34) (qa 35) (qa 36) (qa 37) (qa 38) (qa 39) (qa 40) (qa 41) (qa 42) (qa 43) (qa 44) (qa 45) (qa 46) (qa 47) (qa 48) (qa 49) (qa 50) (qa 51) (qa 52) (qa 53) (qa 54) (qa 55) (qb 0) (qb 1) (qb 2) (qb 3) (qb 4) (qb 5) d0 af _ (nI (4 * t)) h1 h2 h3 (Or.inr (Or.inr (by rw [eP, ha0]; rfl))) v0 v1 v2 _ _ _ hk9 (fun H locs ls hP hD hS hl => next _ _ none P1 P2 af _ _ _ H locs ls (by omega) (by omega) ha0 ha1 ha2 hf hP hD hS hl) H locs ls hP hD hS hl
        | some z =>
          obtain ⟨v3, q⟩ := z
          have hs9 : (bnd4 (fk_29_old xs (nI (4 * t)) v0 v1 v2 v3) fun a b c d => _) = some (w0, w1, w2, w3) := hs9
          obtain ⟨x0, x1, x2, x3, hk9, he⟩ := bnd4_el hs9
          cases he
          have hP := va_P_perm (List.Perm.refl _) hP
          have hD := va_D_perm (List.Perm.refl _) hD
          refine lk_29_old hlt hx hb hml hown hts hX hbl hbA hA hN hZ hK (hcr 0 0 (Nat.le_of_ble_eq_true rfl) (Nat.le_of_ble_eq_true rfl)) (qa 0) (qa 1) (qa 2) (qa 3) (qa 4) (qa 5) (qa 6) (qa 7) (qa 8) (qa 9) (qa 10) (qa 11) (qa 12) (qa 13) (qa 14) (qa 15) (qa 16) (qa 17) (qa 18) (qa 19) (qa 20) (qa 21) (qa 22) (qa 23) (qa 24) (qa 25) (qa 26) (qa 27) (qa 28) (qa 29) (qa 30) (qa 31) (qa 32) (qa 33) (qa 34) (qa 35) (qa 36) (qa 37) (qa 38) (qa 39) (qa 40) (qa 41) (qa 42) (qa 43) (qa 44) (qa 45) (qa 46) (qa 47) (qa 48) (qa 49) (qa 50) (qa 51) (qa 52) (qa 53) (qa 54) (qa 55) (qb 0) (qb 1) (qb 2) (qb 3) (qb 4) (qb 5) d0 q af (kc ca P1 ++ kc ca P2) (nI (4 * t)) h1 h2 h3 hin (by rw [eP, ha0]; rfl) v0 v1 v2 v3 _ _ _ _ hk9 (fun H locs ls hP hD hS hl => ?_) H locs ls hP hD hS hl
          have hP : va_P D vwCl (WB ca qa qb d0 af w0 w1 w2 (kc ca (some (x3, q)) ++ (kc ca P1 ++ kc ca P2))) H := hP
          have hD : va_D (A0 s) (WB ca qa qb d0 af w0 w1 w2 (kc ca (some (x3, q)) ++ (kc ca P1 ++ kc ca P2))) := hD
          exact next _ _ (some (x3, q)) P1 P2 af _ _ _ H locs ls (by omega) (by omega) ha0 ha1 ha2 hf (va_P_perm (List.Perm.refl _) hP) (va_D_perm (List.Perm.refl _) hD) hS hl
      have hs9 := ite_f hp0 hs9
      by_cases hp1 : (xs (nI (4 * t) + (1 : Int32)).toNatClampNeg) = 1
      · have hs9 := ite_t hp1 hs9
        have eP : (xs (nI (4 * t) + (1 : Int32)).toNatClampNeg).toNatClampNeg = 1 := by rw [hp1]; rfl
        have hin : vp_in (xs (nI (4 * t) + (1 : Int32)).toNatClampNeg) 3 := by rw [hp1]; unfold vp_in; decide
        cases P1 with
        | none =>
          obtain ⟨x0, x1, x2, hk9, he⟩ := bnd3_el (show (bnd3 (fk_29_none xs (nI (4 * t)) v0 v1 v2) fun a b c => _) = some (w0, w1, w2, w3) from hs9)
          cases he
          exact lk_29_none hlt hx hb hml hown hts hX hbl hbA hA hN hZ hK (hcr 0 0 (Nat.le_of_ble_eq_true rfl) (Nat.le_of_ble_eq_true rfl)) (qa 0) (qa 1) (qa 2) (qa 3) (qa 4) (qa 5) (qa 6) (qa 7) (qa 8) (qa 9) (qa 10) (qa 11) (qa 12) (qa 13) (qa 14) (qa 15) (qa 16) (qa 17) (qa 18) (qa 19) (qa 20) (qa 21) (qa 22) (qa 23) (qa 24) (qa 25) (qa 26) (qa 27) (qa 28) (qa 29) (qa 30) (qa 31) (qa 32) (qa 33) (qa 34) (qa 35) (qa 36) (qa 37) (qa 38) (qa 39) (qa 40) (qa 41) (qa 42) (qa 43) (qa 44) (qa 45) (qa 46) (qa 47) (qa 48) (qa 49) (qa 50) (qa 51) (qa 52) (qa 53) (qa 54) (qa 55) (qb 0) (qb 1) (qb 2) (qb 3) (qb 4) (qb 5) d0 af _ (nI (4 * t)) h1 h2 h3 (Or.inr (Or.inr (by rw [eP, ha1]; rfl))) v0 v1 v2 _ _ _ hk9 (fun H locs ls hP hD hS hl => next _ _ P0 none P2 af _ _ _ H locs ls (by omega) (by omega) ha0 ha1 ha2 hf hP hD hS hl) H locs ls hP hD hS hl
        | some z =>
          obtain ⟨v3, q⟩ := z
          have hs9 : (bnd4 (fk_29_old xs (nI (4 * t)) v0 v1 v2 v3) fun a b c d => _) = some (w0, w1, w2, w3) := hs9
          obtain ⟨x0, x1, x2, x3, hk9, he⟩ := bnd4_el hs9
          cases he
          have hP := va_P_perm (WB_perm ca qa qb d0 _ _ _ _ (pm1 _ _ _)) hP
          have hD := va_D_perm (WB_perm ca qa qb d0 _ _ _ _ (pm1 _ _ _)) hD
          refine lk_29_old hlt hx hb hml hown hts hX hbl hbA hA hN hZ hK (hcr 0 0 (Nat.le_of_ble_eq_true rfl) (Nat.le_of_ble_eq_true rfl)) (qa 0) (qa 1) (qa 2) (qa 3) (qa 4) (qa 5) (qa 6) (qa 7) (qa 8) (qa 9) (qa 10) (qa 11) (qa 12) (qa 13) (qa 14) (qa 15) (qa 16) (qa 17) (qa 18) (qa 19) (qa 20) (qa 21) (qa 22) (qa 23) (qa 24) (qa 25) (qa 26) (qa 27) (qa 28) (qa 29) (qa 30) (qa 31) (qa 32) (qa 33) (qa 34) (qa 35) (qa 36) (qa 37) (qa 38) (qa 39) (qa 40) (qa 41) (qa 42) (qa 43) (qa 44) (qa 45) (qa 46) (qa 47) (qa 48) (qa 49) (qa 50) (qa 51) (qa 52) (qa 53) (qa 54) (qa 55) (qb 0) (qb 1) (qb 2) (qb 3) (qb 4) (qb 5) d0 q af (kc ca P0 ++ kc ca P2) (nI (4 * t)) h1 h2 h3 hin (by rw [eP, ha1]; rfl) v0 v1 v2 v3 _ _ _ _ hk9 (fun H locs ls hP hD hS hl => ?_) H locs ls hP hD hS hl
          have hP : va_P D vwCl (WB ca qa qb d0 af w0 w1 w2 (kc ca (some (x3, q)) ++ (kc ca P0 ++ kc ca P2))) H := hP
          have hD : va_D (A0 s) (WB ca qa qb d0 af w0 w1 w2 (kc ca (some (x3, q)) ++ (kc ca P0 ++ kc ca P2))) := hD
          exact next _ _ P0 (some (x3, q)) P2 af _ _ _ H locs ls (by omega) (by omega) ha0 ha1 ha2 hf (va_P_perm ((WB_perm ca qa qb d0 _ _ _ _ (pm1 _ _ _)).symm) hP) (va_D_perm ((WB_perm ca qa qb d0 _ _ _ _ (pm1 _ _ _)).symm) hD) hS hl
      have hs9 := ite_f hp1 hs9
      by_cases hp2 : (xs (nI (4 * t) + (1 : Int32)).toNatClampNeg) = 2
      · have hs9 := ite_t hp2 hs9
        have eP : (xs (nI (4 * t) + (1 : Int32)).toNatClampNeg).toNatClampNeg = 2 := by rw [hp2]; rfl
        have hin : vp_in (xs (nI (4 * t) + (1 : Int32)).toNatClampNeg) 3 := by rw [hp2]; unfold vp_in; decide
        cases P2 with
        | none =>
          obtain ⟨x0, x1, x2, hk9, he⟩ := bnd3_el (show (bnd3 (fk_29_none xs (nI (4 * t)) v0 v1 v2) fun a b c => _) = some (w0, w1, w2, w3) from hs9)
          cases he
          exact lk_29_none hlt hx hb hml hown hts hX hbl hbA hA hN hZ hK (hcr 0 0 (Nat.le_of_ble_eq_true rfl) (Nat.le_of_ble_eq_true rfl)) (qa 0) (qa 1) (qa 2) (qa 3) (qa 4) (qa 5) (qa 6) (qa 7) (qa 8) (qa 9) (qa 10) (qa 11) (qa 12) (qa 13) (qa 14) (qa 15) (qa 16) (qa 17) (qa 18) (qa 19) (qa 20) (qa 21) (qa 22) (qa 23) (qa 24) (qa 25) (qa 26) (qa 27) (qa 28) (qa 29) (qa 30) (qa 31) (qa 32) (qa 33) (qa 34) (qa 35) (qa 36) (qa 37) (qa 38) (qa 39) (qa 40) (qa 41) (qa 42) (qa 43) (qa 44) (qa 45) (qa 46) (qa 47) (qa 48) (qa 49) (qa 50) (qa 51) (qa 52) (qa 53) (qa 54) (qa 55) (qb 0) (qb 1) (qb 2) (qb 3) (qb 4) (qb 5) d0 af _ (nI (4 * t)) h1 h2 h3 (Or.inr (Or.inr (by rw [eP, ha2]; rfl))) v0 v1 v2 _ _ _ hk9 (fun H locs ls hP hD hS hl => next _ _ P0 P1 none af _ _ _ H locs ls (by omega) (by omega) ha0 ha1 ha2 hf hP hD hS hl) H locs ls hP hD hS hl
        | some z =>
          obtain ⟨v3, q⟩ := z
          have hs9 : (bnd4 (fk_29_old xs (nI (4 * t)) v0 v1 v2 v3) fun a b c d => _) = some (w0, w1, w2, w3) := hs9
          obtain ⟨x0, x1, x2, x3, hk9, he⟩ := bnd4_el hs9
          cases he
          have hP := va_P_perm (WB_perm ca qa qb d0 _ _ _ _ (pm2 _ _ _)) hP
          have hD := va_D_perm (WB_perm ca qa qb d0 _ _ _ _ (pm2 _ _ _)) hD
          refine lk_29_old hlt hx hb hml hown hts hX hbl hbA hA hN hZ hK (hcr 0 0 (Nat.le_of_ble_eq_true rfl) (Nat.le_of_ble_eq_true rfl)) (qa 0) (qa 1) (qa 2) (qa 3) (qa 4) (qa 5) (qa 6) (qa 7) (qa 8) (qa 9) (qa 10) (qa 11) (qa 12) (qa 13) (qa 14) (qa 15) (qa 16) (qa 17) (qa 18) (qa 19) (qa 20) (qa 21) (qa 22) (qa 23) (qa 24) (qa 25) (qa 26) (qa 27) (qa 28) (qa 29) (qa 30) (qa 31) (qa 32) (qa 33) (qa 34) (qa 35) (qa 36) (qa 37) (qa 38) (qa 39) (qa 40) (qa 41) (qa 42) (qa 43) (qa 44) (qa 45) (qa 46) (qa 47) (qa 48) (qa 49) (qa 50) (qa 51) (qa 52) (qa 53) (qa 54) (qa 55) (qb 0) (qb 1) (qb 2) (qb 3) (qb 4) (qb 5) d0 q af (kc ca P0 ++ kc ca P1) (nI (4 * t)) h1 h2 h3 hin (by rw [eP, ha2]; rfl) v0 v1 v2 v3 _ _ _ _ hk9 (fun H locs ls hP hD hS hl => ?_) H locs ls hP hD hS hl
          have hP : va_P D vwCl (WB ca qa qb d0 af w0 w1 w2 (kc ca (some (x3, q)) ++ (kc ca P0 ++ kc ca P1))) H := hP
          have hD : va_D (A0 s) (WB ca qa qb d0 af w0 w1 w2 (kc ca (some (x3, q)) ++ (kc ca P0 ++ kc ca P1))) := hD
          exact next _ _ P0 P1 (some (x3, q)) af _ _ _ H locs ls (by omega) (by omega) ha0 ha1 ha2 hf (va_P_perm ((WB_perm ca qa qb d0 _ _ _ _ (pm2 _ _ _)).symm) hP) (va_D_perm ((WB_perm ca qa qb d0 _ _ _ _ (pm2 _ _ _)).symm) hD) hS hl
      have hs9 := ite_f hp2 hs9
      obtain ⟨x0, x1, x2, hk9, he⟩ := bnd3_el hs9
      cases he
      have hno : (xs (nI (4 * t) + (1 : Int32)).toNatClampNeg) < 0 ∨ 3 ≤ (xs (nI (4 * t) + (1 : Int32)).toNatClampNeg) := by
        rcases pk_ix (xs (nI (4 * t) + (1 : Int32)).toNatClampNeg) (n := 3) (by decide) with h | h | ⟨j, hj, h⟩
        · exact Or.inl h
        · exact Or.inr h
        · match j, hj, h with
          | 0, _, h => exact absurd h hp0
          | 1, _, h => exact absurd h hp1
          | 2, _, h => exact absurd h hp2
      exact lk_29_none hlt hx hb hml hown hts hX hbl hbA hA hN hZ hK (hcr 0 0 (Nat.le_of_ble_eq_true rfl) (Nat.le_of_ble_eq_true rfl)) (qa 0) (qa 1) (qa 2) (qa 3) (qa 4) (qa 5) (qa 6) (qa 7) (qa 8) (qa 9) (qa 10) (qa 11) (qa 12) (qa 13) (qa 14) (qa 15) (qa 16) (qa 17) (qa 18) (qa 19) (qa 20) (qa 21) (qa 22) (qa 23) (qa 24) (qa 25) (qa 26) (qa 27) (qa 28) (qa 29) (qa 30) (qa 31) (qa 32) (qa 33) (qa 34) (qa 35) (qa 36) (qa 37) (qa 38) (qa 39) (qa 40) (qa 41) (qa 42) (qa 43) (qa 44) (qa 45) (qa 46) (qa 47) (qa 48) (qa 49) (qa 50) (qa 51) (qa 52) (qa 53) (qa 54) (qa 55) (qb 0) (qb 1) (qb 2) (qb 3) (qb 4) (qb 5) d0 af _ (nI (4 * t)) h1 h2 h3 (hno.imp id Or.inl) v0 v1 v2 _ _ _ hk9 (fun H locs ls hP hD hS hl => next _ _ P0 P1 P2 af _ _ _ H locs ls (by omega) (by omega) ha0 ha1 ha2 hf hP hD hS hl) H locs ls hP hD hS hl
    have hs9 := ite_f hc29 hs9
    cases hs9
    refine xtabO (tgt := 1097) hx hb dL_law_39 (a := 0) (b := 29) rfl rfl (sw31 hc0 hc1 hc2 hc3 hc4 hc5 hc6 hc7 hc8 hc9 hc10 hc11 hc12 hc13 hc14 hc15 hc16 hc17 hc18 hc19 hc20 hc21 hc22 hc23 hc24 hc25 hc26 hc27 hc28 hc29) (by decide) ?_
    exact next _ _ P0 P1 P2 af _ _ _ H locs ls (by omega) (by omega) ha0 ha1 ha2 hf hP hD hS hl
