section ST
theorem R.rq {B : Nat} {w : V10} {F : Nat → Int32} (hR : R B w F) : RQ 300 301 400 w.2.2.2.2.2.1 F := by
  obtain ⟨c, lg, W, BL, o, hSV, hS, hLm, hO, hC, hP, hQ, hRr, hW⟩ := hR
  exact hQ
theorem R.rp {B : Nat} {w : V10} {F : Nat → Int32} (hR : R B w F) : RQ 43 44 256 w.2.2.2.2.1.1 F := by
  obtain ⟨c, lg, W, BL, o, hSV, hS, hLm, hO, hC, hP, hQ, hRr, hW⟩ := hR
  exact hP.1
theorem R.rr {B : Nat} {w : V10} {F : Nat → Int32} (hR : R B w F) : RR w.2.2.2.2.2.2.1 F := by
  obtain ⟨c, lg, W, BL, o, hSV, hS, hLm, hO, hC, hP, hQ, hRr, hW⟩ := hR
  exact hRr
theorem sk_0 {B : Nat} {v0 : V11} {v : V12} {K : KT} (h : INV B v0 v K) (hB : B + 400 < 2 ^ 30) (xs : Nat → Int32) (i : Int32) (z : Nat → Int64) : ∃ S : LSt, lft (fk_0 xs i v0 v z) K = some S ∧ INV (B + 400) S.1 S.2.1 S.2.2.2 := by
  obtain ⟨r, u, v2, a1, a2, a3⟩ := w_tell h.1 h.2.1 (show B ≤ B + 400 by omega) ((jlshl (Int32.toInt64 (xs (i + (1 : Int32)).toNatClampNeg)) (32 : Int32)) ||| ((Int32.toInt64 (xs (i + (2 : Int32)).toNatClampNeg)) &&& (4294967295 : Int64)))
  unfold lft fk_0
  rw [a1, bnd2_s, a2, bnd2_s, bnd3_s]
  exact ⟨_, rfl, h.w (by omega) a3⟩
theorem sk_1 {B : Nat} {v0 : V11} {v : V12} {K : KT} (h : INV B v0 v K) (hB : B + 400 < 2 ^ 30) (xs : Nat → Int32) (i : Int32) (z : Nat → Int64) : ∃ S : LSt, lft (fk_1 xs i v0 v z) K = some S ∧ INV (B + 400) S.1 S.2.1 S.2.2.2 := by
  obtain ⟨r, u, v2, a1, a2, a3⟩ := w_settings h.1 h.2.1 (show B ≤ B + 400 by omega)
  unfold lft fk_1
  rw [a1, bnd2_s, a2, bnd2_s, bnd3_s]
  exact ⟨_, rfl, h.w (by omega) a3⟩
theorem sk_3 {B : Nat} {v0 : V11} {v : V12} {K : KT} (h : INV B v0 v K) (hB : B + 400 < 2 ^ 30) (xs : Nat → Int32) (i : Int32) (z : Nat → Int64) : ∃ S : LSt, lft (fk_3 xs i v0 v z) K = some S ∧ INV (B + 400) S.1 S.2.1 S.2.2.2 := by
  obtain ⟨r, u, v2, a1, a2, a3⟩ := w_start h.1 h.2.1 (show B ≤ B + 400 by omega)
  unfold lft fk_3
  rw [a1, bnd2_s, a2, bnd2_s, bnd3_s]
  exact ⟨_, rfl, h.w (by omega) a3⟩
theorem sk_4 {B : Nat} {v0 : V11} {v : V12} {K : KT} (h : INV B v0 v K) (hB : B + 400 < 2 ^ 30) (xs : Nat → Int32) (i : Int32) (z : Nat → Int64) : ∃ S : LSt, lft (fk_4 xs i v0 v z) K = some S ∧ INV (B + 400) S.1 S.2.1 S.2.2.2 := by
  obtain ⟨r, u, v2, a1, a2, a3⟩ := w_stop h.1 h.2.1 (show B ≤ B + 400 by omega)
  unfold lft fk_4
  rw [a1, bnd2_s, a2, bnd2_s, bnd3_s]
  exact ⟨_, rfl, h.w (by omega) a3⟩
theorem sk_5 {B : Nat} {v0 : V11} {v : V12} {K : KT} (h : INV B v0 v K) (hB : B + 400 < 2 ^ 30) (xs : Nat → Int32) (i : Int32) (z : Nat → Int64) : ∃ S : LSt, lft (fk_5 xs i v0 v z) K = some S ∧ INV (B + 400) S.1 S.2.1 S.2.2.2 := by
  obtain ⟨r, u, v2, a1, a2, a3⟩ := w_draw h.1 h.2.1 hB (xs (i + (1 : Int32)).toNatClampNeg)
  unfold lft fk_5
  rw [a1, bnd2_s, a2, bnd2_s, bnd3_s]
  exact ⟨_, rfl, h.w (by omega) a3⟩
theorem sk_6 {B : Nat} {v0 : V11} {v : V12} {K : KT} (h : INV B v0 v K) (hB : B + 400 < 2 ^ 30) (xs : Nat → Int32) (i : Int32) (z : Nat → Int64) : ∃ S : LSt, lft (fk_6 xs i v0 v z) K = some S ∧ INV (B + 400) S.1 S.2.1 S.2.2.2 := by
  obtain ⟨r, u, v2, a1, a2, a3⟩ := w_hand h.1 h.2.1 hB (xs (i + (1 : Int32)).toNatClampNeg) (xs (i + (2 : Int32)).toNatClampNeg)
  unfold lft fk_6
  rw [a1, bnd2_s, a2, bnd2_s, bnd3_s]
  exact ⟨_, rfl, h.w (by omega) a3⟩
theorem sk_7 {B : Nat} {v0 : V11} {v : V12} {K : KT} (h : INV B v0 v K) (hB : B + 400 < 2 ^ 30) (xs : Nat → Int32) (i : Int32) (z : Nat → Int64) : ∃ S : LSt, lft (fk_7 xs i v0 v z) K = some S ∧ INV (B + 400) S.1 S.2.1 S.2.2.2 := by
  obtain ⟨r, u, v2, a1, a2, a3⟩ := w_take h.1 h.2.1 (show B ≤ B + 400 by omega) (xs (i + (1 : Int32)).toNatClampNeg)
  unfold lft fk_7
  rw [a1, bnd2_s, a2, bnd2_s, bnd3_s]
  exact ⟨_, rfl, h.w (by omega) a3⟩
theorem sk_15 {B : Nat} {v0 : V11} {v : V12} {K : KT} (h : INV B v0 v K) (hB : B + 400 < 2 ^ 30) (xs : Nat → Int32) (i : Int32) (z : Nat → Int64) : ∃ S : LSt, lft (fk_15 xs i v0 v z) K = some S ∧ INV (B + 400) S.1 S.2.1 S.2.2.2 := by
  obtain ⟨r, u, v2, u1, a1, a2, a3⟩ := q_holds h.1 (xs (i + (1 : Int32)).toNatClampNeg)
  unfold lft fk_15
  rw [a1, bnd2_s, a2, bnd2_s, bnd3_s]
  exact ⟨_, rfl, h.q (by omega) u1 a3.sa⟩
theorem sk_16 {B : Nat} {v0 : V11} {v : V12} {K : KT} (h : INV B v0 v K) (hB : B + 400 < 2 ^ 30) (xs : Nat → Int32) (i : Int32) (z : Nat → Int64) : ∃ S : LSt, lft (fk_16 xs i v0 v z) K = some S ∧ INV (B + 400) S.1 S.2.1 S.2.2.2 := by
  obtain ⟨r, u, v2, u1, a1, a2, a3⟩ := q_claim h.1.rq (xs (i + (1 : Int32)).toNatClampNeg)
  unfold lft fk_16
  rw [a1, bnd2_s, a2, bnd2_s, bnd3_s]
  exact ⟨_, rfl, h.q (by omega) u1 a3.sa⟩
theorem sk_17 {B : Nat} {v0 : V11} {v : V12} {K : KT} (h : INV B v0 v K) (hB : B + 400 < 2 ^ 30) (xs : Nat → Int32) (i : Int32) (z : Nat → Int64) : ∃ S : LSt, lft (fk_17 xs i v0 v z) K = some S ∧ INV (B + 400) S.1 S.2.1 S.2.2.2 := by
  obtain ⟨r, u, v2, u1, a1, a2, a3⟩ := q_tuple h.1.rq (xs (i + (1 : Int32)).toNatClampNeg) (xs (i + (2 : Int32)).toNatClampNeg)
  unfold lft fk_17
  rw [a1, bnd2_s, a2, bnd2_s, bnd3_s]
  exact ⟨_, rfl, h.q (by omega) u1 a3.sa⟩
theorem sk_18 {B : Nat} {v0 : V11} {v : V12} {K : KT} (h : INV B v0 v K) (hB : B + 400 < 2 ^ 30) (xs : Nat → Int32) (i : Int32) (z : Nat → Int64) : ∃ S : LSt, lft (fk_18 xs i v0 v z) K = some S ∧ INV (B + 400) S.1 S.2.1 S.2.2.2 := by
  obtain ⟨r, u, v2, u1, a1, a2, a3⟩ := q_spreads h.1 (xs (i + (1 : Int32)).toNatClampNeg) (xs (i + (2 : Int32)).toNatClampNeg)
  unfold lft fk_18
  rw [a1, bnd2_s, a2, bnd2_s, bnd3_s]
  exact ⟨_, rfl, h.q (by omega) u1 a3.sa⟩
theorem sk_19 {B : Nat} {v0 : V11} {v : V12} {K : KT} (h : INV B v0 v K) (hB : B + 400 < 2 ^ 30) (xs : Nat → Int32) (i : Int32) (z : Nat → Int64) : ∃ S : LSt, lft (fk_19 xs i v0 v z) K = some S ∧ INV (B + 400) S.1 S.2.1 S.2.2.2 := by
  obtain ⟨r, u, v2, u1, a1, a2, a3⟩ := q_lag h.1.rq (xs (i + (1 : Int32)).toNatClampNeg) (xs (i + (2 : Int32)).toNatClampNeg)
  unfold lft fk_19
  rw [a1, bnd2_s, a2, bnd2_s, bnd3_s]
  exact ⟨_, rfl, h.q (by omega) u1 a3.sa⟩
theorem sk_20 {B : Nat} {v0 : V11} {v : V12} {K : KT} (h : INV B v0 v K) (hB : B + 400 < 2 ^ 30) (xs : Nat → Int32) (i : Int32) (z : Nat → Int64) : ∃ S : LSt, lft (fk_20 xs i v0 v z) K = some S ∧ INV (B + 400) S.1 S.2.1 S.2.2.2 := by
  obtain ⟨r, u, v2, u1, a1, a2, a3⟩ := q_echo h.1.rq (xs (i + (1 : Int32)).toNatClampNeg)
  unfold lft fk_20
  rw [a1, bnd2_s, a2, bnd2_s, bnd3_s]
  exact ⟨_, rfl, h.q (by omega) u1 a3.sa⟩
theorem sk_24 {B : Nat} {v0 : V11} {v : V12} {K : KT} (h : INV B v0 v K) (hB : B + 400 < 2 ^ 30) (xs : Nat → Int32) (i : Int32) (z : Nat → Int64) : ∃ S : LSt, lft (fk_24 xs i v0 v z) K = some S ∧ INV (B + 400) S.1 S.2.1 S.2.2.2 := by
  obtain ⟨r, u, v2, u1, a1, a2, a3⟩ := q_quiet h.1 hB
  unfold lft fk_24
  rw [a1, bnd2_s, a2, bnd2_s, bnd3_s]
  exact ⟨_, rfl, h.q (by omega) u1 a3⟩
theorem sk_23 {B : Nat} {v0 : V11} {v : V12} {K : KT} (h : INV B v0 v K) (hB : B + 400 < 2 ^ 30) (xs : Nat → Int32) (i : Int32) (z : Nat → Int64) : ∃ S : LSt, lft (fk_23 xs i v0 v z) K = some S ∧ INV (B + 400) S.1 S.2.1 S.2.2.2 := by
  obtain ⟨r, r2, u, v2, u1, a1, a2, a3⟩ := q_ahead h.1 hB (xs (i + (1 : Int32)).toNatClampNeg) (xs (i + (2 : Int32)).toNatClampNeg)
  unfold lft fk_23
  rw [a1, bnd2_s, a2, bnd2_s, bnd3_s]
  exact ⟨_, rfl, h.q (by omega) u1 a3⟩
theorem sk_25 {B : Nat} {v0 : V11} {v : V12} {K : KT} (h : INV B v0 v K) (hB : B + 400 < 2 ^ 30) (xs : Nat → Int32) (i : Int32) (z : Nat → Int64) : ∃ S : LSt, lft (fk_25 xs i v0 v z) K = some S ∧ INV (B + 400) S.1 S.2.1 S.2.2.2 := by
  obtain ⟨r, r2, u, v2, u1, a1, a2, a3⟩ := q_replayed h.1 hB (xs (i + (1 : Int32)).toNatClampNeg)
  unfold lft fk_25
  rw [a1, bnd2_s, a2, bnd2_s, bnd3_s]
  exact ⟨_, rfl, h.q (by omega) u1 a3⟩
theorem sk_26 {B : Nat} {v0 : V11} {v : V12} {K : KT} (h : INV B v0 v K) (hB : B + 400 < 2 ^ 30) (xs : Nat → Int32) (i : Int32) (z : Nat → Int64) : ∃ S : LSt, lft (fk_26 xs i v0 v z) K = some S ∧ INV (B + 400) S.1 S.2.1 S.2.2.2 := by
  obtain ⟨r, r2, u, v2, u1, a1, a2, a3⟩ := q_fit h.1 hB
  unfold lft fk_26
  rw [a1, bnd2_s, a2, bnd2_s, bnd3_s]
  exact ⟨_, rfl, h.q (by omega) u1 a3⟩
theorem sk_27 {B : Nat} {v0 : V11} {v : V12} {K : KT} (h : INV B v0 v K) (hB : B + 400 < 2 ^ 30) (xs : Nat → Int32) (i : Int32) (z : Nat → Int64) : ∃ S : LSt, lft (fk_27 xs i v0 v z) K = some S ∧ INV (B + 400) S.1 S.2.1 S.2.2.2 := by
  obtain ⟨r, u, v2, u1, a1, a2, a3⟩ := e_keen h.1 hB
  unfold lft fk_27
  rw [a1, bnd2_s, a2, bnd2_s, if_pos rfl, bnd3_s]
  exact ⟨_, rfl, h.q (by omega) u1 a3⟩
theorem sk_21 {B : Nat} {v0 : V11} {v : V12} {K : KT} (h : INV B v0 v K) (hB : B + 400 < 2 ^ 30) (xs : Nat → Int32) (i : Int32) (z : Nat → Int64) : ∃ S : LSt, lft (fk_21 xs i v0 v z) K = some S ∧ INV (B + 400) S.1 S.2.1 S.2.2.2 := by
  obtain ⟨r, r2, u, u1, a1, a2⟩ := q_compared h.1 (xs (i + (1 : Int32)).toNatClampNeg)
  unfold lft fk_21
  rw [a1, bnd2_s, a2, bnd2_s, bnd3_s]
  exact ⟨_, rfl, h.q0 (by omega) u1 0⟩
theorem sk_8 {B : Nat} {v0 : V11} {v : V12} {K : KT} (h : INV B v0 v K) (hB : B + 400 < 2 ^ 30) (xs : Nat → Int32) (i : Int32) (z : Nat → Int64) : ∃ S : LSt, lft (fk_8 xs i v0 v z) K = some S ∧ INV (B + 400) S.1 S.2.1 S.2.2.2 := by
  obtain ⟨r, r2, a1, a2⟩ := q_count v0 v (xs (i + (1 : Int32)).toNatClampNeg)
  unfold lft fk_8
  rw [a1, bnd1_s, a2, bnd2_s, bnd3_s]
  exact ⟨_, rfl, h.q0 (by omega) rfl 0⟩
theorem sk_11 {B : Nat} {v0 : V11} {v : V12} {K : KT} (h : INV B v0 v K) (hB : B + 400 < 2 ^ 30) (xs : Nat → Int32) (i : Int32) (z : Nat → Int64) : ∃ S : LSt, lft (fk_11 xs i v0 v z) K = some S ∧ INV (B + 400) S.1 S.2.1 S.2.2.2 := by
  obtain ⟨r, a1, a2⟩ := q_history h.1.rq (xs (i + (1 : Int32)).toNatClampNeg)
  unfold lft fk_11
  rw [a1, bnd1_s, a2, bnd2_s, bnd3_s]
  exact ⟨_, rfl, h.q0 (by omega) rfl 0⟩
theorem sk_12 {B : Nat} {v0 : V11} {v : V12} {K : KT} (h : INV B v0 v K) (hB : B + 400 < 2 ^ 30) (xs : Nat → Int32) (i : Int32) (z : Nat → Int64) : ∃ S : LSt, lft (fk_12 xs i v0 v z) K = some S ∧ INV (B + 400) S.1 S.2.1 S.2.2.2 := by
  obtain ⟨r, a1, a2⟩ := q_pool h.1.rp (xs (i + (1 : Int32)).toNatClampNeg)
  unfold lft fk_12
  rw [a1, bnd1_s, a2, bnd2_s, bnd3_s]
  exact ⟨_, rfl, h.q0 (by omega) rfl 0⟩
theorem sk_2 {B : Nat} {v0 : V11} {v : V12} {K : KT} (h : INV B v0 v K) (hB : B + 400 < 2 ^ 30) (xs : Nat → Int32) (i : Int32) (z : Nat → Int64) : ∃ S : LSt, lft (fk_2 xs i v0 v z) K = some S ∧ INV (B + 400) S.1 S.2.1 S.2.2.2 := by
  by_cases hc : xs (i + (1 : Int32)).toNatClampNeg = (0 : Int32)
  · obtain ⟨r, a1, a2⟩ := q_fault h.2.1 0
    unfold lft fk_2
    rw [if_pos hc, a1, bnd1_s, if_pos hc, a2, bnd2_s, bnd3_s]
    exact ⟨_, rfl, h.q0 (by omega) rfl 0⟩
  · obtain ⟨r, a1, a2⟩ := q_fault h.2.1 1
    unfold lft fk_2
    rw [if_neg hc, a1, bnd1_s, if_neg hc, a2, bnd2_s, bnd3_s]
    exact ⟨_, rfl, h.q0 (by omega) rfl 0⟩
theorem sk_10 {B : Nat} {v0 : V11} {v : V12} {K : KT} (h : INV B v0 v K) (hB : B + 400 < 2 ^ 30) (xs : Nat → Int32) (i : Int32) (z : Nat → Int64) : ∃ S : LSt, lft (fk_10 xs i v0 v z) K = some S ∧ INV (B + 400) S.1 S.2.1 S.2.2.2 := by
  by_cases hc : xs (i + (2 : Int32)).toNatClampNeg = (0 : Int32)
  · obtain ⟨r, u, u1, a1, a2⟩ := q_odds h.1 (xs (i + (1 : Int32)).toNatClampNeg) 0 (Or.inl rfl)
    unfold lft fk_10
    rw [if_pos hc, a1, bnd2_s, if_pos hc, a2, bnd2_s, bnd3_s]
    exact ⟨_, rfl, h.q0 (by omega) u1 0⟩
  · obtain ⟨r, u, u1, a1, a2⟩ := q_odds h.1 (xs (i + (1 : Int32)).toNatClampNeg) 1 (Or.inr rfl)
    unfold lft fk_10
    rw [if_neg hc, a1, bnd2_s, if_neg hc, a2, bnd2_s, bnd3_s]
    exact ⟨_, rfl, h.q0 (by omega) u1 0⟩
theorem sk_13 {B : Nat} {v0 : V11} {v : V12} {K : KT} (h : INV B v0 v K) (hB : B + 400 < 2 ^ 30) (xs : Nat → Int32) (i : Int32) (z : Nat → Int64) : ∃ S : LSt, lft (fk_13 xs i v0 v z) K = some S ∧ INV (B + 400) S.1 S.2.1 S.2.2.2 := by
  by_cases hc : xs (i + (3 : Int32)).toNatClampNeg = (0 : Int32)
  · obtain ⟨r, a1, a2⟩ := q_row h.1.rr (xs (i + (1 : Int32)).toNatClampNeg) (xs (i + (2 : Int32)).toNatClampNeg) 0
    unfold lft fk_13
    rw [if_pos hc, a1, bnd1_s, if_pos hc, a2, bnd2_s, bnd3_s]
    exact ⟨_, rfl, h.q0 (by omega) rfl 0⟩
  · obtain ⟨r, a1, a2⟩ := q_row h.1.rr (xs (i + (1 : Int32)).toNatClampNeg) (xs (i + (2 : Int32)).toNatClampNeg) 1
    unfold lft fk_13
    rw [if_neg hc, a1, bnd1_s, if_neg hc, a2, bnd2_s, bnd3_s]
    exact ⟨_, rfl, h.q0 (by omega) rfl 0⟩
theorem sk_14 {B : Nat} {v0 : V11} {v : V12} {K : KT} (h : INV B v0 v K) (hB : B + 400 < 2 ^ 30) (xs : Nat → Int32) (i : Int32) (z : Nat → Int64) : ∃ S : LSt, lft (fk_14 xs i v0 v z) K = some S ∧ INV (B + 400) S.1 S.2.1 S.2.2.2 := by
  by_cases hc : xs (i + (3 : Int32)).toNatClampNeg = (0 : Int32)
  · obtain ⟨r, u, v2, u1, a1, a2, a3⟩ := q_bound h.1.rq (xs (i + (1 : Int32)).toNatClampNeg) (xs (i + (2 : Int32)).toNatClampNeg) 0
    unfold lft fk_14
    rw [if_pos hc, a1, bnd2_s, if_pos hc, a2, bnd2_s, bnd3_s]
    exact ⟨_, rfl, h.q (by omega) u1 a3.sa⟩
  · obtain ⟨r, u, v2, u1, a1, a2, a3⟩ := q_bound h.1.rq (xs (i + (1 : Int32)).toNatClampNeg) (xs (i + (2 : Int32)).toNatClampNeg) 1
    unfold lft fk_14
    rw [if_neg hc, a1, bnd2_s, if_neg hc, a2, bnd2_s, bnd3_s]
    exact ⟨_, rfl, h.q (by omega) u1 a3.sa⟩
theorem sk_22 {B : Nat} {v0 : V11} {v : V12} {K : KT} (h : INV B v0 v K) (hB : B + 400 < 2 ^ 30) (xs : Nat → Int32) (i : Int32) (z : Nat → Int64) : ∃ S : LSt, lft (fk_22 xs i v0 v z) K = some S ∧ INV (B + 400) S.1 S.2.1 S.2.2.2 := by
  by_cases hc : xs (i + (2 : Int32)).toNatClampNeg = (0 : Int32)
  · obtain ⟨r, u, v2, u1, a1, a2, a3⟩ := q_longest h.1.rq (xs (i + (1 : Int32)).toNatClampNeg) 0
    unfold lft fk_22
    rw [if_pos hc, a1, bnd2_s, if_pos hc, a2, bnd2_s, bnd3_s]
    exact ⟨_, rfl, h.q (by omega) u1 a3.sa⟩
  · obtain ⟨r, u, v2, u1, a1, a2, a3⟩ := q_longest h.1.rq (xs (i + (1 : Int32)).toNatClampNeg) 1
    unfold lft fk_22
    rw [if_neg hc, a1, bnd2_s, if_neg hc, a2, bnd2_s, bnd3_s]
    exact ⟨_, rfl, h.q (by omega) u1 a3.sa⟩
theorem sk_9 {B : Nat} {v0 : V11} {v : V12} {K : KT} (h : INV B v0 v K) (hB : B + 400 < 2 ^ 30) (xs : Nat → Int32) (i : Int32) (z : Nat → Int64) : ∃ S : LSt, lft (fk_9 xs i v0 v z) K = some S ∧ INV (B + 400) S.1 S.2.1 S.2.2.2 := by
  obtain ⟨u, u1, ⟨r, a1, a2⟩ | ⟨a1, a2⟩⟩ := q_limit h.1 (xs (i + (1 : Int32)).toNatClampNeg)
  · unfold lft fk_9 f_L_limit
    rw [a1, bnd2_s, bnd3_s, a2, bnd2_s, bnd3_s]
    exact ⟨_, rfl, h.q0 (by omega) u1 0⟩
  · unfold lft fk_9 f_L_limit
    rw [a1, bnd2_s, bnd3_s, a2, bnd2_s, bnd3_s]
    exact ⟨_, rfl, h.q0 (by omega) u1 1⟩
theorem sk_28 {B : Nat} {v0 : V11} {v : V12} {K : KT} (h : INV B v0 v K) (hB : B + 400 < 2 ^ 30) (xs : Nat → Int32) (i : Int32) (z : Nat → Int64) : ∃ S : LSt, fk_28 xs i v0 v z K = some S ∧ INV (B + 400) S.1 S.2.1 S.2.2.2 := by
  unfold fk_28
  by_cases c0 : xs (i + (1 : Int32)).toNatClampNeg = (0 : Int32)
  · rw [if_pos c0]
    obtain ⟨F2, t2, a1, a2, a3, a4, a5⟩ := m_image (v := v) (k := 0) (by decide)
    rcases h.2.2.1 with ⟨e, -⟩ | ⟨w, e, -⟩
    · rw [e]
      dsimp only
      unfold fk_28_new f_X11_image_new
      obtain ⟨w0, -, i1, -⟩ := init_rel 0
      obtain ⟨u, u1, u2, u3⟩ := x_copy w0 h.1 h.2.1
      obtain ⟨g1, g2, g3, g4⟩ := h.img (show B ≤ B + 400 by omega) (k := 0) (by decide) u2 u3 a2 a3 a4 a5
      rw [c0, i1, bnd1_s, u1, bnd1_s, bnd1_s, show f_X12_image v (0 : Int32) = _ from a1, bnd2_s, bnd4_s]
      exact ⟨_, rfl, g3, g4, g1, g2 1 _ (by decide) (by decide) h.2.2.2.1, g2 2 _ (by decide) (by decide) h.2.2.2.2⟩
    · rw [e]
      dsimp only
      unfold fk_28_old f_X11_image_old
      obtain ⟨u, u1, u2, u3⟩ := x_copy w h.1 h.2.1
      obtain ⟨g1, g2, g3, g4⟩ := h.img (show B ≤ B + 400 by omega) (k := 0) (by decide) u2 u3 a2 a3 a4 a5
      rw [c0, u1, bnd1_s, bnd1_s, show f_X12_image v (0 : Int32) = _ from a1, bnd2_s, bnd4_s]
      exact ⟨_, rfl, g3, g4, g1, g2 1 _ (by decide) (by decide) h.2.2.2.1, g2 2 _ (by decide) (by decide) h.2.2.2.2⟩
  · rw [if_neg c0]
    by_cases c1 : xs (i + (1 : Int32)).toNatClampNeg = (1 : Int32)
    · rw [if_pos c1]
      obtain ⟨F2, t2, a1, a2, a3, a4, a5⟩ := m_image (v := v) (k := 1) (by decide)
      rcases h.2.2.2.1 with ⟨e, -⟩ | ⟨w, e, -⟩
      · rw [e]
        dsimp only
        unfold fk_28_new f_X11_image_new
        obtain ⟨w0, -, i1, -⟩ := init_rel 0
        obtain ⟨u, u1, u2, u3⟩ := x_copy w0 h.1 h.2.1
        obtain ⟨g1, g2, g3, g4⟩ := h.img (show B ≤ B + 400 by omega) (k := 1) (by decide) u2 u3 a2 a3 a4 a5
        rw [c1, i1, bnd1_s, u1, bnd1_s, bnd1_s, show f_X12_image v (1 : Int32) = _ from a1, bnd2_s, bnd4_s]
        exact ⟨_, rfl, g3, g4, g2 0 _ (by decide) (by decide) h.2.2.1, g1, g2 2 _ (by decide) (by decide) h.2.2.2.2⟩
      · rw [e]
        dsimp only
        unfold fk_28_old f_X11_image_old
        obtain ⟨u, u1, u2, u3⟩ := x_copy w h.1 h.2.1
        obtain ⟨g1, g2, g3, g4⟩ := h.img (show B ≤ B + 400 by omega) (k := 1) (by decide) u2 u3 a2 a3 a4 a5
        rw [c1, u1, bnd1_s, bnd1_s, show f_X12_image v (1 : Int32) = _ from a1, bnd2_s, bnd4_s]
        exact ⟨_, rfl, g3, g4, g2 0 _ (by decide) (by decide) h.2.2.1, g1, g2 2 _ (by decide) (by decide) h.2.2.2.2⟩
    · rw [if_neg c1]
      by_cases c2 : xs (i + (1 : Int32)).toNatClampNeg = (2 : Int32)
      · rw [if_pos c2]
        obtain ⟨F2, t2, a1, a2, a3, a4, a5⟩ := m_image (v := v) (k := 2) (by decide)
        rcases h.2.2.2.2 with ⟨e, -⟩ | ⟨w, e, -⟩
        · rw [e]
          dsimp only
          unfold fk_28_new f_X11_image_new
          obtain ⟨w0, -, i1, -⟩ := init_rel 0
          obtain ⟨u, u1, u2, u3⟩ := x_copy w0 h.1 h.2.1
          obtain ⟨g1, g2, g3, g4⟩ := h.img (show B ≤ B + 400 by omega) (k := 2) (by decide) u2 u3 a2 a3 a4 a5
          rw [c2, i1, bnd1_s, u1, bnd1_s, bnd1_s, show f_X12_image v (2 : Int32) = _ from a1, bnd2_s, bnd4_s]
          exact ⟨_, rfl, g3, g4, g2 0 _ (by decide) (by decide) h.2.2.1, g2 1 _ (by decide) (by decide) h.2.2.2.1, g1⟩
        · rw [e]
          dsimp only
          unfold fk_28_old f_X11_image_old
          obtain ⟨u, u1, u2, u3⟩ := x_copy w h.1 h.2.1
          obtain ⟨g1, g2, g3, g4⟩ := h.img (show B ≤ B + 400 by omega) (k := 2) (by decide) u2 u3 a2 a3 a4 a5
          rw [c2, u1, bnd1_s, bnd1_s, show f_X12_image v (2 : Int32) = _ from a1, bnd2_s, bnd4_s]
          exact ⟨_, rfl, g3, g4, g2 0 _ (by decide) (by decide) h.2.2.1, g2 1 _ (by decide) (by decide) h.2.2.2.1, g1⟩
      · rw [if_neg c2]
        unfold lft fk_28_out
        rw [x_image0 c0 c1 c2, bnd1_s, m_image0 c0 c1 c2, bnd2_s, bnd3_s]
        exact ⟨_, rfl, h.q0 (by omega) rfl 0⟩
theorem sk_29 {B : Nat} {v0 : V11} {v : V12} {K : KT} (h : INV B v0 v K) (hB : B + 400 < 2 ^ 30) (xs : Nat → Int32) (i : Int32) (z : Nat → Int64) : ∃ S : LSt, fk_29 xs i v0 v z K = some S ∧ INV (B + 400) S.1 S.2.1 S.2.2.2 := by
  unfold fk_29
  by_cases c0 : xs (i + (1 : Int32)).toNatClampNeg = (0 : Int32)
  · rw [if_pos c0]
    rcases h.2.2.1 with ⟨e, hs⟩ | ⟨w, e, hs, hw, ht⟩
    · rw [e]
      dsimp only
      unfold lft fk_29_none
      rw [c0, show f_X12_again v (0 : Int32) = _ from m_againN (k := 0) (by decide) hs, bnd2_s, bnd3_s]
      exact ⟨_, rfl, h.q0 (by omega) rfl 0⟩
    · obtain ⟨u, v2, a1, a2, a3⟩ := w_again (v0 := v0) (k := 0) (by decide) (show B ≤ B + 400 by omega) hs hw ht
      obtain ⟨q1, q2, q3, q4, q5⟩ := h.w (u := (u, v0.2)) (by omega) a3
      rw [e]
      dsimp only
      unfold fk_29_old f_X11_again_old
      rw [c0, a1, bnd1_s, bnd1_s, show f_X12_again v (0 : Int32) = _ from a2, bnd2_s, bnd4_s]
      rw [e] at q3
      exact ⟨_, rfl, q1, q2, q3, q4, q5⟩
  · rw [if_neg c0]
    by_cases c1 : xs (i + (1 : Int32)).toNatClampNeg = (1 : Int32)
    · rw [if_pos c1]
      rcases h.2.2.2.1 with ⟨e, hs⟩ | ⟨w, e, hs, hw, ht⟩
      · rw [e]
        dsimp only
        unfold lft fk_29_none
        rw [c1, show f_X12_again v (1 : Int32) = _ from m_againN (k := 1) (by decide) hs, bnd2_s, bnd3_s]
        exact ⟨_, rfl, h.q0 (by omega) rfl 0⟩
      · obtain ⟨u, v2, a1, a2, a3⟩ := w_again (v0 := v0) (k := 1) (by decide) (show B ≤ B + 400 by omega) hs hw ht
        obtain ⟨q1, q2, q3, q4, q5⟩ := h.w (u := (u, v0.2)) (by omega) a3
        rw [e]
        dsimp only
        unfold fk_29_old f_X11_again_old
        rw [c1, a1, bnd1_s, bnd1_s, show f_X12_again v (1 : Int32) = _ from a2, bnd2_s, bnd4_s]
        rw [e] at q4
        exact ⟨_, rfl, q1, q2, q3, q4, q5⟩
    · rw [if_neg c1]
      by_cases c2 : xs (i + (1 : Int32)).toNatClampNeg = (2 : Int32)
      · rw [if_pos c2]
        rcases h.2.2.2.2 with ⟨e, hs⟩ | ⟨w, e, hs, hw, ht⟩
        · rw [e]
          dsimp only
          unfold lft fk_29_none
          rw [c2, show f_X12_again v (2 : Int32) = _ from m_againN (k := 2) (by decide) hs, bnd2_s, bnd3_s]
          exact ⟨_, rfl, h.q0 (by omega) rfl 0⟩
        · obtain ⟨u, v2, a1, a2, a3⟩ := w_again (v0 := v0) (k := 2) (by decide) (show B ≤ B + 400 by omega) hs hw ht
          obtain ⟨q1, q2, q3, q4, q5⟩ := h.w (u := (u, v0.2)) (by omega) a3
          rw [e]
          dsimp only
          unfold fk_29_old f_X11_again_old
          rw [c2, a1, bnd1_s, bnd1_s, show f_X12_again v (2 : Int32) = _ from a2, bnd2_s, bnd4_s]
          rw [e] at q5
          exact ⟨_, rfl, q1, q2, q3, q4, q5⟩
      · rw [if_neg c2]
        unfold lft fk_29_none
        rw [m_again0 c0 c1 c2, bnd2_s, bnd3_s]
        exact ⟨_, rfl, h.q0 (by omega) rfl 0⟩
theorem step_ok {B : Nat} {v0 : V11} {v : V12} {K : KT} (h : INV B v0 v K) (hB : B + 400 < 2 ^ 30) (xs : Nat → Int32) (i : Int32) (z : Nat → Int64) : ∃ S : LSt, fstep xs i v0 v z K = some S ∧ INV (B + 400) S.1 S.2.1 S.2.2.2 := by
  unfold fstep
  by_cases d0 : xs i.toNatClampNeg &&& 31 = 0
  · rw [if_pos d0]; exact sk_0 h hB xs i z
  rw [if_neg d0]
  by_cases d1 : xs i.toNatClampNeg &&& 31 = 1
  · rw [if_pos d1]; exact sk_1 h hB xs i z
  rw [if_neg d1]
  by_cases d2 : xs i.toNatClampNeg &&& 31 = 2
  · rw [if_pos d2]; exact sk_2 h hB xs i z
  rw [if_neg d2]
  by_cases d3 : xs i.toNatClampNeg &&& 31 = 3
  · rw [if_pos d3]; exact sk_3 h hB xs i z
  rw [if_neg d3]
  by_cases d4 : xs i.toNatClampNeg &&& 31 = 4
  · rw [if_pos d4]; exact sk_4 h hB xs i z
  rw [if_neg d4]
  by_cases d5 : xs i.toNatClampNeg &&& 31 = 5
  · rw [if_pos d5]; exact sk_5 h hB xs i z
  rw [if_neg d5]
  by_cases d6 : xs i.toNatClampNeg &&& 31 = 6
  · rw [if_pos d6]; exact sk_6 h hB xs i z
  rw [if_neg d6]
  by_cases d7 : xs i.toNatClampNeg &&& 31 = 7
  · rw [if_pos d7]; exact sk_7 h hB xs i z
  rw [if_neg d7]
  by_cases d8 : xs i.toNatClampNeg &&& 31 = 8
  · rw [if_pos d8]; exact sk_8 h hB xs i z
  rw [if_neg d8]
  by_cases d9 : xs i.toNatClampNeg &&& 31 = 9
  · rw [if_pos d9]; exact sk_9 h hB xs i z
  rw [if_neg d9]
  by_cases d10 : xs i.toNatClampNeg &&& 31 = 10
  · rw [if_pos d10]; exact sk_10 h hB xs i z
  rw [if_neg d10]
  by_cases d11 : xs i.toNatClampNeg &&& 31 = 11
  · rw [if_pos d11]; exact sk_11 h hB xs i z
  rw [if_neg d11]
  by_cases d12 : xs i.toNatClampNeg &&& 31 = 12
  · rw [if_pos d12]; exact sk_12 h hB xs i z
  rw [if_neg d12]
  by_cases d13 : xs i.toNatClampNeg &&& 31 = 13
  · rw [if_pos d13]; exact sk_13 h hB xs i z
  rw [if_neg d13]
  by_cases d14 : xs i.toNatClampNeg &&& 31 = 14
  · rw [if_pos d14]; exact sk_14 h hB xs i z
  rw [if_neg d14]
  by_cases d15 : xs i.toNatClampNeg &&& 31 = 15
  · rw [if_pos d15]; exact sk_15 h hB xs i z
  rw [if_neg d15]
  by_cases d16 : xs i.toNatClampNeg &&& 31 = 16
  · rw [if_pos d16]; exact sk_16 h hB xs i z
  rw [if_neg d16]
  by_cases d17 : xs i.toNatClampNeg &&& 31 = 17
  · rw [if_pos d17]; exact sk_17 h hB xs i z
  rw [if_neg d17]
  by_cases d18 : xs i.toNatClampNeg &&& 31 = 18
  · rw [if_pos d18]; exact sk_18 h hB xs i z
  rw [if_neg d18]
  by_cases d19 : xs i.toNatClampNeg &&& 31 = 19
  · rw [if_pos d19]; exact sk_19 h hB xs i z
  rw [if_neg d19]
  by_cases d20 : xs i.toNatClampNeg &&& 31 = 20
  · rw [if_pos d20]; exact sk_20 h hB xs i z
  rw [if_neg d20]
  by_cases d21 : xs i.toNatClampNeg &&& 31 = 21
  · rw [if_pos d21]; exact sk_21 h hB xs i z
  rw [if_neg d21]
  by_cases d22 : xs i.toNatClampNeg &&& 31 = 22
  · rw [if_pos d22]; exact sk_22 h hB xs i z
  rw [if_neg d22]
  by_cases d23 : xs i.toNatClampNeg &&& 31 = 23
  · rw [if_pos d23]; exact sk_23 h hB xs i z
  rw [if_neg d23]
  by_cases d24 : xs i.toNatClampNeg &&& 31 = 24
  · rw [if_pos d24]; exact sk_24 h hB xs i z
  rw [if_neg d24]
  by_cases d25 : xs i.toNatClampNeg &&& 31 = 25
  · rw [if_pos d25]; exact sk_25 h hB xs i z
  rw [if_neg d25]
  by_cases d26 : xs i.toNatClampNeg &&& 31 = 26
  · rw [if_pos d26]; exact sk_26 h hB xs i z
  rw [if_neg d26]
  by_cases d27 : xs i.toNatClampNeg &&& 31 = 27
  · rw [if_pos d27]; exact sk_27 h hB xs i z
  rw [if_neg d27]
  by_cases d28 : xs i.toNatClampNeg &&& 31 = 28
  · rw [if_pos d28]; exact sk_28 h hB xs i z
  rw [if_neg d28]
  by_cases d29 : xs i.toNatClampNeg &&& 31 = 29
  · rw [if_pos d29]; exact sk_29 h hB xs i z
  rw [if_neg d29]
  exact ⟨_, rfl, h.q0 (by omega) rfl v.1⟩
theorem run_ok (xs : Nat → Int32) : ∀ (n t : Nat) (S : LSt), INV (400 * t) S.1 S.2.1 S.2.2.2 → 400 * (t + n) + 400 < 2 ^ 30 → ∃ S' : LSt, frun xs n t S = some S' := by
  intro n
  induction n with
  | zero => intro t S h hB; exact ⟨S, rfl⟩
  | succ n ih =>
    intro t S h hB
    obtain ⟨S', s1, s2⟩ := step_ok h (by omega) xs (nI (4 * t)) S.2.2.1
    show ∃ S2 : LSt, bnd1 (fstep xs (nI (4 * t)) S.1 S.2.1 S.2.2.1 S.2.2.2) (fun S' => frun xs n (t + 1) S') = some S2
    rw [s1, bnd1_s]
    exact ih (t + 1) S' (by rw [show 400 * (t + 1) = 400 * t + 400 by omega]; exact s2) (by omega)
theorem law_pure : ∀ (L : Nat) (xs : Nat → Int32), L ≤ 2048 → f_law L xs = some () := by
  intro L xs hL
  obtain ⟨w, v, a1, a2, a3, a4, a5, a6⟩ := init_rel 0
  unfold f_law f_X11_init f_X5_init f_X7_init f_X0_init f_X2_init f_X1_init
  rw [a1, bnd1_s, bnd1_s, bnd1_s, bnd1_s, bnd1_s, bnd1_s, bnd1_s, bnd1_s, bnd1_s, a2, bnd1_s]
  obtain ⟨S', h⟩ := run_ok xs (L / 4) 0 ((w, w, (fun _ => none), ((stF, (fun _ => 0), (fun _ => 0), (fun _ => 0), (0 : Int32)), (fun _ => 0), (0 : Int32), (0 : Int32), (0 : Int32), (0 : Int32), (0 : Int32), (-1 : Int32)), ((fun _ => 0), (fun _ => 0), (0 : Int32), (0 : Int32), (0 : Int32)), ((fun _ => 0), (0 : Int32), (0 : Int32), (0 : Int32), (0 : Int32)), ((0 : Int32), (0 : Int32), (0 : Int32), (0 : Int32), (0 : Int32), (0 : Int32)), ((0 : Int32), (0 : Int32), (0 : Int32), (0 : Int32), (0 : Int32), (0 : Int32))), v, (fun _ => 0), none, none, none) ⟨a3, a4, Or.inl ⟨rfl, by show v.2.2.2.1 0 = 0; rw [a6]⟩, Or.inl ⟨rfl, by show v.2.2.2.1 1 = 0; rw [a6]⟩, Or.inl ⟨rfl, by show v.2.2.2.1 2 = 0; rw [a6]⟩⟩ (by omega)
  rw [h, bnd1_s]
end ST
