section PA
theorem lit_nI (n : Nat) : (OfNat.ofNat n : Int32) = nI (OfNat.ofNat n) := rfl
/-- (no row of these is an rfl row: the kernel would open heavy functions below) -/
theorem eq_n {α : Type} {a b : α} (h : ∀ c : α, c = b → a = c) : a = b := h b rfl
theorem bnd_e {α ρ : Type} (x : α) (k : α → Option ρ) : bnd x k = k x := eq_n (fun c h => by rw [h]; rfl)
theorem bnd1_s {α ρ : Type} (a : α) (k : α → Option ρ) : bnd1 (some a) k = k a := eq_n (fun c h => by rw [h]; rfl)
theorem bnd2_s {α β ρ : Type} (a : α) (b : β) (k : α → β → Option ρ) : bnd2 (some (a, b)) k = k a b := eq_n (fun c h => by rw [h]; rfl)
theorem bnd3_s {α β γ ρ : Type} (a : α) (b : β) (c : γ) (k : α → β → γ → Option ρ) : bnd3 (some (a, b, c)) k = k a b c := eq_n (fun c h => by rw [h]; rfl)
theorem bnd4_s {α β γ δ ρ : Type} (a : α) (b : β) (c : γ) (d : δ) (k : α → β → γ → δ → Option ρ) : bnd4 (some (a, b, c, d)) k = k a b c d := eq_n (fun c h => by rw [h]; rfl)
theorem chk_nI {ρ : Type} {i n : Nat} {k : Option ρ} (h : i < n) (hn : n < 2 ^ 31) : chkin (nI i) n k = k := if_neg (nI_in h hn)
theorem chk_in {ρ : Type} {i : Int32} {n : Nat} {k : Option ρ} (h : vp_in i n) : chkin i n k = k := if_neg h
theorem upd_s (f : Nat → Int32) (k : Nat) (x : Int32) : upd f k x k = x := if_pos rfl
theorem upd_n {f : Nat → Int32} {k j : Nat} {x : Int32} (h : j ≠ k) : upd f k x j = f j := if_neg h
theorem upd_a (f : Nat → Int32) (k : Nat) (x : Int32) (j : Nat) : upd f k x j = if j = k then x else f j := rfl
/-- a bit -/
def isb (x : Int32) : Prop := x = nI 0 ∨ x = nI 1
theorem isb_in {x : Int32} (h : isb x) : ∃ n : Nat, n < 2 ∧ x = nI n := by
  rcases h with h | h
  · exact ⟨0, by omega, h⟩
  · exact ⟨1, by omega, h⟩
theorem isb_of {n : Nat} (h : n < 2) : isb (nI n) := by
  rcases (show n = 0 ∨ n = 1 by omega) with e | e
  · exact Or.inl (by rw [e])
  · exact Or.inr (by rw [e])
/-- what the tests count -/
def RC (B W : Nat) (c : V1) (F : Nat → Int32) : Prop := ∃ m al iw : Nat, m ≤ B ∧ al ≤ m ∧ iw ≤ W ∧ F 30 = nI m ∧ c.1 = nI al ∧ F 31 = nI al ∧ c.2.2.1 = nI iw ∧ F 33 = nI iw ∧ F 34 = c.2.2.2.2.1 ∧ F 35 = c.2.2.2.2.2 ∧ (m = 0 ↔ al = 0) ∧ (m = 0 ↔ iw = 0) ∧ (0 < m → F 32 = c.2.1) ∧ (0 < iw → F 36 = c.2.2.2.1) ∧ (iw = 0 → c.2.2.2.2.1 = nI 0 ∧ c.2.2.2.2.2 = nI 0)
theorem RC.frame {B W : Nat} {c : V1} {F F2 : Nat → Int32} (h : RC B W c F) (e : ∀ j, 30 ≤ j → j ≤ 36 → F2 j = F j) : RC B W c F2 := by
  obtain ⟨m, al, iw, h1, h2, h3, h4, h5, h6, h7, h8, h9, h10, h11, h12, h13, h14, h15⟩ := h
  refine ⟨m, al, iw, h1, h2, h3, ?_, h5, ?_, h7, ?_, ?_, ?_, h11, h12, fun q => ?_, fun q => ?_, h15⟩
  · rw [e 30 (by omega) (by omega)]; exact h4
  · rw [e 31 (by omega) (by omega)]; exact h6
  · rw [e 33 (by omega) (by omega)]; exact h8
  · rw [e 34 (by omega) (by omega)]; exact h9
  · rw [e 35 (by omega) (by omega)]; exact h10
  · rw [e 32 (by omega) (by omega)]; exact h13 q
  · rw [e 36 (by omega) (by omega)]; exact h14 q
theorem RC.mono {B B2 W : Nat} {c : V1} {F : Nat → Int32} (h : RC B W c F) (hB : B ≤ B2) : RC B2 W c F := by
  obtain ⟨m, al, iw, h1, h2⟩ := h
  exact ⟨m, al, iw, Nat.le_trans h1 hB, h2⟩
theorem fails_eq (L : V2) (c : V1) (v : V12) (e1 : v.2.1 31 = c.1) (e2 : v.2.1 34 = c.2.2.2.2.1) (e3 : v.2.1 35 = c.2.2.2.2.2) (l1 : v.2.2.2.2.2.2.2.2.2.2.2.2.2.2.2.1 = L.2.2.1) (l2 : v.2.2.2.2.2.2.2.2.2.2.2.2.2.2.2.2.1 = L.2.2.2.1) (l3 : v.2.2.2.2.2.2.2.2.2.2.2.2.2.2.2.2.2.1 = L.2.2.2.2) : ∃ r : Int32, f_X2_failures L c = some r ∧ (if v.2.1 31 < v.2.2.2.2.2.2.2.2.2.2.2.2.2.2.2.1 then fc_X12_tests_206 v 0 else fc_X12_tests_206 v 1) = some (r, v) ∧ (r = 0 ∨ 0 < r) := by
  unfold f_X2_failures fc_X2_failures_16 fc_X2_failures_32 fc_X12_tests_206 fc_X12_tests_225
  simp only [bnd_e]
  rw [show ((34 : Int32)).toNatClampNeg = 34 from rfl, show ((35 : Int32)).toNatClampNeg = 35 from rfl]
  simp only [chk_in (show vp_in (34 : Int32) 4725 by unfold vp_in; decide), chk_in (show vp_in (35 : Int32) 4725 by unfold vp_in; decide)]
  rw [e1, e2, e3, l1, l2, l3]
  by_cases h1 : c.1 < L.2.2.1 <;> by_cases h2 : c.2.2.2.2.1 < L.2.2.2.1 <;> by_cases h3 : c.2.2.2.2.2 < L.2.2.2.2 <;> simp only [h1, h2, h3, if_true, if_false]
  all_goals exact ⟨_, rfl, rfl, by decide⟩
end PA
