section NU
/-- what was noted before b -/
def FB (b : Nat) (fa fq ba bd : Int32) : Prop := bd = fa ∧ ((fa = 0 ∧ ba = -1) ∨ ((fa = 2 ∨ fa = 3) ∧ ba = fq ∧ ∃ a : Nat, a < b ∧ fq = nI a))
theorem FB.up {b b2 : Nat} {fa fq ba bd : Int32} (h : FB b fa fq ba bd) (hb : b ≤ b2) : FB b2 fa fq ba bd := by
  obtain ⟨h1, h2⟩ := h
  refine ⟨h1, ?_⟩
  rcases h2 with h2 | ⟨h2, h3, a, h4, h5⟩
  · exact Or.inl h2
  · exact Or.inr ⟨h2, h3, a, by omega, h5⟩
theorem note_rel {b : Nat} {fa fq ba bd cd : Int32} (h : FB b fa fq ba bd) (hb : b < 2 ^ 31) (hcd : cd = 2 ∨ cd = 3) (s : V7) (nm : Nat → Int32) (ps kd nu : Int32) {ra : Int32} {al tx sv : Nat → Int32} {re le bg so va : Int32} {wo : Int64} {wr : Int32} {z : (Nat → Int32) × Int32 × Int32 × Int32 × Int32 × Int32 × Int64 × Int64 × (Nat → Int32)} : ∃ fa2 fq2 ba2 : Int32, f_X5_note (s, nm, ps, kd, nI b, nu, fa, fq) cd = some (s, nm, ps, kd, nI b, nu, fa2, fq2) ∧ f_X12_isBad (ra, al, tx, sv, re, le, bg, so, va, wo, wr, ba, bd, z) cd (nI b) = some (ra, al, tx, sv, re, le, bg, so, va, wo, wr, ba2, fa2, z) ∧ fa2 ≠ 0 ∧ FB (b + 1) fa2 fq2 ba2 fa2 := by
  obtain ⟨h1, h2⟩ := h
  subst h1
  have hne : cd ≠ 0 := by
    rcases hcd with e | e <;> rw [e] <;> decide
  by_cases h0 : bd = 0
  · subst h0
    refine ⟨cd, nI b, nI b, ?_, ?_, hne, rfl, Or.inr ⟨hcd, rfl, b, by omega, rfl⟩⟩
    · unfold f_X5_note
      dsimp only
      rw [if_pos rfl]
    · unfold f_X12_isBad
      dsimp only
      rw [if_pos rfl]
  · rcases h2 with h2 | ⟨h2, h3, a, h4, h5⟩
    · exact absurd h2.1 h0
    · subst h3
      subst h5
      refine ⟨bd, nI a, nI a, ?_, ?_, h0, rfl, Or.inr ⟨h2, rfl, a, by omega, rfl⟩⟩
      · unfold f_X5_note
        dsimp only
        rw [if_neg h0]
      · unfold f_X12_isBad
        dsimp only
        rw [if_neg h0, if_neg (nI_nlt (by omega) hb), if_neg (fun e => absurd ((nI_eq hb (by omega)).mp e) (by omega))]
theorem takes_num {n b m lo hi : Nat} (hm : m ≤ 9999) (hlo : lo < 2 ^ 31) (hhi : hi < 2 ^ 31) {ra : Int32} {al tx sv : Nat → Int32} {re : Int32} {wo : Int64} {wr ba bd rd : Int32} {to : Nat → Int32} {z : Int32 × Int32 × Int32 × Int32 × Int64 × Int64 × (Nat → Int32)} : f_X12_takes (ra, al, tx, sv, re, nI n, nI b, 3, nI m, wo, wr, ba, bd, to, rd, z) (nI lo) (nI hi) = (if (decide (lo ≤ m) && decide (m ≤ hi)) = true then bnd1 (f_X12_token (ra, al, tx, sv, re, nI n, nI b, 3, nI m, wo, wr, ba, bd, to, nI m, z)) (fun u_2 => some ((1 : Int32), u_2)) else bnd1 (f_X12_isBad (ra, al, tx, sv, re, nI n, nI b, 3, nI m, wo, wr, ba, bd, to, nI m, z) 2 (nI b)) fun u_3 => bnd1 (f_X12_token u_3) (fun u_2 => some ((1 : Int32), u_2))) := by
  unfold f_X12_takes fc_X12_takes_42
  dsimp only
  rw [if_pos rfl, m_in2 hlo hhi (by omega), bnd1_s]
  by_cases h : (decide (lo ≤ m) && decide (m ≤ hi)) = true
  · rw [if_neg (by rw [if_pos h]; decide), if_pos h]
  · rw [if_pos (by rw [if_neg h]), if_neg h]
theorem least_nI : ∀ k, k < 9 → f_X12_leastOf (nI k) = some (stL k) ∧ f_X12_mostOf (nI k) = some (stM k) := by decide
end NU
