/-- the good words of the tables -/
def GL : List Cond := lw_tbl.filter goodWord
theorem GL_t {w : Cond} (h : w ∈ tables_1) (g : goodWord w = true) : w ∈ GL := List.mem_filter.mpr ⟨List.mem_append_right _ h, g⟩
theorem GL_1 {w : Cond} (h : w ∈ tables_1_1) (g : goodWord w = true) : w ∈ GL := GL_t (List.mem_append_left _ h) g
theorem GL_2 {w : Cond} (h : w ∈ tables_1_2) (g : goodWord w = true) : w ∈ GL := GL_t (List.mem_append_right _ (List.mem_append_left _ h)) g
theorem GL_3 {w : Cond} (h : w ∈ tables_1_3) (g : goodWord w = true) : w ∈ GL := GL_t (List.mem_append_right _ (List.mem_append_right _ (List.mem_append_left _ h))) g
theorem GL_4 {w : Cond} (h : w ∈ tables_1_4) (g : goodWord w = true) : w ∈ GL := GL_t (List.mem_append_right _ (List.mem_append_right _ (List.mem_append_right _ (List.mem_append_left _ h)))) g
theorem GL_5 {w : Cond} (h : w ∈ tables_1_5) (g : goodWord w = true) : w ∈ GL := GL_t (List.mem_append_right _ (List.mem_append_right _ (List.mem_append_right _ (List.mem_append_right _ (List.mem_append_left _ h))))) g
theorem GL_6 {w : Cond} (h : w ∈ tables_1_6) (g : goodWord w = true) : w ∈ GL := GL_t (List.mem_append_right _ (List.mem_append_right _ (List.mem_append_right _ (List.mem_append_right _ (List.mem_append_right _ (List.mem_append_left _ h)))))) g
theorem GL_7 {w : Cond} (h : w ∈ tables_1_7) (g : goodWord w = true) : w ∈ GL := GL_t (List.mem_append_right _ (List.mem_append_right _ (List.mem_append_right _ (List.mem_append_right _ (List.mem_append_right _ (List.mem_append_right _ (h))))))) g
theorem GL_p {q : MethodName × Nat} (h : q ∈ lw_privs) : Cond.selects q.1.cls q.1 q.1 ∈ GL := List.mem_filter.mpr ⟨List.mem_append_left _ (List.mem_map.mpr ⟨q, h, rfl⟩), rfl⟩
theorem GL_s1 {q : MethodName × Nat} (h : q ∈ lw_privs_1) : Cond.selects q.1.cls q.1 q.1 ∈ GL := GL_p (List.mem_append_left _ h)
theorem GL_s2 {q : MethodName × Nat} (h : q ∈ lw_privs_2) : Cond.selects q.1.cls q.1 q.1 ∈ GL := GL_p (List.mem_append_right _ (List.mem_append_left _ h))
theorem GL_s3 {q : MethodName × Nat} (h : q ∈ lw_privs_3) : Cond.selects q.1.cls q.1 q.1 ∈ GL := GL_p (List.mem_append_right _ (List.mem_append_right _ (List.mem_append_left _ h)))
theorem GL_s4 {q : MethodName × Nat} (h : q ∈ lw_privs_4) : Cond.selects q.1.cls q.1 q.1 ∈ GL := GL_p (List.mem_append_right _ (List.mem_append_right _ (List.mem_append_right _ (List.mem_append_left _ h))))
theorem GL_s5 {q : MethodName × Nat} (h : q ∈ lw_privs_5) : Cond.selects q.1.cls q.1 q.1 ∈ GL := GL_p (List.mem_append_right _ (List.mem_append_right _ (List.mem_append_right _ (List.mem_append_right _ (h)))))
theorem GL_good {w : Cond} (h : w ∈ GL) : w ∈ lw_tbl ∧ ((w.onTables && w.keeps) = true ∨ ∃ ty, w = .arrayClass ty) := ⟨(List.mem_filter.mp h).1, good_of_word (List.mem_filter.mp h).2⟩
theorem gI {x k : Cond} (h5 : k ∈ GL) : GoodIn (x :: GL) (k :: GL) := fun w h => (List.mem_cons.mp h).elim (fun e => e ▸ ⟨List.mem_cons_of_mem _ h5, (GL_good h5).2⟩) (fun h => ⟨List.mem_cons_of_mem _ h, (GL_good h).2⟩)
theorem gV {x k : Cond} {own C : String} {idx : Nat} {y : MethodName} (h1 : Cond.methodLink own idx y ∈ GL) (h2 : Cond.instanceMethod y ∈ GL) (h3 : Cond.selects C y y ∈ GL) (h4 : Cond.initialized C ∈ GL) (h5 : k ∈ GL) : GoodIn (x :: GL) (wsV own idx C y (k :: GL)) := by
  have hg : ∀ w ∈ GL, w ∈ x :: GL ∧ ((w.onTables && w.keeps) = true ∨ ∃ ty, w = .arrayClass ty) := fun w h => ⟨List.mem_cons_of_mem _ h, (GL_good h).2⟩
  intro w h
  rcases List.mem_append.mp h with h | h
  · rcases List.mem_cons.mp h with h | h
    · rw [h]; exact hg _ h1
    rcases List.mem_cons.mp h with h | h
    · rw [h]; exact hg _ h2
    rcases List.mem_cons.mp h with h | h
    · rw [h]; exact hg _ h3
    rcases List.mem_cons.mp h with h | h
    · rw [h]; exact hg _ h4
    · exact absurd h List.not_mem_nil
  · exact gI h5 w h
theorem gS {x k : Cond} {own : String} {idx : Nat} {y : MethodName} (h1 : Cond.methodLink own idx y ∈ GL) (h2 : Cond.static y ∈ GL) (h4 : Cond.initialized y.cls ∈ GL) (h5 : k ∈ GL) : GoodIn (x :: GL) (va_wsS own idx y (k :: GL)) := by
  have hg : ∀ w ∈ GL, w ∈ x :: GL ∧ ((w.onTables && w.keeps) = true ∨ ∃ ty, w = .arrayClass ty) := fun w h => ⟨List.mem_cons_of_mem _ h, (GL_good h).2⟩
  intro w h
  rcases List.mem_append.mp h with h | h
  · rcases List.mem_cons.mp h with h | h
    · rw [h]; exact hg _ h1
    rcases List.mem_cons.mp h with h | h
    · rw [h]; exact hg _ h2
    rcases List.mem_cons.mp h with h | h
    · rw [h]; exact hg _ h4
    · exact absurd h List.not_mem_nil
  · exact gI h5 w h
theorem glX0_0 : u_lay RX0 TX0 0 ∈ GL := GL_2 (List.mem_of_getElem? (i := 172) rfl) rfl
theorem glX0_1 : u_lay RX0 TX0 1 ∈ GL := GL_2 (List.mem_of_getElem? (i := 174) rfl) rfl
theorem glX0_2 : u_lay RX0 TX0 2 ∈ GL := GL_2 (List.mem_of_getElem? (i := 176) rfl) rfl
theorem glX0_3 : u_lay RX0 TX0 3 ∈ GL := GL_2 (List.mem_of_getElem? (i := 178) rfl) rfl
theorem glX0_4 : u_lay RX0 TX0 4 ∈ GL := GL_2 (List.mem_of_getElem? (i := 180) rfl) rfl
theorem inX0 : ∀ w ∈ u_ws RX0 TX0 5, w ∈ GL := List.forall_mem_cons.mpr ⟨glX0_0, List.forall_mem_cons.mpr ⟨glX0_1, List.forall_mem_cons.mpr ⟨glX0_2, List.forall_mem_cons.mpr ⟨glX0_3, List.forall_mem_cons.mpr ⟨glX0_4, fun _ h => absurd h List.not_mem_nil⟩⟩⟩⟩⟩
theorem glX1_0 : u_lay RX1 TX1 0 ∈ GL := GL_1 (List.mem_of_getElem? (i := 140) rfl) rfl
theorem glX1_1 : u_lay RX1 TX1 1 ∈ GL := GL_1 (List.mem_of_getElem? (i := 142) rfl) rfl
theorem glX1_2 : u_lay RX1 TX1 2 ∈ GL := GL_1 (List.mem_of_getElem? (i := 144) rfl) rfl
theorem glX1_3 : u_lay RX1 TX1 3 ∈ GL := GL_1 (List.mem_of_getElem? (i := 146) rfl) rfl
theorem glX1_4 : u_lay RX1 TX1 4 ∈ GL := GL_1 (List.mem_of_getElem? (i := 148) rfl) rfl
theorem glX1_5 : u_lay RX1 TX1 5 ∈ GL := GL_1 (List.mem_of_getElem? (i := 150) rfl) rfl
theorem inX1 : ∀ w ∈ u_ws RX1 TX1 6, w ∈ GL := List.forall_mem_cons.mpr ⟨glX1_0, List.forall_mem_cons.mpr ⟨glX1_1, List.forall_mem_cons.mpr ⟨glX1_2, List.forall_mem_cons.mpr ⟨glX1_3, List.forall_mem_cons.mpr ⟨glX1_4, List.forall_mem_cons.mpr ⟨glX1_5, fun _ h => absurd h List.not_mem_nil⟩⟩⟩⟩⟩⟩
theorem glX2_0 : u_lay RX2 TX2 0 ∈ GL := GL_1 (List.mem_of_getElem? (i := 92) rfl) rfl
theorem glX2_1 : u_lay RX2 TX2 1 ∈ GL := GL_1 (List.mem_of_getElem? (i := 94) rfl) rfl
theorem glX2_2 : u_lay RX2 TX2 2 ∈ GL := GL_1 (List.mem_of_getElem? (i := 96) rfl) rfl
theorem glX2_3 : u_lay RX2 TX2 3 ∈ GL := GL_1 (List.mem_of_getElem? (i := 98) rfl) rfl
theorem glX2_4 : u_lay RX2 TX2 4 ∈ GL := GL_1 (List.mem_of_getElem? (i := 100) rfl) rfl
theorem inX2 : ∀ w ∈ u_ws RX2 TX2 5, w ∈ GL := List.forall_mem_cons.mpr ⟨glX2_0, List.forall_mem_cons.mpr ⟨glX2_1, List.forall_mem_cons.mpr ⟨glX2_2, List.forall_mem_cons.mpr ⟨glX2_3, List.forall_mem_cons.mpr ⟨glX2_4, fun _ h => absurd h List.not_mem_nil⟩⟩⟩⟩⟩
theorem glX3_0 : u_lay RX3 TX3 0 ∈ GL := GL_1 (List.mem_of_getElem? (i := 193) rfl) rfl
theorem glX3_1 : u_lay RX3 TX3 1 ∈ GL := GL_1 (List.mem_of_getElem? (i := 195) rfl) rfl
theorem glX3_2 : u_lay RX3 TX3 2 ∈ GL := GL_1 (List.mem_of_getElem? (i := 197) rfl) rfl
theorem glX3_3 : u_lay RX3 TX3 3 ∈ GL := GL_1 (List.mem_of_getElem? (i := 199) rfl) rfl
theorem glX3_4 : u_lay RX3 TX3 4 ∈ GL := GL_1 (List.mem_of_getElem? (i := 201) rfl) rfl
theorem glX3_5 : u_lay RX3 TX3 5 ∈ GL := GL_1 (List.mem_of_getElem? (i := 203) rfl) rfl
theorem glX3_6 : u_lay RX3 TX3 6 ∈ GL := GL_1 (List.mem_of_getElem? (i := 205) rfl) rfl
theorem inX3 : ∀ w ∈ u_ws RX3 TX3 7, w ∈ GL := List.forall_mem_cons.mpr ⟨glX3_0, List.forall_mem_cons.mpr ⟨glX3_1, List.forall_mem_cons.mpr ⟨glX3_2, List.forall_mem_cons.mpr ⟨glX3_3, List.forall_mem_cons.mpr ⟨glX3_4, List.forall_mem_cons.mpr ⟨glX3_5, List.forall_mem_cons.mpr ⟨glX3_6, fun _ h => absurd h List.not_mem_nil⟩⟩⟩⟩⟩⟩⟩
theorem glX4_0 : u_lay RX4 TX4 0 ∈ GL := GL_1 (List.mem_of_getElem? (i := 172) rfl) rfl
theorem glX4_1 : u_lay RX4 TX4 1 ∈ GL := GL_1 (List.mem_of_getElem? (i := 174) rfl) rfl
theorem glX4_2 : u_lay RX4 TX4 2 ∈ GL := GL_1 (List.mem_of_getElem? (i := 176) rfl) rfl
theorem inX4 : ∀ w ∈ u_ws RX4 TX4 3, w ∈ GL := List.forall_mem_cons.mpr ⟨glX4_0, List.forall_mem_cons.mpr ⟨glX4_1, List.forall_mem_cons.mpr ⟨glX4_2, fun _ h => absurd h List.not_mem_nil⟩⟩⟩
theorem glX5_0 : u_lay RX5 TX5 0 ∈ GL := GL_2 (List.mem_of_getElem? (i := 142) rfl) rfl
theorem glX5_1 : u_lay RX5 TX5 1 ∈ GL := GL_2 (List.mem_of_getElem? (i := 144) rfl) rfl
theorem glX5_2 : u_lay RX5 TX5 2 ∈ GL := GL_2 (List.mem_of_getElem? (i := 146) rfl) rfl
theorem glX5_3 : u_lay RX5 TX5 3 ∈ GL := GL_2 (List.mem_of_getElem? (i := 148) rfl) rfl
theorem glX5_4 : u_lay RX5 TX5 4 ∈ GL := GL_2 (List.mem_of_getElem? (i := 150) rfl) rfl
theorem glX5_5 : u_lay RX5 TX5 5 ∈ GL := GL_2 (List.mem_of_getElem? (i := 152) rfl) rfl
theorem glX5_6 : u_lay RX5 TX5 6 ∈ GL := GL_2 (List.mem_of_getElem? (i := 154) rfl) rfl
theorem glX5_7 : u_lay RX5 TX5 7 ∈ GL := GL_2 (List.mem_of_getElem? (i := 156) rfl) rfl
theorem inX5 : ∀ w ∈ u_ws RX5 TX5 8, w ∈ GL := List.forall_mem_cons.mpr ⟨glX5_0, List.forall_mem_cons.mpr ⟨glX5_1, List.forall_mem_cons.mpr ⟨glX5_2, List.forall_mem_cons.mpr ⟨glX5_3, List.forall_mem_cons.mpr ⟨glX5_4, List.forall_mem_cons.mpr ⟨glX5_5, List.forall_mem_cons.mpr ⟨glX5_6, List.forall_mem_cons.mpr ⟨glX5_7, fun _ h => absurd h List.not_mem_nil⟩⟩⟩⟩⟩⟩⟩⟩
theorem glX6_0 : u_lay RX6 TX6 0 ∈ GL := GL_1 (List.mem_of_getElem? (i := 220) rfl) rfl
theorem glX6_1 : u_lay RX6 TX6 1 ∈ GL := GL_1 (List.mem_of_getElem? (i := 222) rfl) rfl
theorem glX6_2 : u_lay RX6 TX6 2 ∈ GL := GL_1 (List.mem_of_getElem? (i := 224) rfl) rfl
theorem inX6 : ∀ w ∈ u_ws RX6 TX6 3, w ∈ GL := List.forall_mem_cons.mpr ⟨glX6_0, List.forall_mem_cons.mpr ⟨glX6_1, List.forall_mem_cons.mpr ⟨glX6_2, fun _ h => absurd h List.not_mem_nil⟩⟩⟩
theorem glX7_0 : u_lay RX7 TX7 0 ∈ GL := GL_1 (List.mem_of_getElem? (i := 63) rfl) rfl
theorem glX7_1 : u_lay RX7 TX7 1 ∈ GL := GL_1 (List.mem_of_getElem? (i := 65) rfl) rfl
theorem glX7_2 : u_lay RX7 TX7 2 ∈ GL := GL_1 (List.mem_of_getElem? (i := 67) rfl) rfl
theorem glX7_3 : u_lay RX7 TX7 3 ∈ GL := GL_1 (List.mem_of_getElem? (i := 69) rfl) rfl
theorem glX7_4 : u_lay RX7 TX7 4 ∈ GL := GL_1 (List.mem_of_getElem? (i := 71) rfl) rfl
theorem inX7 : ∀ w ∈ u_ws RX7 TX7 5, w ∈ GL := List.forall_mem_cons.mpr ⟨glX7_0, List.forall_mem_cons.mpr ⟨glX7_1, List.forall_mem_cons.mpr ⟨glX7_2, List.forall_mem_cons.mpr ⟨glX7_3, List.forall_mem_cons.mpr ⟨glX7_4, fun _ h => absurd h List.not_mem_nil⟩⟩⟩⟩⟩
theorem glX8_0 : u_lay RX8 TX8 0 ∈ GL := GL_1 (List.mem_of_getElem? (i := 114) rfl) rfl
theorem glX8_1 : u_lay RX8 TX8 1 ∈ GL := GL_1 (List.mem_of_getElem? (i := 116) rfl) rfl
theorem glX8_2 : u_lay RX8 TX8 2 ∈ GL := GL_1 (List.mem_of_getElem? (i := 118) rfl) rfl
theorem inX8 : ∀ w ∈ u_ws RX8 TX8 3, w ∈ GL := List.forall_mem_cons.mpr ⟨glX8_0, List.forall_mem_cons.mpr ⟨glX8_1, List.forall_mem_cons.mpr ⟨glX8_2, fun _ h => absurd h List.not_mem_nil⟩⟩⟩
theorem glX9_0 : u_lay RX9 TX9 0 ∈ GL := GL_2 (List.mem_of_getElem? (i := 1) rfl) rfl
theorem glX9_1 : u_lay RX9 TX9 1 ∈ GL := GL_2 (List.mem_of_getElem? (i := 3) rfl) rfl
theorem glX9_2 : u_lay RX9 TX9 2 ∈ GL := GL_2 (List.mem_of_getElem? (i := 5) rfl) rfl
theorem glX9_3 : u_lay RX9 TX9 3 ∈ GL := GL_2 (List.mem_of_getElem? (i := 7) rfl) rfl
theorem inX9 : ∀ w ∈ u_ws RX9 TX9 4, w ∈ GL := List.forall_mem_cons.mpr ⟨glX9_0, List.forall_mem_cons.mpr ⟨glX9_1, List.forall_mem_cons.mpr ⟨glX9_2, List.forall_mem_cons.mpr ⟨glX9_3, fun _ h => absurd h List.not_mem_nil⟩⟩⟩⟩
theorem glX10_0 : u_lay RX10 TX10 0 ∈ GL := GL_2 (List.mem_of_getElem? (i := 93) rfl) rfl
theorem glX10_1 : u_lay RX10 TX10 1 ∈ GL := GL_2 (List.mem_of_getElem? (i := 95) rfl) rfl
theorem glX10_2 : u_lay RX10 TX10 2 ∈ GL := GL_2 (List.mem_of_getElem? (i := 97) rfl) rfl
theorem glX10_3 : u_lay RX10 TX10 3 ∈ GL := GL_2 (List.mem_of_getElem? (i := 99) rfl) rfl
theorem glX10_4 : u_lay RX10 TX10 4 ∈ GL := GL_2 (List.mem_of_getElem? (i := 101) rfl) rfl
theorem glX10_5 : u_lay RX10 TX10 5 ∈ GL := GL_2 (List.mem_of_getElem? (i := 103) rfl) rfl
theorem glX10_6 : u_lay RX10 TX10 6 ∈ GL := GL_2 (List.mem_of_getElem? (i := 105) rfl) rfl
theorem glX10_7 : u_lay RX10 TX10 7 ∈ GL := GL_2 (List.mem_of_getElem? (i := 107) rfl) rfl
theorem glX10_8 : u_lay RX10 TX10 8 ∈ GL := GL_2 (List.mem_of_getElem? (i := 109) rfl) rfl
theorem glX10_9 : u_lay RX10 TX10 9 ∈ GL := GL_2 (List.mem_of_getElem? (i := 111) rfl) rfl
theorem glX10_10 : u_lay RX10 TX10 10 ∈ GL := GL_2 (List.mem_of_getElem? (i := 113) rfl) rfl
theorem glX10_11 : u_lay RX10 TX10 11 ∈ GL := GL_2 (List.mem_of_getElem? (i := 115) rfl) rfl
theorem glX10_12 : u_lay RX10 TX10 12 ∈ GL := GL_2 (List.mem_of_getElem? (i := 117) rfl) rfl
theorem glX10_13 : u_lay RX10 TX10 13 ∈ GL := GL_2 (List.mem_of_getElem? (i := 119) rfl) rfl
theorem inX10 : ∀ w ∈ u_ws RX10 TX10 14, w ∈ GL := List.forall_mem_cons.mpr ⟨glX10_0, List.forall_mem_cons.mpr ⟨glX10_1, List.forall_mem_cons.mpr ⟨glX10_2, List.forall_mem_cons.mpr ⟨glX10_3, List.forall_mem_cons.mpr ⟨glX10_4, List.forall_mem_cons.mpr ⟨glX10_5, List.forall_mem_cons.mpr ⟨glX10_6, List.forall_mem_cons.mpr ⟨glX10_7, List.forall_mem_cons.mpr ⟨glX10_8, List.forall_mem_cons.mpr ⟨glX10_9, List.forall_mem_cons.mpr ⟨glX10_10, List.forall_mem_cons.mpr ⟨glX10_11, List.forall_mem_cons.mpr ⟨glX10_12, List.forall_mem_cons.mpr ⟨glX10_13, fun _ h => absurd h List.not_mem_nil⟩⟩⟩⟩⟩⟩⟩⟩⟩⟩⟩⟩⟩⟩
theorem glX11_0 : u_lay RX11 TX11 0 ∈ GL := GL_2 (List.mem_of_getElem? (i := 195) rfl) rfl
theorem glX11_1 : u_lay RX11 TX11 1 ∈ GL := GL_2 (List.mem_of_getElem? (i := 197) rfl) rfl
theorem glX11_2 : u_lay RX11 TX11 2 ∈ GL := GL_2 (List.mem_of_getElem? (i := 199) rfl) rfl
theorem glX11_3 : u_lay RX11 TX11 3 ∈ GL := GL_2 (List.mem_of_getElem? (i := 201) rfl) rfl
theorem glX11_4 : u_lay RX11 TX11 4 ∈ GL := GL_2 (List.mem_of_getElem? (i := 203) rfl) rfl
theorem glX11_5 : u_lay RX11 TX11 5 ∈ GL := GL_2 (List.mem_of_getElem? (i := 205) rfl) rfl
theorem glX11_6 : u_lay RX11 TX11 6 ∈ GL := GL_2 (List.mem_of_getElem? (i := 207) rfl) rfl
theorem glX11_7 : u_lay RX11 TX11 7 ∈ GL := GL_2 (List.mem_of_getElem? (i := 209) rfl) rfl
theorem inX11 : ∀ w ∈ u_ws RX11 TX11 8, w ∈ GL := List.forall_mem_cons.mpr ⟨glX11_0, List.forall_mem_cons.mpr ⟨glX11_1, List.forall_mem_cons.mpr ⟨glX11_2, List.forall_mem_cons.mpr ⟨glX11_3, List.forall_mem_cons.mpr ⟨glX11_4, List.forall_mem_cons.mpr ⟨glX11_5, List.forall_mem_cons.mpr ⟨glX11_6, List.forall_mem_cons.mpr ⟨glX11_7, fun _ h => absurd h List.not_mem_nil⟩⟩⟩⟩⟩⟩⟩⟩
theorem glX12_0 : u_lay RX12 TX12 0 ∈ GL := GL_5 (List.mem_of_getElem? (i := 137) rfl) rfl
theorem glX12_1 : u_lay RX12 TX12 1 ∈ GL := GL_5 (List.mem_of_getElem? (i := 139) rfl) rfl
theorem glX12_2 : u_lay RX12 TX12 2 ∈ GL := GL_5 (List.mem_of_getElem? (i := 141) rfl) rfl
theorem glX12_3 : u_lay RX12 TX12 3 ∈ GL := GL_5 (List.mem_of_getElem? (i := 143) rfl) rfl
theorem glX12_4 : u_lay RX12 TX12 4 ∈ GL := GL_5 (List.mem_of_getElem? (i := 145) rfl) rfl
theorem glX12_5 : u_lay RX12 TX12 5 ∈ GL := GL_5 (List.mem_of_getElem? (i := 147) rfl) rfl
theorem glX12_6 : u_lay RX12 TX12 6 ∈ GL := GL_5 (List.mem_of_getElem? (i := 149) rfl) rfl
theorem glX12_7 : u_lay RX12 TX12 7 ∈ GL := GL_5 (List.mem_of_getElem? (i := 151) rfl) rfl
theorem glX12_8 : u_lay RX12 TX12 8 ∈ GL := GL_5 (List.mem_of_getElem? (i := 153) rfl) rfl
theorem glX12_9 : u_lay RX12 TX12 9 ∈ GL := GL_5 (List.mem_of_getElem? (i := 155) rfl) rfl
theorem glX12_10 : u_lay RX12 TX12 10 ∈ GL := GL_5 (List.mem_of_getElem? (i := 157) rfl) rfl
theorem glX12_11 : u_lay RX12 TX12 11 ∈ GL := GL_5 (List.mem_of_getElem? (i := 159) rfl) rfl
theorem glX12_12 : u_lay RX12 TX12 12 ∈ GL := GL_5 (List.mem_of_getElem? (i := 161) rfl) rfl
theorem glX12_13 : u_lay RX12 TX12 13 ∈ GL := GL_5 (List.mem_of_getElem? (i := 163) rfl) rfl
theorem glX12_14 : u_lay RX12 TX12 14 ∈ GL := GL_5 (List.mem_of_getElem? (i := 165) rfl) rfl
theorem glX12_15 : u_lay RX12 TX12 15 ∈ GL := GL_5 (List.mem_of_getElem? (i := 167) rfl) rfl
theorem glX12_16 : u_lay RX12 TX12 16 ∈ GL := GL_5 (List.mem_of_getElem? (i := 169) rfl) rfl
theorem glX12_17 : u_lay RX12 TX12 17 ∈ GL := GL_5 (List.mem_of_getElem? (i := 171) rfl) rfl
theorem glX12_18 : u_lay RX12 TX12 18 ∈ GL := GL_5 (List.mem_of_getElem? (i := 173) rfl) rfl
theorem glX12_19 : u_lay RX12 TX12 19 ∈ GL := GL_5 (List.mem_of_getElem? (i := 175) rfl) rfl
theorem glX12_20 : u_lay RX12 TX12 20 ∈ GL := GL_5 (List.mem_of_getElem? (i := 177) rfl) rfl
theorem glX12_21 : u_lay RX12 TX12 21 ∈ GL := GL_5 (List.mem_of_getElem? (i := 179) rfl) rfl
theorem inX12 : ∀ w ∈ u_ws RX12 TX12 22, w ∈ GL := List.forall_mem_cons.mpr ⟨glX12_0, List.forall_mem_cons.mpr ⟨glX12_1, List.forall_mem_cons.mpr ⟨glX12_2, List.forall_mem_cons.mpr ⟨glX12_3, List.forall_mem_cons.mpr ⟨glX12_4, List.forall_mem_cons.mpr ⟨glX12_5, List.forall_mem_cons.mpr ⟨glX12_6, List.forall_mem_cons.mpr ⟨glX12_7, List.forall_mem_cons.mpr ⟨glX12_8, List.forall_mem_cons.mpr ⟨glX12_9, List.forall_mem_cons.mpr ⟨glX12_10, List.forall_mem_cons.mpr ⟨glX12_11, List.forall_mem_cons.mpr ⟨glX12_12, List.forall_mem_cons.mpr ⟨glX12_13, List.forall_mem_cons.mpr ⟨glX12_14, List.forall_mem_cons.mpr ⟨glX12_15, List.forall_mem_cons.mpr ⟨glX12_16, List.forall_mem_cons.mpr ⟨glX12_17, List.forall_mem_cons.mpr ⟨glX12_18, List.forall_mem_cons.mpr ⟨glX12_19, List.forall_mem_cons.mpr ⟨glX12_20, List.forall_mem_cons.mpr ⟨glX12_21, fun _ h => absurd h List.not_mem_nil⟩⟩⟩⟩⟩⟩⟩⟩⟩⟩⟩⟩⟩⟩⟩⟩⟩⟩⟩⟩⟩⟩
