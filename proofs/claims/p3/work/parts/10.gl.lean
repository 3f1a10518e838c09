/-- the good words of the tables -/
def GL : List Cond := lw_tbl.filter goodWord
theorem GL_t {w : Cond} (h : w ∈ tables_1) (g : goodWord w = true) : w ∈ GL := List.mem_filter.mpr ⟨List.mem_append_right _ h, g⟩
theorem GL_1 {w : Cond} (h : w ∈ tables_1_1) (g : goodWord w = true) : w ∈ GL := GL_t (List.mem_append_left _ h) g
theorem GL_2 {w : Cond} (h : w ∈ tables_1_2) (g : goodWord w = true) : w ∈ GL := GL_t (List.mem_append_right _ (List.mem_append_left _ h)) g
theorem GL_3 {w : Cond} (h : w ∈ tables_1_3) (g : goodWord w = true) : w ∈ GL := GL_t (List.mem_append_right _ (List.mem_append_right _ (List.mem_append_left _ h))) g
theorem GL_4 {w : Cond} (h : w ∈ tables_1_4) (g : goodWord w = true) : w ∈ GL := GL_t (List.mem_append_right _ (List.mem_append_right _ (List.mem_append_right _ (List.mem_append_left _ h)))) g
theorem GL_5 {w : Cond} (h : w ∈ tables_1_5) (g : goodWord w = true) : w ∈ GL := GL_t (List.mem_append_right _ (List.mem_append_right _ (List.mem_append_right _ (List.mem_append_right _ (List.mem_append_left _ h))))) g
theorem GL_6 {w : Cond} (h : w ∈ tables_1_6) (g : goodWord w = true) : w ∈ GL := GL_t (List.mem_append_right _ (List.mem_append_right _ (List.mem_append_right _ (List.mem_append_right _ (List.mem_append_right _ (List.mem_append_left _ h)))))) g
theorem GL_7 {w : Cond} (h : w ∈ tables_1_7) (g : goodWord w = true) : w ∈ GL := GL_t (List.mem_append_right _ (List.mem_append_right _ (List.mem_append_right _ (List.mem_append_right _ (List.mem_append_right _ (List.mem_append_right _ (h))))))) g
theorem GL_p {q : MethodName × Nat} (h : q ∈ lw_privs) : Cond.selects q.1.cls q.1 q.1 ∈ GL := List.mem_filter.mpr ⟨List.mem_append_left _ (List.mem_map.mpr ⟨q, h, rfl⟩), rfl⟩
theorem GL_s1 {q : MethodName × Nat} (h : q ∈ lw_privs_1) : Cond.selects q.1.cls q.1 q.1 ∈ GL := GL_p (List.mem_append_left _ h)
theorem GL_s2 {q : MethodName × Nat} (h : q ∈ lw_privs_2) : Cond.selects q.1.cls q.1 q.1 ∈ GL := GL_p (List.mem_append_right _ (List.mem_append_left _ h))
theorem GL_s3 {q : MethodName × Nat} (h : q ∈ lw_privs_3) : Cond.selects q.1.cls q.1 q.1 ∈ GL := GL_p (List.mem_append_right _ (List.mem_append_right _ (List.mem_append_left _ h)))
theorem GL_s4 {q : MethodName × Nat} (h : q ∈ lw_privs_4) : Cond.selects q.1.cls q.1 q.1 ∈ GL := GL_p (List.mem_append_right _ (List.mem_append_right _ (List.mem_append_right _ (List.mem_append_left _ h))))
theorem GL_s5 {q : MethodName × Nat} (h : q ∈ lw_privs_5) : Cond.selects q.1.cls q.1 q.1 ∈ GL := GL_p (List.mem_append_right _ (List.mem_append_right _ (List.mem_append_right _ (List.mem_append_right _ (h)))))
theorem GL_good {w : Cond} (h : w ∈ GL) : w ∈ lw_tbl ∧ ((w.onTables && w.keeps) = true ∨ ∃ ty, w = .arrayClass ty) := ⟨(List.mem_filter.mp h).1, good_of_word (List.mem_filter.mp h).2⟩
theorem gI {x k : Cond} (h5 : k ∈ GL) : GoodIn (x :: GL) (k :: GL) := fun w h => (List.mem_cons.mp h).elim (fun e => e ▸ ⟨List.mem_cons_of_mem _ h5, (GL_good h5).2⟩) (fun h => ⟨List.mem_cons_of_mem _ h, (GL_good h).2⟩)
theorem gV {x k : Cond} {own C : String} {idx : Nat} {y : MethodName} (h1 : Cond.methodLink own idx y ∈ GL) (h2 : Cond.instanceMethod y ∈ GL) (h3 : Cond.selects C y y ∈ GL) (h4 : Cond.initialized C ∈ GL) (h5 : k ∈ GL) : GoodIn (x :: GL) (wsV own idx C y (k :: GL)) := by
  have hg : ∀ w ∈ GL, w ∈ x :: GL ∧ ((w.onTables && w.keeps) = true ∨ ∃ ty, w = .arrayClass ty) := fun w h => ⟨List.mem_cons_of_mem _ h, (GL_good h).2⟩
  intro w h
  rcases List.mem_append.mp h with h | h
  · rcases List.mem_cons.mp h with h | h
    · rw [h]; exact hg _ h1
    rcases List.mem_cons.mp h with h | h
    · rw [h]; exact hg _ h2
    rcases List.mem_cons.mp h with h | h
    · rw [h]; exact hg _ h3
    rcases List.mem_cons.mp h with h | h
    · rw [h]; exact hg _ h4
    · exact absurd h List.not_mem_nil
  · exact gI h5 w h
theorem gS {x k : Cond} {own : String} {idx : Nat} {y : MethodName} (h1 : Cond.methodLink own idx y ∈ GL) (h2 : Cond.static y ∈ GL) (h4 : Cond.initialized y.cls ∈ GL) (h5 : k ∈ GL) : GoodIn (x :: GL) (va_wsS own idx y (k :: GL)) := by
  have hg : ∀ w ∈ GL, w ∈ x :: GL ∧ ((w.onTables && w.keeps) = true ∨ ∃ ty, w = .arrayClass ty) := fun w h => ⟨List.mem_cons_of_mem _ h, (GL_good h).2⟩
  intro w h
  rcases List.mem_append.mp h with h | h
  · rcases List.mem_cons.mp h with h | h
    · rw [h]; exact hg _ h1
    rcases List.mem_cons.mp h with h | h
    · rw [h]; exact hg _ h2
    rcases List.mem_cons.mp h with h | h
    · rw [h]; exact hg _ h4
    · exact absurd h List.not_mem_nil
  · exact gI h5 w h
theorem glX0_0 : u_lay RX0 TX0 0 ∈ GL := GL_2 (List.mem_of_getElem? (i := 172) rfl) rfl
theorem glX0_1 : u_lay RX0 TX0 1 ∈ GL := GL_2 (List.mem_of_getElem? (i := 174) rfl) rfl
theorem glX0_2 : u_lay RX0 TX0 2 ∈ GL := GL_2 (List.mem_of_getElem? (i := 176) rfl) rfl
theorem glX0_3 : u_lay RX0 TX0 3 ∈ GL := GL_2 (List.mem_of_getElem? (i := 178) rfl) rfl
theorem glX0_4 : u_lay RX0 TX0 4 ∈ GL := GL_2 (List.mem_of_getElem? (i := 180) rfl) rfl
theorem inX0 : ∀ w ∈ u_ws RX0 TX0 5, w ∈ GL := List.forall_mem_cons.mpr ⟨glX0_0, List.forall_mem_cons.mpr ⟨glX0_1, List.forall_mem_cons.mpr ⟨glX0_2, List.forall_mem_cons.mpr ⟨glX0_3, List.forall_mem_cons.mpr ⟨glX0_4, fun _ h => absurd h List.not_mem_nil⟩⟩⟩⟩⟩
theorem glX1_0 : u_lay RX1 TX1 0 ∈ GL := GL_1 (List.mem_of_getElem? (i := 140) rfl) rfl
theorem glX1_1 : u_lay RX1 TX1 1 ∈ GL := GL_1 (List.mem_of_getElem? (i := 142) rfl) rfl
theorem glX1_2 : u_lay RX1 TX1 2 ∈ GL := GL_1 (List.mem_of_getElem? (i := 144) rfl) rfl
theorem glX1_3 : u_lay RX1 TX1 3 ∈ GL := GL_1 (List.mem_of_getElem? (i := 146) rfl) rfl
theorem glX1_4 : u_lay RX1 TX1 4 ∈ GL := GL_1 (List.mem_of_getElem? (i := 148) rfl) rfl
theorem glX1_5 : u_lay RX1 TX1 5 ∈ GL := GL_1 (List.mem_of_getElem? (i := 150) rfl) rfl
theorem inX1 : ∀ w ∈ u_ws RX1 TX1 6, w ∈ GL := List.forall_mem_cons.mpr ⟨glX1_0, List.forall_mem_cons.mpr ⟨glX1_1, List.forall_mem_cons.mpr ⟨glX1_2, List.forall_mem_cons.mpr ⟨glX1_3, List.forall_mem_cons.mpr ⟨glX1_4, List.forall_mem_cons.mpr ⟨glX1_5, fun _ h => absurd h List.not_mem_nil⟩⟩⟩⟩⟩⟩
theorem glX2_0 : u_lay RX2 TX2 0 ∈ GL := GL_1 (List.mem_of_getElem? (i := 92) rfl) rfl
theorem glX2_1 : u_lay RX2 TX2 1 ∈ GL := GL_1 (List.mem_of_getElem? (i := 94) rfl) rfl
theorem glX2_2 : u_lay RX2 TX2 2 ∈ GL := GL_1 (List.mem_of_getElem? (i := 96) rfl) rfl
theorem glX2_3 : u_lay RX2 TX2 3 ∈ GL := GL_1 (List.mem_of_getElem? (i := 98) rfl) rfl
theorem glX2_4 : u_lay RX2 TX2 4 ∈ GL := GL_1 (List.mem_of_getElem? (i := 100) rfl) rfl
theorem inX2 : ∀ w ∈ u_ws RX2 TX2 5, w ∈ GL := List.forall_mem_cons.mpr ⟨glX2_0, List.forall_mem_cons.mpr ⟨glX2_1, List.forall_mem_cons.mpr ⟨glX2_2, List.forall_mem_cons.mpr ⟨glX2_3, List.forall_mem_cons.mpr ⟨glX2_4, fun _ h => absurd h List.not_mem_nil⟩⟩⟩⟩⟩
theorem glX3_0 : u_lay RX3 TX3 0 ∈ GL := GL_1 (List.mem_of_getElem? (i := 193) rfl) rfl
theorem glX3_1 : u_lay RX3 TX3 1 ∈ GL := GL_1 (List.mem_of_getElem? (i := 195) rfl) rfl
theorem glX3_2 : u_lay RX3 TX3 2 ∈ GL := GL_1 (List.mem_of_getElem? (i := 197) rfl) rfl
theorem glX3_3 : u_lay RX3 TX3 3 ∈ GL := GL_1 (List.mem_of_getElem? (i := 199) rfl) rfl
theorem glX3_4 : u_lay RX3 TX3 4 ∈ GL := GL_1 (List.mem_of_getElem? (i := 201) rfl) rfl
theorem glX3_5 : u_lay RX3 TX3 5 ∈ GL := GL_1 (List.mem_of_getElem? (i := 203) rfl) rfl
theorem glX3_6 : u_lay RX3 TX3 6 ∈ GL := GL_1 (List.mem_of_getElem? (i := 205) rfl) rfl
theorem inX3 : ∀ w ∈ u_ws RX3 TX3 7, w ∈ GL := List.forall_mem_cons.mpr ⟨glX3_0, List.forall_mem_cons.mpr ⟨glX3_1, List.forall_mem_cons.mpr ⟨glX3_2, List.forall_mem_cons.mpr ⟨glX3_3, List.forall_mem_cons.mpr ⟨glX3_4, List.forall_mem_cons.mpr ⟨glX3_5, List.forall_mem_cons.mpr ⟨glX3_6, fun _ h => absurd h List.not_mem_nil⟩⟩⟩⟩⟩⟩⟩
theorem glX4_0 : u_lay RX4 TX4 0 ∈ GL := GL_1 (List.mem_of_getElem? (i := 172) rfl) rfl
theorem glX4_1 : u_lay RX4 TX4 1 ∈ GL := GL_1 (List.mem_of_getElem? (i := 174) rfl) rfl
theorem glX4_2 : u_lay RX4 TX4 2 ∈ GL := GL_1 (List.mem_of_getElem? (i := 176) rfl) rfl
theorem inX4 : ∀ w ∈ u_ws RX4 TX4 3, w ∈ GL := List.forall_mem_cons.mpr ⟨glX4_0, List.forall_mem_cons.mpr ⟨glX4_1, List.forall_mem_cons.mpr ⟨glX4_2, fun _ h => absurd h List.not_mem_nil⟩⟩⟩
theorem glX5_0 : u_lay RX5 TX5 0 ∈ GL := GL_2 (List.mem_of_getElem? (i := 142) rfl) rfl
theorem glX5_1 : u_lay RX5 TX5 1 ∈ GL := GL_2 (List.mem_of_getElem? (i := 144) rfl) rfl
theorem glX5_2 : u_lay RX5 TX5 2 ∈ GL := GL_2 (List.mem_of_getElem? (i := 146) rfl) rfl
theorem glX5_3 : u_lay RX5 TX5 3 ∈ GL := GL_2 (List.mem_of_getElem? (i := 148) rfl) rfl
theorem glX5_4 : u_lay RX5 TX5 4 ∈ GL := GL_2 (List.mem_of_getElem? (i := 150) rfl) rfl
theorem glX5_5 : u_lay RX5 TX5 5 ∈ GL := GL_2 (List.mem_of_getElem? (i := 152) rfl) rfl
theorem glX5_6 : u_lay RX5 TX5 6 ∈ GL := GL_2 (List.mem_of_getElem? (i := 154) rfl) rfl
theorem glX5_7 : u_lay RX5 TX5 7 ∈ GL := GL_2 (List.mem_of_getElem? (i := 156) rfl) rfl
theorem inX5 : ∀ w ∈ u_ws RX5 TX5 8, w ∈ GL := List.forall_mem_cons.mpr ⟨glX5_0, List.forall_mem_cons.mpr ⟨glX5_1, List.forall_mem_cons.mpr ⟨glX5_2, List.forall_mem_cons.mpr ⟨glX5_3, List.forall_mem_cons.mpr ⟨glX5_4, List.forall_mem_cons.mpr ⟨glX5_5, List.forall_mem_cons.mpr ⟨glX5_6, List.forall_mem_cons.mpr ⟨glX5_7, fun _ h => absurd h List.not_mem_nil⟩⟩⟩⟩⟩⟩⟩⟩
theorem glX6_0 : u_lay RX6 TX6 0 ∈ GL := GL_1 (List.mem_of_getElem? (i := 220) rfl) rfl
theorem glX6_1 : u_lay RX6 TX6 1 ∈ GL := GL_1 (List.mem_of_getElem? (i := 222) rfl) rfl
theorem glX6_2 : u_lay RX6 TX6 2 ∈ GL := GL_1 (List.mem_of_getElem? (i := 224) rfl) rfl
theorem inX6 : ∀ w ∈ u_ws RX6 TX6 3, w ∈ GL := List.forall_mem_cons.mpr ⟨glX6_0, List.forall_mem_cons.mpr ⟨glX6_1, List.forall_mem_cons.mpr ⟨glX6_2, fun _ h => absurd h List.not_mem_nil⟩⟩⟩
theorem glX7_0 : u_lay RX7 TX7 0 ∈ GL := GL_1 (List.mem_of_getElem? (i := 63) rfl) rfl
theorem glX7_1 : u_lay RX7 TX7 1 ∈ GL := GL_1 (List.mem_of_getElem? (i := 65) rfl) rfl
theorem glX7_2 : u_lay RX7 TX7 2 ∈ GL := GL_1 (List.mem_of_getElem? (i := 67) rfl) rfl
theorem glX7_3 : u_lay RX7 TX7 3 ∈ GL := GL_1 (List.mem_of_getElem? (i := 69) rfl) rfl
theorem glX7_4 : u_lay RX7 TX7 4 ∈ GL := GL_1 (List.mem_of_getElem? (i := 71) rfl) rfl
theorem inX7 : ∀ w ∈ u_ws RX7 TX7 5, w ∈ GL := List.forall_mem_cons.mpr ⟨glX7_0, List.forall_mem_cons.mpr ⟨glX7_1, List.forall_mem_cons.mpr ⟨glX7_2, List.forall_mem_cons.mpr ⟨glX7_3, List.forall_mem_cons.mpr ⟨glX7_4, fun _ h => absurd h List.not_mem_nil⟩⟩⟩⟩⟩
theorem glX8_0 : u_lay RX8 TX8 0 ∈ GL := GL_1 (List.mem_of_getElem? (i := 114) rfl) rfl
theorem glX8_1 : u_lay RX8 TX8 1 ∈ GL := GL_1 (List.mem_of_getElem? (i := 116) rfl) rfl
theorem glX8_2 : u_lay RX8 TX8 2 ∈ GL := GL_1 (List.mem_of_getElem? (i := 118) rfl) rfl
theorem inX8 : ∀ w ∈ u_ws RX8 TX8 3, w ∈ GL := List.forall_mem_cons.mpr ⟨glX8_0, List.forall_mem_cons.mpr ⟨glX8_1, List.forall_mem_cons.mpr ⟨glX8_2, fun _ h => absurd h List.not_mem_nil⟩⟩⟩
theorem glX9_0 : u_lay RX9 TX9 0 ∈ GL := GL_2 (List.mem_of_getElem? (i := 1) rfl) rfl
theorem glX9_1 : u_lay RX9 TX9 1 ∈ GL := GL_2 (List.mem_of_getElem? (i := 3) rfl) rfl
theorem glX9_2 : u_lay RX9 TX9 2 ∈ GL := GL_2 (List.mem_of_getElem? (i := 5) rfl) rfl
theorem glX9_3 : u_lay RX9 TX9 3 ∈ GL := GL_2 (List.mem_of_getElem? (i := 7) rfl) rfl
theorem inX9 : ∀ w ∈ u_ws RX9 TX9 4, w ∈ GL := List.forall_mem_cons.mpr ⟨glX9_0, List.forall_mem_cons.mpr ⟨glX9_1, List.forall_mem_cons.mpr ⟨glX9_2, List.forall_mem_cons.mpr ⟨glX9_3, fun _ h => absurd h List.not_mem_nil⟩⟩⟩⟩
theorem glX10_0 : u_lay RX10 TX10 0 ∈ GL := GL_2 (List.mem_of_getElem? (i := 93) rfl) rfl
theorem glX10_1 : u_lay RX10 TX10 1 ∈ GL := GL_2 (List.mem_of_getElem? (i := 95) rfl) rfl
theorem glX10_2 : u_lay RX10 TX10 2 ∈ GL := GL_2 (List.mem_of_getElem? (i := 97) rfl) rfl
theorem glX10_3 : u_lay RX10 TX10 3 ∈ GL := GL_2 (List.mem_of_getElem? (i := 99) rfl) rfl
theorem glX10_4 : u_lay RX10 TX10 4 ∈ GL := GL_2 (List.mem_of_getElem? (i := 101) rfl) rfl
theorem glX10_5 : u_lay RX10 TX10 5 ∈ GL := GL_2 (List.mem_of_getElem? (i := 103) rfl) rfl
theorem glX10_6 : u_lay RX10 TX10 6 ∈ GL := GL_2 (List.mem_of_getElem? (i := 105) rfl) rfl
theorem glX10_7 : u_lay RX10 TX10 7 ∈ GL := GL_2 (List.mem_of_getElem? (i := 107) rfl) rfl
theorem glX10_8 : u_lay RX10 TX10 8 ∈ GL := GL_2 (List.mem_of_getElem? (i := 109) rfl) rfl
theorem glX10_9 : u_lay RX10 TX10 9 ∈ GL := GL_2 (List.mem_of_getElem? (i := 111) rfl) rfl
theorem glX10_10 : u_lay RX10 TX10 10 ∈ GL := GL_2 (List.mem_of_getElem? (i := 113) rfl) rfl
theorem glX10_11 : u_lay RX10 TX10 11 ∈ GL := GL_2 (List.mem_of_getElem? (i := 115) rfl) rfl
theorem glX10_12 : u_lay RX10 TX10 12 ∈ GL := GL_2 (List.mem_of_getElem? (i := 117) rfl) rfl
theorem glX10_13 : u_lay RX10 TX10 13 ∈ GL := GL_2 (List.mem_of_getElem? (i := 119) rfl) rfl
theorem inX10 : ∀ w ∈ u_ws RX10 TX10 14, w ∈ GL := List.forall_mem_cons.mpr ⟨glX10_0, List.forall_mem_cons.mpr ⟨glX10_1, List.forall_mem_cons.mpr ⟨glX10_2, List.forall_mem_cons.mpr ⟨glX10_3, List.forall_mem_cons.mpr ⟨glX10_4, List.forall_mem_cons.mpr ⟨glX10_5, List.forall_mem_cons.mpr ⟨glX10_6, List.forall_mem_cons.mpr ⟨glX10_7, List.forall_mem_cons.mpr ⟨glX10_8, List.forall_mem_cons.mpr ⟨glX10_9, List.forall_mem_cons.mpr ⟨glX10_10, List.forall_mem_cons.mpr ⟨glX10_11, List.forall_mem_cons.mpr ⟨glX10_12, List.forall_mem_cons.mpr ⟨glX10_13, fun _ h => absurd h List.not_mem_nil⟩⟩⟩⟩⟩⟩⟩⟩⟩⟩⟩⟩⟩⟩
theorem glX11_0 : u_lay RX11 TX11 0 ∈ GL := GL_2 (List.mem_of_getElem? (i := 195) rfl) rfl
theorem glX11_1 : u_lay RX11 TX11 1 ∈ GL := GL_2 (List.mem_of_getElem? (i := 197) rfl) rfl
theorem glX11_2 : u_lay RX11 TX11 2 ∈ GL := GL_2 (List.mem_of_getElem? (i := 199) rfl) rfl
theorem glX11_3 : u_lay RX11 TX11 3 ∈ GL := GL_2 (List.mem_of_getElem? (i := 201) rfl) rfl
theorem glX11_4 : u_lay RX11 TX11 4 ∈ GL := GL_2 (List.mem_of_getElem? (i := 203) rfl) rfl
theorem glX11_5 : u_lay RX11 TX11 5 ∈ GL := GL_2 (List.mem_of_getElem? (i := 205) rfl) rfl
theorem glX11_6 : u_lay RX11 TX11 6 ∈ GL := GL_2 (List.mem_of_getElem? (i := 207) rfl) rfl
theorem glX11_7 : u_lay RX11 TX11 7 ∈ GL := GL_2 (List.mem_of_getElem? (i := 209) rfl) rfl
theorem inX11 : ∀ w ∈ u_ws RX11 TX11 8, w ∈ GL := List.forall_mem_cons.mpr ⟨glX11_0, List.forall_mem_cons.mpr ⟨glX11_1, List.forall_mem_cons.mpr ⟨glX11_2, List.forall_mem_cons.mpr ⟨glX11_3, List.forall_mem_cons.mpr ⟨glX11_4, List.forall_mem_cons.mpr ⟨glX11_5, List.forall_mem_cons.mpr ⟨glX11_6, List.forall_mem_cons.mpr ⟨glX11_7, fun _ h => absurd h List.not_mem_nil⟩⟩⟩⟩⟩⟩⟩⟩
theorem glX12_0 : u_lay RX12 TX12 0 ∈ GL := GL_5 (List.mem_of_getElem? (i := 137) rfl) rfl
theorem glX12_1 : u_lay RX12 TX12 1 ∈ GL := GL_5 (List.mem_of_getElem? (i := 139) rfl) rfl
theorem glX12_2 : u_lay RX12 TX12 2 ∈ GL := GL_5 (List.mem_of_getElem? (i := 141) rfl) rfl
theorem glX12_3 : u_lay RX12 TX12 3 ∈ GL := GL_5 (List.mem_of_getElem? (i := 143) rfl) rfl
theorem glX12_4 : u_lay RX12 TX12 4 ∈ GL := GL_5 (List.mem_of_getElem? (i := 145) rfl) rfl
theorem glX12_5 : u_lay RX12 TX12 5 ∈ GL := GL_5 (List.mem_of_getElem? (i := 147) rfl) rfl
theorem glX12_6 : u_lay RX12 TX12 6 ∈ GL := GL_5 (List.mem_of_getElem? (i := 149) rfl) rfl
theorem glX12_7 : u_lay RX12 TX12 7 ∈ GL := GL_5 (List.mem_of_getElem? (i := 151) rfl) rfl
theorem glX12_8 : u_lay RX12 TX12 8 ∈ GL := GL_5 (List.mem_of_getElem? (i := 153) rfl) rfl
theorem glX12_9 : u_lay RX12 TX12 9 ∈ GL := GL_5 (List.mem_of_getElem? (i := 155) rfl) rfl
theorem glX12_10 : u_lay RX12 TX12 10 ∈ GL := GL_5 (List.mem_of_getElem? (i := 157) rfl) rfl
theorem glX12_11 : u_lay RX12 TX12 11 ∈ GL := GL_5 (List.mem_of_getElem? (i := 159) rfl) rfl
theorem glX12_12 : u_lay RX12 TX12 12 ∈ GL := GL_5 (List.mem_of_getElem? (i := 161) rfl) rfl
theorem glX12_13 : u_lay RX12 TX12 13 ∈ GL := GL_5 (List.mem_of_getElem? (i := 163) rfl) rfl
theorem glX12_14 : u_lay RX12 TX12 14 ∈ GL := GL_5 (List.mem_of_getElem? (i := 165) rfl) rfl
theorem glX12_15 : u_lay RX12 TX12 15 ∈ GL := GL_5 (List.mem_of_getElem? (i := 167) rfl) rfl
theorem glX12_16 : u_lay RX12 TX12 16 ∈ GL := GL_5 (List.mem_of_getElem? (i := 169) rfl) rfl
theorem glX12_17 : u_lay RX12 TX12 17 ∈ GL := GL_5 (List.mem_of_getElem? (i := 171) rfl) rfl
theorem glX12_18 : u_lay RX12 TX12 18 ∈ GL := GL_5 (List.mem_of_getElem? (i := 173) rfl) rfl
theorem glX12_19 : u_lay RX12 TX12 19 ∈ GL := GL_5 (List.mem_of_getElem? (i := 175) rfl) rfl
theorem glX12_20 : u_lay RX12 TX12 20 ∈ GL := GL_5 (List.mem_of_getElem? (i := 177) rfl) rfl
theorem glX12_21 : u_lay RX12 TX12 21 ∈ GL := GL_5 (List.mem_of_getElem? (i := 179) rfl) rfl
theorem inX12 : ∀ w ∈ u_ws RX12 TX12 22, w ∈ GL := List.forall_mem_cons.mpr ⟨glX12_0, List.forall_mem_cons.mpr ⟨glX12_1, List.forall_mem_cons.mpr ⟨glX12_2, List.forall_mem_cons.mpr ⟨glX12_3, List.forall_mem_cons.mpr ⟨glX12_4, List.forall_mem_cons.mpr ⟨glX12_5, List.forall_mem_cons.mpr ⟨glX12_6, List.forall_mem_cons.mpr ⟨glX12_7, List.forall_mem_cons.mpr ⟨glX12_8, List.forall_mem_cons.mpr ⟨glX12_9, List.forall_mem_cons.mpr ⟨glX12_10, List.forall_mem_cons.mpr ⟨glX12_11, List.forall_mem_cons.mpr ⟨glX12_12, List.forall_mem_cons.mpr ⟨glX12_13, List.forall_mem_cons.mpr ⟨glX12_14, List.forall_mem_cons.mpr ⟨glX12_15, List.forall_mem_cons.mpr ⟨glX12_16, List.forall_mem_cons.mpr ⟨glX12_17, List.forall_mem_cons.mpr ⟨glX12_18, List.forall_mem_cons.mpr ⟨glX12_19, List.forall_mem_cons.mpr ⟨glX12_20, List.forall_mem_cons.mpr ⟨glX12_21, fun _ h => absurd h List.not_mem_nil⟩⟩⟩⟩⟩⟩⟩⟩⟩⟩⟩⟩⟩⟩⟩⟩⟩⟩⟩⟩⟩⟩
theorem gw_3_74 : Cond.fieldLink RJ0 1053 "jdk/internal/util/Preconditions" "SIOOBE_FORMATTER" "Ljava/util/function/BiFunction;" ∈ GL := GL_3 (List.mem_of_getElem? (i := 74) rfl) rfl
theorem gw_3_76 : Cond.methodLink RJ0 1059 yJ3_checkIndex_8e157 ∈ GL := GL_3 (List.mem_of_getElem? (i := 76) rfl) rfl
theorem gw_3_77 : Cond.static yJ3_checkIndex_8e157 ∈ GL := GL_3 (List.mem_of_getElem? (i := 77) rfl) rfl
theorem gw_1_19 : Cond.initialized RJ3 ∈ GL := GL_1 (List.mem_of_getElem? (i := 19) rfl) rfl
theorem gw_3_78 : Cond.code yJ3_checkIndex_8e157 cJ3_checkIndex_8e157 3 (some .int) ∈ GL := GL_3 (List.mem_of_getElem? (i := 78) rfl) rfl
theorem gw_3_71 : Cond.methodLink RJ1 9 yJ0_checkIndex_df160 ∈ GL := GL_3 (List.mem_of_getElem? (i := 71) rfl) rfl
theorem gw_3_72 : Cond.static yJ0_checkIndex_df160 ∈ GL := GL_3 (List.mem_of_getElem? (i := 72) rfl) rfl
theorem gw_1_17 : Cond.initialized RJ0 ∈ GL := GL_1 (List.mem_of_getElem? (i := 17) rfl) rfl
theorem gw_3_73 : Cond.code yJ0_checkIndex_df160 cJ0_checkIndex_df160 2 none ∈ GL := GL_3 (List.mem_of_getElem? (i := 73) rfl) rfl
theorem gw_3_57 : Cond.fieldLink RJ0 38 "java/lang/String" "COMPACT_STRINGS" "Z" ∈ GL := GL_3 (List.mem_of_getElem? (i := 57) rfl) rfl
theorem gw_7_84 : Cond.fieldLink RJ0 15 "java/lang/String" "coder" "B" ∈ GL := GL_7 (List.mem_of_getElem? (i := 84) rfl) rfl
theorem gw_7_83 : Cond.fieldLink RJ0 9 "java/lang/String" "value" "[B" ∈ GL := GL_7 (List.mem_of_getElem? (i := 83) rfl) rfl
theorem gw_3_53 : Cond.methodLink RJ0 335 yJ0_coder_7d493 ∈ GL := GL_3 (List.mem_of_getElem? (i := 53) rfl) rfl
theorem gw_3_54 : Cond.instanceMethod yJ0_coder_7d493 ∈ GL := GL_3 (List.mem_of_getElem? (i := 54) rfl) rfl
theorem gw_3_55 : Cond.selects RJ0 yJ0_coder_7d493 yJ0_coder_7d493 ∈ GL := GL_3 (List.mem_of_getElem? (i := 55) rfl) rfl
theorem gw_3_56 : Cond.code yJ0_coder_7d493 cJ0_coder_7d493 1 (some .byte) ∈ GL := GL_3 (List.mem_of_getElem? (i := 56) rfl) rfl
theorem gw_3_64 : Cond.methodLink RJ0 492 yJ0_isLatin1_aae02 ∈ GL := GL_3 (List.mem_of_getElem? (i := 64) rfl) rfl
theorem gw_3_65 : Cond.instanceMethod yJ0_isLatin1_aae02 ∈ GL := GL_3 (List.mem_of_getElem? (i := 65) rfl) rfl
theorem gw_3_66 : Cond.selects RJ0 yJ0_isLatin1_aae02 yJ0_isLatin1_aae02 ∈ GL := GL_3 (List.mem_of_getElem? (i := 66) rfl) rfl
theorem gw_3_67 : Cond.code yJ0_isLatin1_aae02 cJ0_isLatin1_aae02 1 (some .boolean) ∈ GL := GL_3 (List.mem_of_getElem? (i := 67) rfl) rfl
theorem gw_3_68 : Cond.methodLink RJ0 495 yJ1_charAt_3b067 ∈ GL := GL_3 (List.mem_of_getElem? (i := 68) rfl) rfl
theorem gw_3_69 : Cond.static yJ1_charAt_3b067 ∈ GL := GL_3 (List.mem_of_getElem? (i := 69) rfl) rfl
theorem gw_1_18 : Cond.initialized RJ1 ∈ GL := GL_1 (List.mem_of_getElem? (i := 18) rfl) rfl
theorem gw_3_70 : Cond.code yJ1_charAt_3b067 cJ1_charAt_3b067 2 (some .char) ∈ GL := GL_3 (List.mem_of_getElem? (i := 70) rfl) rfl
theorem gw_1_33 : Cond.code objectInit ⟨#[0xb1]⟩ 1 none ∈ GL := GL_1 (List.mem_of_getElem? (i := 33) rfl) rfl
theorem gw_1_130 : Cond.fieldLink RX1 13 "NoiseWatch$Counts" "last" "I" ∈ GL := GL_1 (List.mem_of_getElem? (i := 130) rfl) rfl
theorem gw_1_131 : Cond.fieldLink RX1 16 "NoiseWatch$Counts" "inWindow" "I" ∈ GL := GL_1 (List.mem_of_getElem? (i := 131) rfl) rfl
theorem gw_1_133 : Cond.fieldLink RX1 19 "NoiseWatch$Counts" "first" "I" ∈ GL := GL_1 (List.mem_of_getElem? (i := 133) rfl) rfl
theorem gw_1_134 : Cond.fieldLink RX1 22 "NoiseWatch$Counts" "like" "I" ∈ GL := GL_1 (List.mem_of_getElem? (i := 134) rfl) rfl
theorem gw_1_137 : Cond.fieldLink RX1 25 "NoiseWatch$Counts" "unlike" "I" ∈ GL := GL_1 (List.mem_of_getElem? (i := 137) rfl) rfl
theorem gw_1_127 : Cond.fieldLink RX1 7 "NoiseWatch$Counts" "alike" "I" ∈ GL := GL_1 (List.mem_of_getElem? (i := 127) rfl) rfl
theorem gw_1_32 : Cond.instanceMethod objectInit ∈ GL := GL_1 (List.mem_of_getElem? (i := 32) rfl) rfl
theorem gw_1_126 : Cond.methodLink RX1 1 objectInit ∈ GL := GL_1 (List.mem_of_getElem? (i := 126) rfl) rfl
theorem gw_1_103 : Cond.arrayClass .long ∈ GL := GL_1 (List.mem_of_getElem? (i := 103) rfl) rfl
theorem gw_1_82 : Cond.fieldLink RX2 15 "NoiseWatch$Odds" "tries" "I" ∈ GL := GL_1 (List.mem_of_getElem? (i := 82) rfl) rfl
theorem gw_1_83 : Cond.fieldLink RX2 19 "NoiseWatch$Odds" "repeats" "I" ∈ GL := GL_1 (List.mem_of_getElem? (i := 83) rfl) rfl
theorem gw_1_86 : Cond.fieldLink RX2 22 "NoiseWatch$Odds" "proportion" "I" ∈ GL := GL_1 (List.mem_of_getElem? (i := 86) rfl) rfl
theorem gw_1_89 : Cond.fieldLink RX2 25 "NoiseWatch$Odds" "changes" "I" ∈ GL := GL_1 (List.mem_of_getElem? (i := 89) rfl) rfl
theorem gw_1_81 : Cond.fieldLink RX2 9 "NoiseWatch$Odds" "tails" "[J" ∈ GL := GL_1 (List.mem_of_getElem? (i := 81) rfl) rfl
theorem gw_1_80 : Cond.methodLink RX2 3 objectInit ∈ GL := GL_1 (List.mem_of_getElem? (i := 80) rfl) rfl
theorem gw_1_74 : Cond.arrayClass .int ∈ GL := GL_1 (List.mem_of_getElem? (i := 74) rfl) rfl
theorem gw_1_165 : Cond.fieldLink RX4 11 "NoiseWatch$Queue" "bits" "[I" ∈ GL := GL_1 (List.mem_of_getElem? (i := 165) rfl) rfl
theorem gw_1_166 : Cond.fieldLink RX4 15 "NoiseWatch$Queue" "head" "I" ∈ GL := GL_1 (List.mem_of_getElem? (i := 166) rfl) rfl
theorem gw_1_167 : Cond.fieldLink RX4 19 "NoiseWatch$Queue" "size" "I" ∈ GL := GL_1 (List.mem_of_getElem? (i := 167) rfl) rfl
theorem gw_1_164 : Cond.methodLink RX4 3 objectInit ∈ GL := GL_1 (List.mem_of_getElem? (i := 164) rfl) rfl
theorem gw_1_54 : Cond.classLink RX7 14 "[I" ∈ GL := GL_1 (List.mem_of_getElem? (i := 54) rfl) rfl
theorem gw_1_55 : Cond.fieldLink RX7 18 "NoiseWatch$Settings" "values" "[I" ∈ GL := GL_1 (List.mem_of_getElem? (i := 55) rfl) rfl
theorem gw_1_56 : Cond.fieldLink RX7 23 "NoiseWatch$Settings" "stuckFrom" "[I" ∈ GL := GL_1 (List.mem_of_getElem? (i := 56) rfl) rfl
theorem gw_1_57 : Cond.fieldLink RX7 26 "NoiseWatch$Settings" "stuckTo" "[I" ∈ GL := GL_1 (List.mem_of_getElem? (i := 57) rfl) rfl
theorem gw_1_58 : Cond.fieldLink RX7 29 "NoiseWatch$Settings" "stuckValue" "[I" ∈ GL := GL_1 (List.mem_of_getElem? (i := 58) rfl) rfl
theorem gw_1_59 : Cond.fieldLink RX7 32 "NoiseWatch$Settings" "stuckCount" "I" ∈ GL := GL_1 (List.mem_of_getElem? (i := 59) rfl) rfl
theorem gw_1_51 : Cond.instanceMethod ⟨"java/lang/Object", "clone", "()Ljava/lang/Object;"⟩ ∈ GL := GL_1 (List.mem_of_getElem? (i := 51) rfl) rfl
theorem gw_1_48 : Cond.methodLink RX7 13 ⟨"[I", "clone", "()Ljava/lang/Object;"⟩ ∈ GL := GL_1 (List.mem_of_getElem? (i := 48) rfl) rfl
theorem gw_1_45 : Cond.methodLink RX7 3 objectInit ∈ GL := GL_1 (List.mem_of_getElem? (i := 45) rfl) rfl
theorem gw_1_50 : Cond.native ⟨"java/lang/Object", "clone", "()Ljava/lang/Object;"⟩ ∈ GL := GL_1 (List.mem_of_getElem? (i := 50) rfl) rfl
theorem gw_1_49 : Cond.sameMethod "[I" "java/lang/Object" "clone" "()Ljava/lang/Object;" ∈ GL := GL_1 (List.mem_of_getElem? (i := 49) rfl) rfl
theorem gw_1_52 : Cond.selects "[I" ⟨"[I", "clone", "()Ljava/lang/Object;"⟩ ⟨"java/lang/Object", "clone", "()Ljava/lang/Object;"⟩ ∈ GL := GL_1 (List.mem_of_getElem? (i := 52) rfl) rfl
theorem gw_1_111 : Cond.fieldLink RX8 15 "NoiseWatch$Source" "drawn" "I" ∈ GL := GL_1 (List.mem_of_getElem? (i := 111) rfl) rfl
theorem gw_1_113 : Cond.fieldLink RX8 18 "NoiseWatch$Source" "last" "I" ∈ GL := GL_1 (List.mem_of_getElem? (i := 113) rfl) rfl
theorem gw_1_110 : Cond.fieldLink RX8 9 "NoiseWatch$Source" "x" "I" ∈ GL := GL_1 (List.mem_of_getElem? (i := 110) rfl) rfl
theorem gw_1_109 : Cond.methodLink RX8 3 objectInit ∈ GL := GL_1 (List.mem_of_getElem? (i := 109) rfl) rfl
theorem gw_1_234 : Cond.fieldLink RX9 15 "NoiseWatch$Text" "size" "I" ∈ GL := GL_1 (List.mem_of_getElem? (i := 234) rfl) rfl
theorem gw_1_237 : Cond.fieldLink RX9 19 "NoiseWatch$Text" "fault" "I" ∈ GL := GL_1 (List.mem_of_getElem? (i := 237) rfl) rfl
theorem gw_1_239 : Cond.fieldLink RX9 22 "NoiseWatch$Text" "place" "I" ∈ GL := GL_1 (List.mem_of_getElem? (i := 239) rfl) rfl
theorem gw_1_233 : Cond.fieldLink RX9 9 "NoiseWatch$Text" "bytes" "[I" ∈ GL := GL_1 (List.mem_of_getElem? (i := 233) rfl) rfl
theorem gw_1_232 : Cond.methodLink RX9 3 objectInit ∈ GL := GL_1 (List.mem_of_getElem? (i := 232) rfl) rfl
theorem gw_2_166 : Cond.fieldLink RX0 15 "NoiseWatch$Bounds" "seen" "[I" ∈ GL := GL_2 (List.mem_of_getElem? (i := 166) rfl) rfl
theorem gw_2_167 : Cond.fieldLink RX0 18 "NoiseWatch$Bounds" "size" "I" ∈ GL := GL_2 (List.mem_of_getElem? (i := 167) rfl) rfl
theorem gw_2_168 : Cond.fieldLink RX0 22 "NoiseWatch$Bounds" "above" "I" ∈ GL := GL_2 (List.mem_of_getElem? (i := 168) rfl) rfl
theorem gw_2_170 : Cond.fieldLink RX0 25 "NoiseWatch$Bounds" "below" "I" ∈ GL := GL_2 (List.mem_of_getElem? (i := 170) rfl) rfl
theorem gw_2_165 : Cond.fieldLink RX0 9 "NoiseWatch$Bounds" "latest" "[I" ∈ GL := GL_2 (List.mem_of_getElem? (i := 165) rfl) rfl
theorem gw_2_164 : Cond.methodLink RX0 3 objectInit ∈ GL := GL_2 (List.mem_of_getElem? (i := 164) rfl) rfl
theorem gw_1_217 : Cond.fieldLink RX6 15 "NoiseWatch$Rows" "lengths" "[I" ∈ GL := GL_1 (List.mem_of_getElem? (i := 217) rfl) rfl
theorem gw_1_218 : Cond.fieldLink RX6 18 "NoiseWatch$Rows" "size" "I" ∈ GL := GL_1 (List.mem_of_getElem? (i := 218) rfl) rfl
theorem gw_1_216 : Cond.fieldLink RX6 9 "NoiseWatch$Rows" "samples" "[I" ∈ GL := GL_1 (List.mem_of_getElem? (i := 216) rfl) rfl
theorem gw_1_215 : Cond.methodLink RX6 3 objectInit ∈ GL := GL_1 (List.mem_of_getElem? (i := 215) rfl) rfl
theorem gw_1_159 : Cond.classLink RX3 9 RX4 ∈ GL := GL_1 (List.mem_of_getElem? (i := 159) rfl) rfl
theorem gw_1_163 : Cond.code yX4_init cX4_init 1 none ∈ GL := GL_1 (List.mem_of_getElem? (i := 163) rfl) rfl
theorem gw_1_179 : Cond.fieldLink RX3 12 "NoiseWatch$Pool" "bits" "LNoiseWatch$Queue;" ∈ GL := GL_1 (List.mem_of_getElem? (i := 179) rfl) rfl
theorem gw_1_182 : Cond.fieldLink RX3 18 "NoiseWatch$Pool" "register" "I" ∈ GL := GL_1 (List.mem_of_getElem? (i := 182) rfl) rfl
theorem gw_1_183 : Cond.fieldLink RX3 22 "NoiseWatch$Pool" "inBlock" "I" ∈ GL := GL_1 (List.mem_of_getElem? (i := 183) rfl) rfl
theorem gw_1_185 : Cond.fieldLink RX3 25 "NoiseWatch$Pool" "came" "I" ∈ GL := GL_1 (List.mem_of_getElem? (i := 185) rfl) rfl
theorem gw_1_187 : Cond.fieldLink RX3 28 "NoiseWatch$Pool" "wasted" "I" ∈ GL := GL_1 (List.mem_of_getElem? (i := 187) rfl) rfl
theorem gw_1_189 : Cond.fieldLink RX3 31 "NoiseWatch$Pool" "taken" "I" ∈ GL := GL_1 (List.mem_of_getElem? (i := 189) rfl) rfl
theorem gw_1_191 : Cond.fieldLink RX3 34 "NoiseWatch$Pool" "gone" "I" ∈ GL := GL_1 (List.mem_of_getElem? (i := 191) rfl) rfl
theorem gw_1_8 : Cond.initialized RX4 ∈ GL := GL_1 (List.mem_of_getElem? (i := 8) rfl) rfl
theorem gw_1_162 : Cond.instanceMethod yX4_init ∈ GL := GL_1 (List.mem_of_getElem? (i := 162) rfl) rfl
theorem gw_1_160 : Cond.instantiable RX4 3 ∈ GL := GL_1 (List.mem_of_getElem? (i := 160) rfl) rfl
theorem gw_1_158 : Cond.methodLink RX3 3 objectInit ∈ GL := GL_1 (List.mem_of_getElem? (i := 158) rfl) rfl
theorem gw_2_129 : Cond.classLink RX5 9 RX7 ∈ GL := GL_2 (List.mem_of_getElem? (i := 129) rfl) rfl
theorem gw_1_44 : Cond.code yX7_init cX7_init 1 none ∈ GL := GL_1 (List.mem_of_getElem? (i := 44) rfl) rfl
theorem gw_2_131 : Cond.fieldLink RX5 12 "NoiseWatch$Reader" "draft" "LNoiseWatch$Settings;" ∈ GL := GL_2 (List.mem_of_getElem? (i := 131) rfl) rfl
theorem gw_2_133 : Cond.fieldLink RX5 18 "NoiseWatch$Reader" "numbers" "[I" ∈ GL := GL_2 (List.mem_of_getElem? (i := 133) rfl) rfl
theorem gw_2_134 : Cond.fieldLink RX5 22 "NoiseWatch$Reader" "at" "I" ∈ GL := GL_2 (List.mem_of_getElem? (i := 134) rfl) rfl
theorem gw_2_135 : Cond.fieldLink RX5 26 "NoiseWatch$Reader" "kind" "I" ∈ GL := GL_2 (List.mem_of_getElem? (i := 135) rfl) rfl
theorem gw_2_136 : Cond.fieldLink RX5 29 "NoiseWatch$Reader" "from" "I" ∈ GL := GL_2 (List.mem_of_getElem? (i := 136) rfl) rfl
theorem gw_2_137 : Cond.fieldLink RX5 32 "NoiseWatch$Reader" "number" "I" ∈ GL := GL_2 (List.mem_of_getElem? (i := 137) rfl) rfl
theorem gw_2_138 : Cond.fieldLink RX5 35 "NoiseWatch$Reader" "fault" "I" ∈ GL := GL_2 (List.mem_of_getElem? (i := 138) rfl) rfl
theorem gw_2_140 : Cond.fieldLink RX5 38 "NoiseWatch$Reader" "place" "I" ∈ GL := GL_2 (List.mem_of_getElem? (i := 140) rfl) rfl
theorem gw_1_3 : Cond.initialized RX7 ∈ GL := GL_1 (List.mem_of_getElem? (i := 3) rfl) rfl
theorem gw_1_43 : Cond.instanceMethod yX7_init ∈ GL := GL_1 (List.mem_of_getElem? (i := 43) rfl) rfl
theorem gw_1_41 : Cond.instantiable RX7 5 ∈ GL := GL_1 (List.mem_of_getElem? (i := 41) rfl) rfl
theorem gw_2_128 : Cond.methodLink RX5 3 objectInit ∈ GL := GL_2 (List.mem_of_getElem? (i := 128) rfl) rfl
theorem gw_2_34 : Cond.code Lib.Math.max.name Lib.Math.max.code 2 (some .int) ∈ GL := GL_2 (List.mem_of_getElem? (i := 34) rfl) rfl
theorem gw_2_31 : Cond.code Lib.Math.min.name Lib.Math.min.code 2 (some .int) ∈ GL := GL_2 (List.mem_of_getElem? (i := 31) rfl) rfl
theorem gw_2_37 : Cond.code yJ7_fill_d0a16 cJ7_fill_d0a16 5 none ∈ GL := GL_2 (List.mem_of_getElem? (i := 37) rfl) rfl
theorem gw_1_11 : Cond.initialized "java/lang/Math" ∈ GL := GL_1 (List.mem_of_getElem? (i := 11) rfl) rfl
theorem gw_1_12 : Cond.initialized RJ7 ∈ GL := GL_1 (List.mem_of_getElem? (i := 12) rfl) rfl
theorem gw_2_29 : Cond.methodLink RX2 28 Lib.Math.min.name ∈ GL := GL_2 (List.mem_of_getElem? (i := 29) rfl) rfl
theorem gw_2_32 : Cond.methodLink RX2 34 Lib.Math.max.name ∈ GL := GL_2 (List.mem_of_getElem? (i := 32) rfl) rfl
theorem gw_2_35 : Cond.methodLink RX2 37 yJ7_fill_d0a16 ∈ GL := GL_2 (List.mem_of_getElem? (i := 35) rfl) rfl
theorem gw_2_33 : Cond.static Lib.Math.max.name ∈ GL := GL_2 (List.mem_of_getElem? (i := 33) rfl) rfl
theorem gw_2_30 : Cond.static Lib.Math.min.name ∈ GL := GL_2 (List.mem_of_getElem? (i := 30) rfl) rfl
theorem gw_2_36 : Cond.static yJ7_fill_d0a16 ∈ GL := GL_2 (List.mem_of_getElem? (i := 36) rfl) rfl
theorem gw_2_28 : Cond.code yX2_fill cX2_fill 5 none ∈ GL := GL_2 (List.mem_of_getElem? (i := 28) rfl) rfl
theorem gw_2_41 : Cond.code yX2_leastBy cX2_leastBy 7 (some .int) ∈ GL := GL_2 (List.mem_of_getElem? (i := 41) rfl) rfl
theorem gw_2_24 : Cond.code yX2_leastRepeats cX2_leastRepeats 6 (some .int) ∈ GL := GL_2 (List.mem_of_getElem? (i := 24) rfl) rfl
theorem gw_1_4 : Cond.initialized RX2 ∈ GL := GL_1 (List.mem_of_getElem? (i := 4) rfl) rfl
theorem gw_2_26 : Cond.instanceMethod yX2_fill ∈ GL := GL_2 (List.mem_of_getElem? (i := 26) rfl) rfl
theorem gw_2_39 : Cond.instanceMethod yX2_leastBy ∈ GL := GL_2 (List.mem_of_getElem? (i := 39) rfl) rfl
theorem gw_2_22 : Cond.methodLink RX2 43 yX2_leastRepeats ∈ GL := GL_2 (List.mem_of_getElem? (i := 22) rfl) rfl
theorem gw_2_25 : Cond.methodLink RX2 46 yX2_fill ∈ GL := GL_2 (List.mem_of_getElem? (i := 25) rfl) rfl
theorem gw_2_38 : Cond.methodLink RX2 49 yX2_leastBy ∈ GL := GL_2 (List.mem_of_getElem? (i := 38) rfl) rfl
theorem gw_2_27 : Cond.selects RX2 yX2_fill yX2_fill ∈ GL := GL_2 (List.mem_of_getElem? (i := 27) rfl) rfl
theorem gw_2_40 : Cond.selects RX2 yX2_leastBy yX2_leastBy ∈ GL := GL_2 (List.mem_of_getElem? (i := 40) rfl) rfl
theorem gw_2_23 : Cond.static yX2_leastRepeats ∈ GL := GL_2 (List.mem_of_getElem? (i := 23) rfl) rfl
theorem gw_2_57 : Cond.code yX4_clear cX4_clear 1 none ∈ GL := GL_2 (List.mem_of_getElem? (i := 57) rfl) rfl
theorem gw_2_55 : Cond.instanceMethod yX4_clear ∈ GL := GL_2 (List.mem_of_getElem? (i := 55) rfl) rfl
theorem gw_2_54 : Cond.methodLink RX3 37 yX4_clear ∈ GL := GL_2 (List.mem_of_getElem? (i := 54) rfl) rfl
theorem gw_2_56 : Cond.selects RX4 yX4_clear yX4_clear ∈ GL := GL_2 (List.mem_of_getElem? (i := 56) rfl) rfl
theorem gw_2_70 : Cond.code yX9_refuse cX9_refuse 3 none ∈ GL := GL_2 (List.mem_of_getElem? (i := 70) rfl) rfl
theorem gw_1_10 : Cond.initialized RX9 ∈ GL := GL_1 (List.mem_of_getElem? (i := 10) rfl) rfl
theorem gw_2_68 : Cond.instanceMethod yX9_refuse ∈ GL := GL_2 (List.mem_of_getElem? (i := 68) rfl) rfl
theorem gw_2_67 : Cond.methodLink RX9 25 yX9_refuse ∈ GL := GL_2 (List.mem_of_getElem? (i := 67) rfl) rfl
theorem gw_2_69 : Cond.selects RX9 yX9_refuse yX9_refuse ∈ GL := GL_2 (List.mem_of_getElem? (i := 69) rfl) rfl
theorem gw_2_49 : Cond.code yX1_clear cX1_clear 1 none ∈ GL := GL_2 (List.mem_of_getElem? (i := 49) rfl) rfl
theorem gw_2_21 : Cond.code yX2_setLimits cX2_setLimits 4 none ∈ GL := GL_2 (List.mem_of_getElem? (i := 21) rfl) rfl
theorem gw_2_53 : Cond.code yX3_begin cX3_begin 1 none ∈ GL := GL_2 (List.mem_of_getElem? (i := 53) rfl) rfl
theorem gw_2_62 : Cond.code yX6_clear cX6_clear 1 none ∈ GL := GL_2 (List.mem_of_getElem? (i := 62) rfl) rfl
theorem gw_2_17 : Cond.code yX7_valueOf cX7_valueOf 2 (some .int) ∈ GL := GL_2 (List.mem_of_getElem? (i := 17) rfl) rfl
theorem gw_2_45 : Cond.code yX8_begin cX8_begin 2 none ∈ GL := GL_2 (List.mem_of_getElem? (i := 45) rfl) rfl
theorem gw_2_66 : Cond.code yX9_begin cX9_begin 1 none ∈ GL := GL_2 (List.mem_of_getElem? (i := 66) rfl) rfl
theorem gw_2_71 : Cond.fieldLink RX10 12 "NoiseWatch$Watch" "settings" "LNoiseWatch$Settings;" ∈ GL := GL_2 (List.mem_of_getElem? (i := 71) rfl) rfl
theorem gw_2_73 : Cond.fieldLink RX10 21 "NoiseWatch$Watch" "limits" "LNoiseWatch$Odds;" ∈ GL := GL_2 (List.mem_of_getElem? (i := 73) rfl) rfl
theorem gw_2_75 : Cond.fieldLink RX10 28 "NoiseWatch$Watch" "source" "LNoiseWatch$Source;" ∈ GL := GL_2 (List.mem_of_getElem? (i := 75) rfl) rfl
theorem gw_2_76 : Cond.fieldLink RX10 35 "NoiseWatch$Watch" "counts" "LNoiseWatch$Counts;" ∈ GL := GL_2 (List.mem_of_getElem? (i := 76) rfl) rfl
theorem gw_2_77 : Cond.fieldLink RX10 42 "NoiseWatch$Watch" "pool" "LNoiseWatch$Pool;" ∈ GL := GL_2 (List.mem_of_getElem? (i := 77) rfl) rfl
theorem gw_2_79 : Cond.fieldLink RX10 49 "NoiseWatch$Watch" "heard" "LNoiseWatch$Queue;" ∈ GL := GL_2 (List.mem_of_getElem? (i := 79) rfl) rfl
theorem gw_2_81 : Cond.fieldLink RX10 56 "NoiseWatch$Watch" "rows" "LNoiseWatch$Rows;" ∈ GL := GL_2 (List.mem_of_getElem? (i := 81) rfl) rfl
theorem gw_2_83 : Cond.fieldLink RX10 63 "NoiseWatch$Watch" "text" "LNoiseWatch$Text;" ∈ GL := GL_2 (List.mem_of_getElem? (i := 83) rfl) rfl
theorem gw_2_85 : Cond.fieldLink RX10 67 "NoiseWatch$Watch" "status" "I" ∈ GL := GL_2 (List.mem_of_getElem? (i := 85) rfl) rfl
theorem gw_2_87 : Cond.fieldLink RX10 71 "NoiseWatch$Watch" "failed" "I" ∈ GL := GL_2 (List.mem_of_getElem? (i := 87) rfl) rfl
theorem gw_2_88 : Cond.fieldLink RX10 74 "NoiseWatch$Watch" "alarms" "I" ∈ GL := GL_2 (List.mem_of_getElem? (i := 88) rfl) rfl
theorem gw_2_89 : Cond.fieldLink RX10 77 "NoiseWatch$Watch" "starts" "I" ∈ GL := GL_2 (List.mem_of_getElem? (i := 89) rfl) rfl
theorem gw_2_91 : Cond.fieldLink RX10 80 "NoiseWatch$Watch" "listened" "I" ∈ GL := GL_2 (List.mem_of_getElem? (i := 91) rfl) rfl
theorem gw_2_92 : Cond.fieldLink RX10 83 "NoiseWatch$Watch" "since" "I" ∈ GL := GL_2 (List.mem_of_getElem? (i := 92) rfl) rfl
theorem gw_1_6 : Cond.initialized RX1 ∈ GL := GL_1 (List.mem_of_getElem? (i := 6) rfl) rfl
theorem gw_1_7 : Cond.initialized RX3 ∈ GL := GL_1 (List.mem_of_getElem? (i := 7) rfl) rfl
theorem gw_1_9 : Cond.initialized RX6 ∈ GL := GL_1 (List.mem_of_getElem? (i := 9) rfl) rfl
theorem gw_1_5 : Cond.initialized RX8 ∈ GL := GL_1 (List.mem_of_getElem? (i := 5) rfl) rfl
theorem gw_2_47 : Cond.instanceMethod yX1_clear ∈ GL := GL_2 (List.mem_of_getElem? (i := 47) rfl) rfl
theorem gw_2_19 : Cond.instanceMethod yX2_setLimits ∈ GL := GL_2 (List.mem_of_getElem? (i := 19) rfl) rfl
theorem gw_2_51 : Cond.instanceMethod yX3_begin ∈ GL := GL_2 (List.mem_of_getElem? (i := 51) rfl) rfl
theorem gw_2_60 : Cond.instanceMethod yX6_clear ∈ GL := GL_2 (List.mem_of_getElem? (i := 60) rfl) rfl
theorem gw_2_15 : Cond.instanceMethod yX7_valueOf ∈ GL := GL_2 (List.mem_of_getElem? (i := 15) rfl) rfl
theorem gw_2_43 : Cond.instanceMethod yX8_begin ∈ GL := GL_2 (List.mem_of_getElem? (i := 43) rfl) rfl
theorem gw_2_64 : Cond.instanceMethod yX9_begin ∈ GL := GL_2 (List.mem_of_getElem? (i := 64) rfl) rfl
theorem gw_2_46 : Cond.methodLink RX10 100 yX1_clear ∈ GL := GL_2 (List.mem_of_getElem? (i := 46) rfl) rfl
theorem gw_2_50 : Cond.methodLink RX10 103 yX3_begin ∈ GL := GL_2 (List.mem_of_getElem? (i := 50) rfl) rfl
theorem gw_2_58 : Cond.methodLink RX10 104 yX4_clear ∈ GL := GL_2 (List.mem_of_getElem? (i := 58) rfl) rfl
theorem gw_2_59 : Cond.methodLink RX10 105 yX6_clear ∈ GL := GL_2 (List.mem_of_getElem? (i := 59) rfl) rfl
theorem gw_2_63 : Cond.methodLink RX10 106 yX9_begin ∈ GL := GL_2 (List.mem_of_getElem? (i := 63) rfl) rfl
theorem gw_2_14 : Cond.methodLink RX10 89 yX7_valueOf ∈ GL := GL_2 (List.mem_of_getElem? (i := 14) rfl) rfl
theorem gw_2_18 : Cond.methodLink RX10 93 yX2_setLimits ∈ GL := GL_2 (List.mem_of_getElem? (i := 18) rfl) rfl
theorem gw_2_42 : Cond.methodLink RX10 97 yX8_begin ∈ GL := GL_2 (List.mem_of_getElem? (i := 42) rfl) rfl
theorem gw_2_48 : Cond.selects RX1 yX1_clear yX1_clear ∈ GL := GL_2 (List.mem_of_getElem? (i := 48) rfl) rfl
theorem gw_2_20 : Cond.selects RX2 yX2_setLimits yX2_setLimits ∈ GL := GL_2 (List.mem_of_getElem? (i := 20) rfl) rfl
theorem gw_2_52 : Cond.selects RX3 yX3_begin yX3_begin ∈ GL := GL_2 (List.mem_of_getElem? (i := 52) rfl) rfl
theorem gw_2_61 : Cond.selects RX6 yX6_clear yX6_clear ∈ GL := GL_2 (List.mem_of_getElem? (i := 61) rfl) rfl
theorem gw_2_16 : Cond.selects RX7 yX7_valueOf yX7_valueOf ∈ GL := GL_2 (List.mem_of_getElem? (i := 16) rfl) rfl
theorem gw_2_44 : Cond.selects RX8 yX8_begin yX8_begin ∈ GL := GL_2 (List.mem_of_getElem? (i := 44) rfl) rfl
theorem gw_2_65 : Cond.selects RX9 yX9_begin yX9_begin ∈ GL := GL_2 (List.mem_of_getElem? (i := 65) rfl) rfl
theorem gw_1_75 : Cond.classLink RX10 18 RX2 ∈ GL := GL_1 (List.mem_of_getElem? (i := 75) rfl) rfl
theorem gw_1_104 : Cond.classLink RX10 25 RX8 ∈ GL := GL_1 (List.mem_of_getElem? (i := 104) rfl) rfl
theorem gw_1_121 : Cond.classLink RX10 32 RX1 ∈ GL := GL_1 (List.mem_of_getElem? (i := 121) rfl) rfl
theorem gw_1_153 : Cond.classLink RX10 39 RX3 ∈ GL := GL_1 (List.mem_of_getElem? (i := 153) rfl) rfl
theorem gw_1_208 : Cond.classLink RX10 46 RX4 ∈ GL := GL_1 (List.mem_of_getElem? (i := 208) rfl) rfl
theorem gw_1_210 : Cond.classLink RX10 53 RX6 ∈ GL := GL_1 (List.mem_of_getElem? (i := 210) rfl) rfl
theorem gw_1_227 : Cond.classLink RX10 60 RX9 ∈ GL := GL_1 (List.mem_of_getElem? (i := 227) rfl) rfl
theorem gw_1_40 : Cond.classLink RX10 9 RX7 ∈ GL := GL_1 (List.mem_of_getElem? (i := 40) rfl) rfl
theorem gw_2_13 : Cond.code yX10_begin cX10_begin 1 none ∈ GL := GL_2 (List.mem_of_getElem? (i := 13) rfl) rfl
theorem gw_1_125 : Cond.code yX1_init cX1_init 1 none ∈ GL := GL_1 (List.mem_of_getElem? (i := 125) rfl) rfl
theorem gw_1_79 : Cond.code yX2_init cX2_init 1 none ∈ GL := GL_1 (List.mem_of_getElem? (i := 79) rfl) rfl
theorem gw_1_157 : Cond.code yX3_init cX3_init 1 none ∈ GL := GL_1 (List.mem_of_getElem? (i := 157) rfl) rfl
theorem gw_1_214 : Cond.code yX6_init cX6_init 1 none ∈ GL := GL_1 (List.mem_of_getElem? (i := 214) rfl) rfl
theorem gw_1_108 : Cond.code yX8_init cX8_init 1 none ∈ GL := GL_1 (List.mem_of_getElem? (i := 108) rfl) rfl
theorem gw_1_231 : Cond.code yX9_init cX9_init 1 none ∈ GL := GL_1 (List.mem_of_getElem? (i := 231) rfl) rfl
theorem gw_1_2 : Cond.initialized RX10 ∈ GL := GL_1 (List.mem_of_getElem? (i := 2) rfl) rfl
theorem gw_2_11 : Cond.instanceMethod yX10_begin ∈ GL := GL_2 (List.mem_of_getElem? (i := 11) rfl) rfl
theorem gw_1_124 : Cond.instanceMethod yX1_init ∈ GL := GL_1 (List.mem_of_getElem? (i := 124) rfl) rfl
theorem gw_1_78 : Cond.instanceMethod yX2_init ∈ GL := GL_1 (List.mem_of_getElem? (i := 78) rfl) rfl
theorem gw_1_156 : Cond.instanceMethod yX3_init ∈ GL := GL_1 (List.mem_of_getElem? (i := 156) rfl) rfl
theorem gw_1_213 : Cond.instanceMethod yX6_init ∈ GL := GL_1 (List.mem_of_getElem? (i := 213) rfl) rfl
theorem gw_1_107 : Cond.instanceMethod yX8_init ∈ GL := GL_1 (List.mem_of_getElem? (i := 107) rfl) rfl
theorem gw_1_230 : Cond.instanceMethod yX9_init ∈ GL := GL_1 (List.mem_of_getElem? (i := 230) rfl) rfl
theorem gw_1_122 : Cond.instantiable RX1 6 ∈ GL := GL_1 (List.mem_of_getElem? (i := 122) rfl) rfl
theorem gw_1_76 : Cond.instantiable RX2 5 ∈ GL := GL_1 (List.mem_of_getElem? (i := 76) rfl) rfl
theorem gw_1_154 : Cond.instantiable RX3 7 ∈ GL := GL_1 (List.mem_of_getElem? (i := 154) rfl) rfl
theorem gw_1_211 : Cond.instantiable RX6 3 ∈ GL := GL_1 (List.mem_of_getElem? (i := 211) rfl) rfl
theorem gw_1_105 : Cond.instantiable RX8 3 ∈ GL := GL_1 (List.mem_of_getElem? (i := 105) rfl) rfl
theorem gw_1_228 : Cond.instantiable RX9 4 ∈ GL := GL_1 (List.mem_of_getElem? (i := 228) rfl) rfl
theorem gw_1_39 : Cond.methodLink RX10 3 objectInit ∈ GL := GL_1 (List.mem_of_getElem? (i := 39) rfl) rfl
theorem gw_2_10 : Cond.methodLink RX10 86 yX10_begin ∈ GL := GL_2 (List.mem_of_getElem? (i := 10) rfl) rfl
theorem gw_2_12 : Cond.selects RX10 yX10_begin yX10_begin ∈ GL := GL_2 (List.mem_of_getElem? (i := 12) rfl) rfl
theorem gw_2_123 : Cond.classLink RX11 23 RX5 ∈ GL := GL_2 (List.mem_of_getElem? (i := 123) rfl) rfl
theorem gw_2_159 : Cond.classLink RX11 30 RX0 ∈ GL := GL_2 (List.mem_of_getElem? (i := 159) rfl) rfl
theorem gw_2_183 : Cond.classLink RX11 37 RX2 ∈ GL := GL_2 (List.mem_of_getElem? (i := 183) rfl) rfl
theorem gw_2_185 : Cond.classLink RX11 44 RX1 ∈ GL := GL_2 (List.mem_of_getElem? (i := 185) rfl) rfl
theorem gw_1_34 : Cond.classLink RX11 7 RX10 ∈ GL := GL_1 (List.mem_of_getElem? (i := 34) rfl) rfl
theorem gw_2_163 : Cond.code yX0_init cX0_init 1 none ∈ GL := GL_2 (List.mem_of_getElem? (i := 163) rfl) rfl
theorem gw_1_38 : Cond.code yX10_init cX10_init 1 none ∈ GL := GL_1 (List.mem_of_getElem? (i := 38) rfl) rfl
theorem gw_2_127 : Cond.code yX5_init cX5_init 1 none ∈ GL := GL_2 (List.mem_of_getElem? (i := 127) rfl) rfl
theorem gw_2_187 : Cond.fieldLink RX11 10 "NoiseWatch" "now" "LNoiseWatch$Watch;" ∈ GL := GL_2 (List.mem_of_getElem? (i := 187) rfl) rfl
theorem gw_2_188 : Cond.fieldLink RX11 16 "NoiseWatch" "trial" "LNoiseWatch$Watch;" ∈ GL := GL_2 (List.mem_of_getElem? (i := 188) rfl) rfl
theorem gw_2_189 : Cond.fieldLink RX11 19 "NoiseWatch" "kept" "[LNoiseWatch$Watch;" ∈ GL := GL_2 (List.mem_of_getElem? (i := 189) rfl) rfl
theorem gw_2_190 : Cond.fieldLink RX11 26 "NoiseWatch" "reader" "LNoiseWatch$Reader;" ∈ GL := GL_2 (List.mem_of_getElem? (i := 190) rfl) rfl
theorem gw_2_191 : Cond.fieldLink RX11 33 "NoiseWatch" "bounds" "LNoiseWatch$Bounds;" ∈ GL := GL_2 (List.mem_of_getElem? (i := 191) rfl) rfl
theorem gw_2_192 : Cond.fieldLink RX11 40 "NoiseWatch" "odds" "LNoiseWatch$Odds;" ∈ GL := GL_2 (List.mem_of_getElem? (i := 192) rfl) rfl
theorem gw_2_193 : Cond.fieldLink RX11 47 "NoiseWatch" "counts" "LNoiseWatch$Counts;" ∈ GL := GL_2 (List.mem_of_getElem? (i := 193) rfl) rfl
theorem gw_2_194 : Cond.fieldLink RX11 51 "NoiseWatch" "peaks" "LNoiseWatch$Counts;" ∈ GL := GL_2 (List.mem_of_getElem? (i := 194) rfl) rfl
theorem gw_1_14 : Cond.initialized RX0 ∈ GL := GL_1 (List.mem_of_getElem? (i := 14) rfl) rfl
theorem gw_1_13 : Cond.initialized RX5 ∈ GL := GL_1 (List.mem_of_getElem? (i := 13) rfl) rfl
theorem gw_2_162 : Cond.instanceMethod yX0_init ∈ GL := GL_2 (List.mem_of_getElem? (i := 162) rfl) rfl
theorem gw_1_37 : Cond.instanceMethod yX10_init ∈ GL := GL_1 (List.mem_of_getElem? (i := 37) rfl) rfl
theorem gw_2_126 : Cond.instanceMethod yX5_init ∈ GL := GL_2 (List.mem_of_getElem? (i := 126) rfl) rfl
theorem gw_2_160 : Cond.instantiable RX0 5 ∈ GL := GL_2 (List.mem_of_getElem? (i := 160) rfl) rfl
theorem gw_1_35 : Cond.instantiable RX10 14 ∈ GL := GL_1 (List.mem_of_getElem? (i := 35) rfl) rfl
theorem gw_2_124 : Cond.instantiable RX5 8 ∈ GL := GL_2 (List.mem_of_getElem? (i := 124) rfl) rfl
theorem gw_1_31 : Cond.methodLink RX11 1 objectInit ∈ GL := GL_1 (List.mem_of_getElem? (i := 31) rfl) rfl
theorem gw_1_36 : Cond.methodLink RX11 9 yX10_init ∈ GL := GL_1 (List.mem_of_getElem? (i := 36) rfl) rfl
theorem gw_5_128 : Cond.fieldLink RX12 21 "NoiseWatchModel" "told" "[I" ∈ GL := GL_5 (List.mem_of_getElem? (i := 128) rfl) rfl
theorem gw_5_119 : Cond.fieldLink RX12 39 "NoiseWatchModel" "reached" "I" ∈ GL := GL_5 (List.mem_of_getElem? (i := 119) rfl) rfl
theorem gw_5_127 : Cond.fieldLink RX12 69 "NoiseWatchModel" "bad" "I" ∈ GL := GL_5 (List.mem_of_getElem? (i := 127) rfl) rfl
theorem gw_5_126 : Cond.fieldLink RX12 72 "NoiseWatchModel" "badAt" "I" ∈ GL := GL_5 (List.mem_of_getElem? (i := 126) rfl) rfl
theorem gw_5_116 : Cond.fieldLink RX12 7 "NoiseWatchModel" "all" "[I" ∈ GL := GL_5 (List.mem_of_getElem? (i := 116) rfl) rfl
theorem gw_5_182 : Cond.arrayClass .boolean ∈ GL := GL_5 (List.mem_of_getElem? (i := 182) rfl) rfl
theorem gw_3_128 : Cond.arrayClass .byte ∈ GL := GL_3 (List.mem_of_getElem? (i := 128) rfl) rfl
theorem gw_5_110 : Cond.code yX12_atFirst cX12_atFirst 2 none ∈ GL := GL_5 (List.mem_of_getElem? (i := 110) rfl) rfl
theorem gw_5_114 : Cond.code yX12_taken cX12_taken 2 none ∈ GL := GL_5 (List.mem_of_getElem? (i := 114) rfl) rfl
theorem gw_5_117 : Cond.fieldLink RX12 13 "NoiseWatchModel" "text" "[B" ∈ GL := GL_5 (List.mem_of_getElem? (i := 117) rfl) rfl
theorem gw_5_118 : Cond.fieldLink RX12 17 "NoiseWatchModel" "saved" "[Z" ∈ GL := GL_5 (List.mem_of_getElem? (i := 118) rfl) rfl
theorem gw_5_136 : Cond.fieldLink RX12 24 "NoiseWatchModel" "tuples" "[I" ∈ GL := GL_5 (List.mem_of_getElem? (i := 136) rfl) rfl
theorem gw_1_15 : Cond.initialized RX12 ∈ GL := GL_1 (List.mem_of_getElem? (i := 15) rfl) rfl
theorem gw_5_109 : Cond.instanceMethod yX12_atFirst ∈ GL := GL_5 (List.mem_of_getElem? (i := 109) rfl) rfl
theorem gw_5_113 : Cond.instanceMethod yX12_taken ∈ GL := GL_5 (List.mem_of_getElem? (i := 113) rfl) rfl
theorem gw_5_106 : Cond.methodLink RX12 1 objectInit ∈ GL := GL_5 (List.mem_of_getElem? (i := 106) rfl) rfl
theorem gw_5_107 : Cond.methodLink RX12 27 yX12_atFirst ∈ GL := GL_5 (List.mem_of_getElem? (i := 107) rfl) rfl
theorem gw_5_111 : Cond.methodLink RX12 30 yX12_taken ∈ GL := GL_5 (List.mem_of_getElem? (i := 111) rfl) rfl
theorem gw_s_2_10 : Cond.selects RX12 yX12_atFirst yX12_atFirst ∈ GL := GL_s2 (q := (yX12_atFirst, 22)) (List.mem_of_getElem? (i := 10) rfl)
theorem gw_s_2_11 : Cond.selects RX12 yX12_taken yX12_taken ∈ GL := GL_s2 (q := (yX12_taken, 22)) (List.mem_of_getElem? (i := 11) rfl)
theorem gw_2_222 : Cond.code yX9_byteOf cX9_byteOf 3 (some .int) ∈ GL := GL_2 (List.mem_of_getElem? (i := 222) rfl) rfl
theorem gw_2_220 : Cond.methodLink RX9 29 yX9_byteOf ∈ GL := GL_2 (List.mem_of_getElem? (i := 220) rfl) rfl
theorem gw_2_221 : Cond.static yX9_byteOf ∈ GL := GL_2 (List.mem_of_getElem? (i := 221) rfl) rfl
theorem gw_2_219 : Cond.code yX9_append cX9_append 5 (some .int) ∈ GL := GL_2 (List.mem_of_getElem? (i := 219) rfl) rfl
theorem gw_2_217 : Cond.instanceMethod yX9_append ∈ GL := GL_2 (List.mem_of_getElem? (i := 217) rfl) rfl
theorem gw_2_216 : Cond.methodLink RX11 58 yX9_append ∈ GL := GL_2 (List.mem_of_getElem? (i := 216) rfl) rfl
theorem gw_2_218 : Cond.selects RX9 yX9_append yX9_append ∈ GL := GL_2 (List.mem_of_getElem? (i := 218) rfl) rfl
theorem gw_1_16 : Cond.initialized "java/lang/System" ∈ GL := GL_1 (List.mem_of_getElem? (i := 16) rfl) rfl
theorem gw_2_235 : Cond.methodLink RX7 36 Lib.Math.min.name ∈ GL := GL_2 (List.mem_of_getElem? (i := 235) rfl) rfl
theorem gw_2_236 : Cond.methodLink RX7 42 arraycopyName ∈ GL := GL_2 (List.mem_of_getElem? (i := 236) rfl) rfl
theorem gw_2_238 : Cond.native arraycopyName ∈ GL := GL_2 (List.mem_of_getElem? (i := 238) rfl) rfl
theorem gw_2_237 : Cond.static arraycopyName ∈ GL := GL_2 (List.mem_of_getElem? (i := 237) rfl) rfl
theorem gw_3_12 : Cond.code yX5_isLetter cX5_isLetter 1 (some .boolean) ∈ GL := GL_3 (List.mem_of_getElem? (i := 12) rfl) rfl
theorem gw_3_6 : Cond.code yX9_byteAt cX9_byteAt 2 (some .int) ∈ GL := GL_3 (List.mem_of_getElem? (i := 6) rfl) rfl
theorem gw_3_4 : Cond.instanceMethod yX9_byteAt ∈ GL := GL_3 (List.mem_of_getElem? (i := 4) rfl) rfl
theorem gw_3_3 : Cond.methodLink RX5 89 yX9_byteAt ∈ GL := GL_3 (List.mem_of_getElem? (i := 3) rfl) rfl
theorem gw_3_10 : Cond.methodLink RX5 97 yX5_isLetter ∈ GL := GL_3 (List.mem_of_getElem? (i := 10) rfl) rfl
theorem gw_3_5 : Cond.selects RX9 yX9_byteAt yX9_byteAt ∈ GL := GL_3 (List.mem_of_getElem? (i := 5) rfl) rfl
theorem gw_3_11 : Cond.static yX5_isLetter ∈ GL := GL_3 (List.mem_of_getElem? (i := 11) rfl) rfl
theorem gw_3_19 : Cond.code yX5_isDigit cX5_isDigit 1 (some .boolean) ∈ GL := GL_3 (List.mem_of_getElem? (i := 19) rfl) rfl
theorem gw_3_17 : Cond.methodLink RX5 103 yX5_isDigit ∈ GL := GL_3 (List.mem_of_getElem? (i := 17) rfl) rfl
theorem gw_3_18 : Cond.static yX5_isDigit ∈ GL := GL_3 (List.mem_of_getElem? (i := 18) rfl) rfl
theorem gw_3_9 : Cond.code yX5_isBlank cX5_isBlank 1 (some .boolean) ∈ GL := GL_3 (List.mem_of_getElem? (i := 9) rfl) rfl
theorem gw_3_23 : Cond.code yX5_passNumber cX5_passNumber 2 none ∈ GL := GL_3 (List.mem_of_getElem? (i := 23) rfl) rfl
theorem gw_3_16 : Cond.code yX5_passWord cX5_passWord 2 none ∈ GL := GL_3 (List.mem_of_getElem? (i := 16) rfl) rfl
theorem gw_3_22 : Cond.instanceMethod yX5_passNumber ∈ GL := GL_3 (List.mem_of_getElem? (i := 22) rfl) rfl
theorem gw_3_15 : Cond.instanceMethod yX5_passWord ∈ GL := GL_3 (List.mem_of_getElem? (i := 15) rfl) rfl
theorem gw_3_13 : Cond.methodLink RX5 100 yX5_passWord ∈ GL := GL_3 (List.mem_of_getElem? (i := 13) rfl) rfl
theorem gw_3_20 : Cond.methodLink RX5 106 yX5_passNumber ∈ GL := GL_3 (List.mem_of_getElem? (i := 20) rfl) rfl
theorem gw_3_7 : Cond.methodLink RX5 93 yX5_isBlank ∈ GL := GL_3 (List.mem_of_getElem? (i := 7) rfl) rfl
theorem gw_s_1_2 : Cond.selects RX5 yX5_passNumber yX5_passNumber ∈ GL := GL_s1 (q := (yX5_passNumber, 8)) (List.mem_of_getElem? (i := 2) rfl)
theorem gw_s_1_1 : Cond.selects RX5 yX5_passWord yX5_passWord ∈ GL := GL_s1 (q := (yX5_passWord, 8)) (List.mem_of_getElem? (i := 1) rfl)
theorem gw_3_8 : Cond.static yX5_isBlank ∈ GL := GL_3 (List.mem_of_getElem? (i := 8) rfl) rfl
theorem gw_3_63 : Cond.code yJ0_charAt_5068e cJ0_charAt_5068e 2 (some .char) ∈ GL := GL_3 (List.mem_of_getElem? (i := 63) rfl) rfl
theorem gw_3_52 : Cond.code yJ0_length_8abf5 cJ0_length_8abf5 1 (some .int) ∈ GL := GL_3 (List.mem_of_getElem? (i := 52) rfl) rfl
theorem gw_3_61 : Cond.instanceMethod yJ0_charAt_5068e ∈ GL := GL_3 (List.mem_of_getElem? (i := 61) rfl) rfl
theorem gw_3_50 : Cond.instanceMethod yJ0_length_8abf5 ∈ GL := GL_3 (List.mem_of_getElem? (i := 50) rfl) rfl
theorem gw_3_49 : Cond.methodLink RX9 33 yJ0_length_8abf5 ∈ GL := GL_3 (List.mem_of_getElem? (i := 49) rfl) rfl
theorem gw_3_59 : Cond.methodLink RX9 39 yX9_byteAt ∈ GL := GL_3 (List.mem_of_getElem? (i := 59) rfl) rfl
theorem gw_3_60 : Cond.methodLink RX9 43 yJ0_charAt_5068e ∈ GL := GL_3 (List.mem_of_getElem? (i := 60) rfl) rfl
theorem gw_3_62 : Cond.selects RJ0 yJ0_charAt_5068e yJ0_charAt_5068e ∈ GL := GL_3 (List.mem_of_getElem? (i := 62) rfl) rfl
theorem gw_3_51 : Cond.selects RJ0 yJ0_length_8abf5 yJ0_length_8abf5 ∈ GL := GL_3 (List.mem_of_getElem? (i := 51) rfl) rfl
theorem gw_3_34 : Cond.code yX5_wordOf cX5_wordOf 1 (some (.object "java/lang/String")) ∈ GL := GL_3 (List.mem_of_getElem? (i := 34) rfl) rfl
theorem gw_3_48 : Cond.code yX9_hasWord cX9_hasWord 5 (some .boolean) ∈ GL := GL_3 (List.mem_of_getElem? (i := 48) rfl) rfl
theorem gw_3_46 : Cond.instanceMethod yX9_hasWord ∈ GL := GL_3 (List.mem_of_getElem? (i := 46) rfl) rfl
theorem gw_3_32 : Cond.methodLink RX5 109 yX5_wordOf ∈ GL := GL_3 (List.mem_of_getElem? (i := 32) rfl) rfl
theorem gw_3_45 : Cond.methodLink RX5 113 yX9_hasWord ∈ GL := GL_3 (List.mem_of_getElem? (i := 45) rfl) rfl
theorem gw_3_47 : Cond.selects RX9 yX9_hasWord yX9_hasWord ∈ GL := GL_3 (List.mem_of_getElem? (i := 47) rfl) rfl
theorem gw_3_33 : Cond.static yX5_wordOf ∈ GL := GL_3 (List.mem_of_getElem? (i := 33) rfl) rfl
theorem gw_3_117 : Cond.code yX7_addStuck cX7_addStuck 4 none ∈ GL := GL_3 (List.mem_of_getElem? (i := 117) rfl) rfl
theorem gw_3_121 : Cond.code yX7_setValue cX7_setValue 3 none ∈ GL := GL_3 (List.mem_of_getElem? (i := 121) rfl) rfl
theorem gw_3_115 : Cond.instanceMethod yX7_addStuck ∈ GL := GL_3 (List.mem_of_getElem? (i := 115) rfl) rfl
theorem gw_3_119 : Cond.instanceMethod yX7_setValue ∈ GL := GL_3 (List.mem_of_getElem? (i := 119) rfl) rfl
theorem gw_3_114 : Cond.methodLink RX5 76 yX7_addStuck ∈ GL := GL_3 (List.mem_of_getElem? (i := 114) rfl) rfl
theorem gw_3_118 : Cond.methodLink RX5 80 yX7_setValue ∈ GL := GL_3 (List.mem_of_getElem? (i := 118) rfl) rfl
theorem gw_3_116 : Cond.selects RX7 yX7_addStuck yX7_addStuck ∈ GL := GL_3 (List.mem_of_getElem? (i := 116) rfl) rfl
theorem gw_3_120 : Cond.selects RX7 yX7_setValue yX7_setValue ∈ GL := GL_3 (List.mem_of_getElem? (i := 120) rfl) rfl
theorem gw_3_105 : Cond.code yX5_canBe cX5_canBe 3 (some .boolean) ∈ GL := GL_3 (List.mem_of_getElem? (i := 105) rfl) rfl
theorem gw_3_2 : Cond.code yX5_nextToken cX5_nextToken 3 none ∈ GL := GL_3 (List.mem_of_getElem? (i := 2) rfl) rfl
theorem gw_3_101 : Cond.code yX5_note cX5_note 2 none ∈ GL := GL_3 (List.mem_of_getElem? (i := 101) rfl) rfl
theorem gw_3_113 : Cond.code yX5_putNumbers cX5_putNumbers 2 none ∈ GL := GL_3 (List.mem_of_getElem? (i := 113) rfl) rfl
theorem gw_3_31 : Cond.code yX5_settingOf cX5_settingOf 3 (some .int) ∈ GL := GL_3 (List.mem_of_getElem? (i := 31) rfl) rfl
theorem gw_3_104 : Cond.instanceMethod yX5_canBe ∈ GL := GL_3 (List.mem_of_getElem? (i := 104) rfl) rfl
theorem gw_3_1 : Cond.instanceMethod yX5_nextToken ∈ GL := GL_3 (List.mem_of_getElem? (i := 1) rfl) rfl
theorem gw_3_100 : Cond.instanceMethod yX5_note ∈ GL := GL_3 (List.mem_of_getElem? (i := 100) rfl) rfl
theorem gw_3_112 : Cond.instanceMethod yX5_putNumbers ∈ GL := GL_3 (List.mem_of_getElem? (i := 112) rfl) rfl
theorem gw_3_30 : Cond.instanceMethod yX5_settingOf ∈ GL := GL_3 (List.mem_of_getElem? (i := 30) rfl) rfl
theorem gw_2_239 : Cond.methodLink RX5 44 yX5_nextToken ∈ GL := GL_2 (List.mem_of_getElem? (i := 239) rfl) rfl
theorem gw_3_28 : Cond.methodLink RX5 52 yX5_settingOf ∈ GL := GL_3 (List.mem_of_getElem? (i := 28) rfl) rfl
theorem gw_3_98 : Cond.methodLink RX5 59 yX5_note ∈ GL := GL_3 (List.mem_of_getElem? (i := 98) rfl) rfl
theorem gw_3_102 : Cond.methodLink RX5 63 yX5_canBe ∈ GL := GL_3 (List.mem_of_getElem? (i := 102) rfl) rfl
theorem gw_3_110 : Cond.methodLink RX5 67 yX5_putNumbers ∈ GL := GL_3 (List.mem_of_getElem? (i := 110) rfl) rfl
theorem gw_s_1_6 : Cond.selects RX5 yX5_canBe yX5_canBe ∈ GL := GL_s1 (q := (yX5_canBe, 8)) (List.mem_of_getElem? (i := 6) rfl)
theorem gw_s_1_0 : Cond.selects RX5 yX5_nextToken yX5_nextToken ∈ GL := GL_s1 (q := (yX5_nextToken, 8)) (List.mem_of_getElem? (i := 0) rfl)
theorem gw_s_1_5 : Cond.selects RX5 yX5_note yX5_note ∈ GL := GL_s1 (q := (yX5_note, 8)) (List.mem_of_getElem? (i := 5) rfl)
theorem gw_s_1_7 : Cond.selects RX5 yX5_putNumbers yX5_putNumbers ∈ GL := GL_s1 (q := (yX5_putNumbers, 8)) (List.mem_of_getElem? (i := 7) rfl)
theorem gw_s_1_4 : Cond.selects RX5 yX5_settingOf yX5_settingOf ∈ GL := GL_s1 (q := (yX5_settingOf, 8)) (List.mem_of_getElem? (i := 4) rfl)
theorem gw_3_27 : Cond.code yX5_readSetting cX5_readSetting 5 (some .boolean) ∈ GL := GL_3 (List.mem_of_getElem? (i := 27) rfl) rfl
theorem gw_2_234 : Cond.code yX7_setFirst cX7_setFirst 1 none ∈ GL := GL_2 (List.mem_of_getElem? (i := 234) rfl) rfl
theorem gw_3_26 : Cond.instanceMethod yX5_readSetting ∈ GL := GL_3 (List.mem_of_getElem? (i := 26) rfl) rfl
theorem gw_2_232 : Cond.instanceMethod yX7_setFirst ∈ GL := GL_2 (List.mem_of_getElem? (i := 232) rfl) rfl
theorem gw_2_231 : Cond.methodLink RX5 41 yX7_setFirst ∈ GL := GL_2 (List.mem_of_getElem? (i := 231) rfl) rfl
theorem gw_3_24 : Cond.methodLink RX5 48 yX5_readSetting ∈ GL := GL_3 (List.mem_of_getElem? (i := 24) rfl) rfl
theorem gw_s_1_3 : Cond.selects RX5 yX5_readSetting yX5_readSetting ∈ GL := GL_s1 (q := (yX5_readSetting, 8)) (List.mem_of_getElem? (i := 3) rfl)
theorem gw_2_233 : Cond.selects RX7 yX7_setFirst yX7_setFirst ∈ GL := GL_2 (List.mem_of_getElem? (i := 233) rfl) rfl
theorem gw_2_230 : Cond.code yX5_read cX5_read 3 (some .boolean) ∈ GL := GL_2 (List.mem_of_getElem? (i := 230) rfl) rfl
theorem gw_3_126 : Cond.code yX7_copyFrom cX7_copyFrom 2 none ∈ GL := GL_3 (List.mem_of_getElem? (i := 126) rfl) rfl
theorem gw_2_228 : Cond.instanceMethod yX5_read ∈ GL := GL_2 (List.mem_of_getElem? (i := 228) rfl) rfl
theorem gw_3_124 : Cond.instanceMethod yX7_copyFrom ∈ GL := GL_3 (List.mem_of_getElem? (i := 124) rfl) rfl
theorem gw_2_227 : Cond.methodLink RX11 64 yX5_read ∈ GL := GL_2 (List.mem_of_getElem? (i := 227) rfl) rfl
theorem gw_3_122 : Cond.methodLink RX11 75 yX9_refuse ∈ GL := GL_3 (List.mem_of_getElem? (i := 122) rfl) rfl
theorem gw_3_123 : Cond.methodLink RX11 86 yX7_copyFrom ∈ GL := GL_3 (List.mem_of_getElem? (i := 123) rfl) rfl
theorem gw_3_127 : Cond.methodLink RX11 92 yX10_begin ∈ GL := GL_3 (List.mem_of_getElem? (i := 127) rfl) rfl
theorem gw_2_229 : Cond.selects RX5 yX5_read yX5_read ∈ GL := GL_2 (List.mem_of_getElem? (i := 229) rfl) rfl
theorem gw_3_125 : Cond.selects RX7 yX7_copyFrom yX7_copyFrom ∈ GL := GL_3 (List.mem_of_getElem? (i := 125) rfl) rfl
theorem gw_3_149 : Cond.methodLink RX6 22 arraycopyName ∈ GL := GL_3 (List.mem_of_getElem? (i := 149) rfl) rfl
theorem gw_3_144 : Cond.code yX3_lose cX3_lose 1 none ∈ GL := GL_3 (List.mem_of_getElem? (i := 144) rfl) rfl
theorem gw_3_148 : Cond.code yX6_open cX6_open 1 none ∈ GL := GL_3 (List.mem_of_getElem? (i := 148) rfl) rfl
theorem gw_3_142 : Cond.instanceMethod yX3_lose ∈ GL := GL_3 (List.mem_of_getElem? (i := 142) rfl) rfl
theorem gw_3_146 : Cond.instanceMethod yX6_open ∈ GL := GL_3 (List.mem_of_getElem? (i := 146) rfl) rfl
theorem gw_3_141 : Cond.methodLink RX10 107 yX3_lose ∈ GL := GL_3 (List.mem_of_getElem? (i := 141) rfl) rfl
theorem gw_3_145 : Cond.methodLink RX10 110 yX6_open ∈ GL := GL_3 (List.mem_of_getElem? (i := 145) rfl) rfl
theorem gw_3_143 : Cond.selects RX3 yX3_lose yX3_lose ∈ GL := GL_3 (List.mem_of_getElem? (i := 143) rfl) rfl
theorem gw_3_147 : Cond.selects RX6 yX6_open yX6_open ∈ GL := GL_3 (List.mem_of_getElem? (i := 147) rfl) rfl
theorem gw_3_140 : Cond.code yX10_beginStart cX10_beginStart 1 none ∈ GL := GL_3 (List.mem_of_getElem? (i := 140) rfl) rfl
theorem gw_3_138 : Cond.instanceMethod yX10_beginStart ∈ GL := GL_3 (List.mem_of_getElem? (i := 138) rfl) rfl
theorem gw_3_137 : Cond.methodLink RX11 100 yX10_beginStart ∈ GL := GL_3 (List.mem_of_getElem? (i := 137) rfl) rfl
theorem gw_3_139 : Cond.selects RX10 yX10_beginStart yX10_beginStart ∈ GL := GL_3 (List.mem_of_getElem? (i := 139) rfl) rfl
theorem gw_3_157 : Cond.code yX10_turnOff cX10_turnOff 1 none ∈ GL := GL_3 (List.mem_of_getElem? (i := 157) rfl) rfl
theorem gw_3_155 : Cond.instanceMethod yX10_turnOff ∈ GL := GL_3 (List.mem_of_getElem? (i := 155) rfl) rfl
theorem gw_3_154 : Cond.methodLink RX11 109 yX10_turnOff ∈ GL := GL_3 (List.mem_of_getElem? (i := 154) rfl) rfl
theorem gw_3_156 : Cond.selects RX10 yX10_turnOff yX10_turnOff ∈ GL := GL_3 (List.mem_of_getElem? (i := 156) rfl) rfl
theorem gw_3_174 : Cond.constant RX8 35 (1103515245) ∈ GL := GL_3 (List.mem_of_getElem? (i := 174) rfl) rfl
theorem gw_3_179 : Cond.code yX7_stuckAt cX7_stuckAt 4 (some .int) ∈ GL := GL_3 (List.mem_of_getElem? (i := 179) rfl) rfl
theorem gw_3_173 : Cond.code yX8_belowSixteen cX8_belowSixteen 1 (some .int) ∈ GL := GL_3 (List.mem_of_getElem? (i := 173) rfl) rfl
theorem gw_3_177 : Cond.instanceMethod yX7_stuckAt ∈ GL := GL_3 (List.mem_of_getElem? (i := 177) rfl) rfl
theorem gw_3_172 : Cond.instanceMethod yX8_belowSixteen ∈ GL := GL_3 (List.mem_of_getElem? (i := 172) rfl) rfl
theorem gw_3_170 : Cond.methodLink RX8 21 yX8_belowSixteen ∈ GL := GL_3 (List.mem_of_getElem? (i := 170) rfl) rfl
theorem gw_3_175 : Cond.methodLink RX8 25 yX7_valueOf ∈ GL := GL_3 (List.mem_of_getElem? (i := 175) rfl) rfl
theorem gw_3_176 : Cond.methodLink RX8 31 yX7_stuckAt ∈ GL := GL_3 (List.mem_of_getElem? (i := 176) rfl) rfl
theorem gw_3_178 : Cond.selects RX7 yX7_stuckAt yX7_stuckAt ∈ GL := GL_3 (List.mem_of_getElem? (i := 178) rfl) rfl
theorem gw_s_1_8 : Cond.selects RX8 yX8_belowSixteen yX8_belowSixteen ∈ GL := GL_s1 (q := (yX8_belowSixteen, 3)) (List.mem_of_getElem? (i := 8) rfl)
theorem gw_3_218 : Cond.methodLink RX7 48 yX7_valueOf ∈ GL := GL_3 (List.mem_of_getElem? (i := 218) rfl) rfl
theorem gw_3_222 : Cond.code yX7_earned cX7_earned 1 (some .int) ∈ GL := GL_3 (List.mem_of_getElem? (i := 222) rfl) rfl
theorem gw_3_220 : Cond.instanceMethod yX7_earned ∈ GL := GL_3 (List.mem_of_getElem? (i := 220) rfl) rfl
theorem gw_3_219 : Cond.methodLink RX7 52 yX7_earned ∈ GL := GL_3 (List.mem_of_getElem? (i := 219) rfl) rfl
theorem gw_3_221 : Cond.selects RX7 yX7_earned yX7_earned ∈ GL := GL_3 (List.mem_of_getElem? (i := 221) rfl) rfl
theorem gw_3_191 : Cond.code yX4_append cX4_append 2 none ∈ GL := GL_3 (List.mem_of_getElem? (i := 191) rfl) rfl
theorem gw_3_189 : Cond.instanceMethod yX4_append ∈ GL := GL_3 (List.mem_of_getElem? (i := 189) rfl) rfl
theorem gw_3_227 : Cond.methodLink RX3 58 yX4_append ∈ GL := GL_3 (List.mem_of_getElem? (i := 227) rfl) rfl
theorem gw_3_190 : Cond.selects RX4 yX4_append yX4_append ∈ GL := GL_3 (List.mem_of_getElem? (i := 190) rfl) rfl
theorem gw_3_226 : Cond.code yX3_fillFrom cX3_fillFrom 3 none ∈ GL := GL_3 (List.mem_of_getElem? (i := 226) rfl) rfl
theorem gw_3_217 : Cond.code yX7_yielded cX7_yielded 1 (some .int) ∈ GL := GL_3 (List.mem_of_getElem? (i := 217) rfl) rfl
theorem gw_3_212 : Cond.constant RX3 40 (65535) ∈ GL := GL_3 (List.mem_of_getElem? (i := 212) rfl) rfl
theorem gw_3_225 : Cond.instanceMethod yX3_fillFrom ∈ GL := GL_3 (List.mem_of_getElem? (i := 225) rfl) rfl
theorem gw_3_215 : Cond.instanceMethod yX7_yielded ∈ GL := GL_3 (List.mem_of_getElem? (i := 215) rfl) rfl
theorem gw_3_213 : Cond.methodLink RX3 41 yX7_valueOf ∈ GL := GL_3 (List.mem_of_getElem? (i := 213) rfl) rfl
theorem gw_3_214 : Cond.methodLink RX3 47 yX7_yielded ∈ GL := GL_3 (List.mem_of_getElem? (i := 214) rfl) rfl
theorem gw_3_223 : Cond.methodLink RX3 51 yX3_fillFrom ∈ GL := GL_3 (List.mem_of_getElem? (i := 223) rfl) rfl
theorem gw_s_1_10 : Cond.selects RX3 yX3_fillFrom yX3_fillFrom ∈ GL := GL_s1 (q := (yX3_fillFrom, 7)) (List.mem_of_getElem? (i := 10) rfl)
theorem gw_3_216 : Cond.selects RX7 yX7_yielded yX7_yielded ∈ GL := GL_3 (List.mem_of_getElem? (i := 216) rfl) rfl
theorem gw_3_207 : Cond.code yX10_raiseAlarm cX10_raiseAlarm 2 none ∈ GL := GL_3 (List.mem_of_getElem? (i := 207) rfl) rfl
theorem gw_3_199 : Cond.code yX1_hear cX1_hear 3 none ∈ GL := GL_3 (List.mem_of_getElem? (i := 199) rfl) rfl
theorem gw_3_203 : Cond.code yX2_failures cX2_failures 3 (some .int) ∈ GL := GL_3 (List.mem_of_getElem? (i := 203) rfl) rfl
theorem gw_3_211 : Cond.code yX3_feed cX3_feed 4 none ∈ GL := GL_3 (List.mem_of_getElem? (i := 211) rfl) rfl
theorem gw_3_187 : Cond.code yX4_dropFirst cX4_dropFirst 2 (some .int) ∈ GL := GL_3 (List.mem_of_getElem? (i := 187) rfl) rfl
theorem gw_3_195 : Cond.code yX6_append cX6_append 3 none ∈ GL := GL_3 (List.mem_of_getElem? (i := 195) rfl) rfl
theorem gw_3_206 : Cond.instanceMethod yX10_raiseAlarm ∈ GL := GL_3 (List.mem_of_getElem? (i := 206) rfl) rfl
theorem gw_3_197 : Cond.instanceMethod yX1_hear ∈ GL := GL_3 (List.mem_of_getElem? (i := 197) rfl) rfl
theorem gw_3_201 : Cond.instanceMethod yX2_failures ∈ GL := GL_3 (List.mem_of_getElem? (i := 201) rfl) rfl
theorem gw_3_209 : Cond.instanceMethod yX3_feed ∈ GL := GL_3 (List.mem_of_getElem? (i := 209) rfl) rfl
theorem gw_3_185 : Cond.instanceMethod yX4_dropFirst ∈ GL := GL_3 (List.mem_of_getElem? (i := 185) rfl) rfl
theorem gw_3_193 : Cond.instanceMethod yX6_append ∈ GL := GL_3 (List.mem_of_getElem? (i := 193) rfl) rfl
theorem gw_3_184 : Cond.methodLink RX10 124 yX4_dropFirst ∈ GL := GL_3 (List.mem_of_getElem? (i := 184) rfl) rfl
theorem gw_3_188 : Cond.methodLink RX10 128 yX4_append ∈ GL := GL_3 (List.mem_of_getElem? (i := 188) rfl) rfl
theorem gw_3_192 : Cond.methodLink RX10 131 yX6_append ∈ GL := GL_3 (List.mem_of_getElem? (i := 192) rfl) rfl
theorem gw_3_196 : Cond.methodLink RX10 132 yX1_hear ∈ GL := GL_3 (List.mem_of_getElem? (i := 196) rfl) rfl
theorem gw_3_200 : Cond.methodLink RX10 135 yX2_failures ∈ GL := GL_3 (List.mem_of_getElem? (i := 200) rfl) rfl
theorem gw_3_204 : Cond.methodLink RX10 139 yX10_raiseAlarm ∈ GL := GL_3 (List.mem_of_getElem? (i := 204) rfl) rfl
theorem gw_3_208 : Cond.methodLink RX10 142 yX3_feed ∈ GL := GL_3 (List.mem_of_getElem? (i := 208) rfl) rfl
theorem gw_3_198 : Cond.selects RX1 yX1_hear yX1_hear ∈ GL := GL_3 (List.mem_of_getElem? (i := 198) rfl) rfl
theorem gw_s_1_9 : Cond.selects RX10 yX10_raiseAlarm yX10_raiseAlarm ∈ GL := GL_s1 (q := (yX10_raiseAlarm, 14)) (List.mem_of_getElem? (i := 9) rfl)
theorem gw_3_202 : Cond.selects RX2 yX2_failures yX2_failures ∈ GL := GL_3 (List.mem_of_getElem? (i := 202) rfl) rfl
theorem gw_3_210 : Cond.selects RX3 yX3_feed yX3_feed ∈ GL := GL_3 (List.mem_of_getElem? (i := 210) rfl) rfl
theorem gw_3_186 : Cond.selects RX4 yX4_dropFirst yX4_dropFirst ∈ GL := GL_3 (List.mem_of_getElem? (i := 186) rfl) rfl
theorem gw_3_194 : Cond.selects RX6 yX6_append yX6_append ∈ GL := GL_3 (List.mem_of_getElem? (i := 194) rfl) rfl
theorem gw_3_183 : Cond.code yX10_hear cX10_hear 3 (some .boolean) ∈ GL := GL_3 (List.mem_of_getElem? (i := 183) rfl) rfl
theorem gw_3_169 : Cond.code yX8_next cX8_next 3 (some .int) ∈ GL := GL_3 (List.mem_of_getElem? (i := 169) rfl) rfl
theorem gw_3_181 : Cond.instanceMethod yX10_hear ∈ GL := GL_3 (List.mem_of_getElem? (i := 181) rfl) rfl
theorem gw_3_167 : Cond.instanceMethod yX8_next ∈ GL := GL_3 (List.mem_of_getElem? (i := 167) rfl) rfl
theorem gw_3_166 : Cond.methodLink RX10 113 yX8_next ∈ GL := GL_3 (List.mem_of_getElem? (i := 166) rfl) rfl
theorem gw_3_180 : Cond.methodLink RX10 117 yX10_hear ∈ GL := GL_3 (List.mem_of_getElem? (i := 180) rfl) rfl
theorem gw_3_182 : Cond.selects RX10 yX10_hear yX10_hear ∈ GL := GL_3 (List.mem_of_getElem? (i := 182) rfl) rfl
theorem gw_3_168 : Cond.selects RX8 yX8_next yX8_next ∈ GL := GL_3 (List.mem_of_getElem? (i := 168) rfl) rfl
theorem gw_3_165 : Cond.code yX10_drawMany cX10_drawMany 4 (some .int) ∈ GL := GL_3 (List.mem_of_getElem? (i := 165) rfl) rfl
theorem gw_3_163 : Cond.instanceMethod yX10_drawMany ∈ GL := GL_3 (List.mem_of_getElem? (i := 163) rfl) rfl
theorem gw_3_162 : Cond.methodLink RX11 112 yX10_drawMany ∈ GL := GL_3 (List.mem_of_getElem? (i := 162) rfl) rfl
theorem gw_3_164 : Cond.selects RX10 yX10_drawMany yX10_drawMany ∈ GL := GL_3 (List.mem_of_getElem? (i := 164) rfl) rfl
theorem gw_3_232 : Cond.methodLink RX11 116 yX10_hear ∈ GL := GL_3 (List.mem_of_getElem? (i := 232) rfl) rfl
theorem gw_4_1 : Cond.methodLink RX3 61 yX4_dropFirst ∈ GL := GL_4 (List.mem_of_getElem? (i := 1) rfl) rfl
theorem gw_4_0 : Cond.code yX3_takeBits cX3_takeBits 4 (some .int) ∈ GL := GL_4 (List.mem_of_getElem? (i := 0) rfl) rfl
theorem gw_3_238 : Cond.instanceMethod yX3_takeBits ∈ GL := GL_3 (List.mem_of_getElem? (i := 238) rfl) rfl
theorem gw_3_237 : Cond.methodLink RX11 124 yX3_takeBits ∈ GL := GL_3 (List.mem_of_getElem? (i := 237) rfl) rfl
theorem gw_3_239 : Cond.selects RX3 yX3_takeBits yX3_takeBits ∈ GL := GL_3 (List.mem_of_getElem? (i := 239) rfl) rfl
theorem gw_4_13 : Cond.code yX10_countOfParts cX10_countOfParts 2 (some .int) ∈ GL := GL_4 (List.mem_of_getElem? (i := 13) rfl) rfl
theorem gw_4_12 : Cond.instanceMethod yX10_countOfParts ∈ GL := GL_4 (List.mem_of_getElem? (i := 12) rfl) rfl
theorem gw_4_10 : Cond.methodLink RX10 146 yX10_countOfParts ∈ GL := GL_4 (List.mem_of_getElem? (i := 10) rfl) rfl
theorem gw_s_1_11 : Cond.selects RX10 yX10_countOfParts yX10_countOfParts ∈ GL := GL_s1 (q := (yX10_countOfParts, 14)) (List.mem_of_getElem? (i := 11) rfl)
theorem gw_4_9 : Cond.code yX10_countOf cX10_countOf 2 (some .int) ∈ GL := GL_4 (List.mem_of_getElem? (i := 9) rfl) rfl
theorem gw_4_7 : Cond.instanceMethod yX10_countOf ∈ GL := GL_4 (List.mem_of_getElem? (i := 7) rfl) rfl
theorem gw_4_6 : Cond.methodLink RX11 129 yX10_countOf ∈ GL := GL_4 (List.mem_of_getElem? (i := 6) rfl) rfl
theorem gw_4_8 : Cond.selects RX10 yX10_countOf yX10_countOf ∈ GL := GL_4 (List.mem_of_getElem? (i := 8) rfl) rfl
theorem gw_4_18 : Cond.methodLink RX11 157 yX7_valueOf ∈ GL := GL_4 (List.mem_of_getElem? (i := 18) rfl) rfl
theorem gw_4_19 : Cond.methodLink RX11 160 yX2_fill ∈ GL := GL_4 (List.mem_of_getElem? (i := 19) rfl) rfl
theorem gw_4_174 : Cond.methodLink RX11 280 yX2_leastBy ∈ GL := GL_4 (List.mem_of_getElem? (i := 174) rfl) rfl
theorem gw_5_40 : Cond.classLink RX11 154 "java/util/NoSuchElementException" ∈ GL := GL_5 (List.mem_of_getElem? (i := 40) rfl) rfl
theorem gw_4_173 : Cond.code yX11_rowsOf cX11_rowsOf 2 (some .int) ∈ GL := GL_4 (List.mem_of_getElem? (i := 173) rfl) rfl
theorem gw_1_24 : Cond.initialized "java/util/NoSuchElementException" ∈ GL := GL_1 (List.mem_of_getElem? (i := 24) rfl) rfl
theorem gw_1_1 : Cond.initialized RX11 ∈ GL := GL_1 (List.mem_of_getElem? (i := 1) rfl) rfl
theorem gw_4_172 : Cond.instanceMethod yX11_rowsOf ∈ GL := GL_4 (List.mem_of_getElem? (i := 172) rfl) rfl
theorem gw_4_170 : Cond.methodLink RX11 132 yX11_rowsOf ∈ GL := GL_4 (List.mem_of_getElem? (i := 170) rfl) rfl
theorem gw_5_38 : Cond.methodLink RX11 147 yX7_yielded ∈ GL := GL_5 (List.mem_of_getElem? (i := 38) rfl) rfl
theorem gw_5_39 : Cond.methodLink RX11 151 yX7_earned ∈ GL := GL_5 (List.mem_of_getElem? (i := 39) rfl) rfl
theorem gw_s_2_6 : Cond.selects RX11 yX11_rowsOf yX11_rowsOf ∈ GL := GL_s2 (q := (yX11_rowsOf, 8)) (List.mem_of_getElem? (i := 6) rfl)
theorem gw_4_23 : Cond.code yX2_leastTerms cX2_leastTerms 8 (some .long) ∈ GL := GL_4 (List.mem_of_getElem? (i := 23) rfl) rfl
theorem gw_4_24 : Cond.constantLong RX11 167 (-1) ∈ GL := GL_4 (List.mem_of_getElem? (i := 24) rfl) rfl
theorem gw_4_21 : Cond.instanceMethod yX2_leastTerms ∈ GL := GL_4 (List.mem_of_getElem? (i := 21) rfl) rfl
theorem gw_4_20 : Cond.methodLink RX11 163 yX2_leastTerms ∈ GL := GL_4 (List.mem_of_getElem? (i := 20) rfl) rfl
theorem gw_4_22 : Cond.selects RX2 yX2_leastTerms yX2_leastTerms ∈ GL := GL_4 (List.mem_of_getElem? (i := 22) rfl) rfl
theorem gw_4_32 : Cond.code yX4_bitAt cX4_bitAt 2 (some .int) ∈ GL := GL_4 (List.mem_of_getElem? (i := 32) rfl) rfl
theorem gw_4_30 : Cond.instanceMethod yX4_bitAt ∈ GL := GL_4 (List.mem_of_getElem? (i := 30) rfl) rfl
theorem gw_4_29 : Cond.methodLink RX11 173 yX4_bitAt ∈ GL := GL_4 (List.mem_of_getElem? (i := 29) rfl) rfl
theorem gw_4_31 : Cond.selects RX4 yX4_bitAt yX4_bitAt ∈ GL := GL_4 (List.mem_of_getElem? (i := 31) rfl) rfl
theorem gw_4_48 : Cond.code yX6_has cX6_has 2 (some .boolean) ∈ GL := GL_4 (List.mem_of_getElem? (i := 48) rfl) rfl
theorem gw_4_47 : Cond.instanceMethod yX6_has ∈ GL := GL_4 (List.mem_of_getElem? (i := 47) rfl) rfl
theorem gw_4_45 : Cond.methodLink RX6 28 yX6_has ∈ GL := GL_4 (List.mem_of_getElem? (i := 45) rfl) rfl
theorem gw_s_1_12 : Cond.selects RX6 yX6_has yX6_has ∈ GL := GL_s1 (q := (yX6_has, 3)) (List.mem_of_getElem? (i := 12) rfl)
theorem gw_4_44 : Cond.code yX6_lengthOf cX6_lengthOf 2 (some .int) ∈ GL := GL_4 (List.mem_of_getElem? (i := 44) rfl) rfl
theorem gw_4_52 : Cond.code yX6_sampleOf cX6_sampleOf 3 (some .int) ∈ GL := GL_4 (List.mem_of_getElem? (i := 52) rfl) rfl
theorem gw_4_42 : Cond.instanceMethod yX6_lengthOf ∈ GL := GL_4 (List.mem_of_getElem? (i := 42) rfl) rfl
theorem gw_4_50 : Cond.instanceMethod yX6_sampleOf ∈ GL := GL_4 (List.mem_of_getElem? (i := 50) rfl) rfl
theorem gw_4_41 : Cond.methodLink RX11 185 yX6_lengthOf ∈ GL := GL_4 (List.mem_of_getElem? (i := 41) rfl) rfl
theorem gw_4_49 : Cond.methodLink RX11 190 yX6_sampleOf ∈ GL := GL_4 (List.mem_of_getElem? (i := 49) rfl) rfl
theorem gw_4_43 : Cond.selects RX6 yX6_lengthOf yX6_lengthOf ∈ GL := GL_4 (List.mem_of_getElem? (i := 43) rfl) rfl
theorem gw_4_51 : Cond.selects RX6 yX6_sampleOf yX6_sampleOf ∈ GL := GL_4 (List.mem_of_getElem? (i := 51) rfl) rfl
theorem gw_4_65 : Cond.methodLink RX0 28 Lib.Math.min.name ∈ GL := GL_4 (List.mem_of_getElem? (i := 65) rfl) rfl
theorem gw_4_66 : Cond.methodLink RX0 34 Lib.Math.max.name ∈ GL := GL_4 (List.mem_of_getElem? (i := 66) rfl) rfl
theorem gw_4_67 : Cond.methodLink RX0 40 yX4_bitAt ∈ GL := GL_4 (List.mem_of_getElem? (i := 67) rfl) rfl
theorem gw_4_64 : Cond.code yX0_load cX0_load 5 none ∈ GL := GL_4 (List.mem_of_getElem? (i := 64) rfl) rfl
theorem gw_4_62 : Cond.instanceMethod yX0_load ∈ GL := GL_4 (List.mem_of_getElem? (i := 62) rfl) rfl
theorem gw_4_61 : Cond.methodLink RX11 283 yX0_load ∈ GL := GL_4 (List.mem_of_getElem? (i := 61) rfl) rfl
theorem gw_4_63 : Cond.selects RX0 yX0_load yX0_load ∈ GL := GL_4 (List.mem_of_getElem? (i := 63) rfl) rfl
theorem gw_4_79 : Cond.code yX0_measureCollision cX0_measureCollision 3 none ∈ GL := GL_4 (List.mem_of_getElem? (i := 79) rfl) rfl
theorem gw_4_75 : Cond.code yX0_measureCommon cX0_measureCommon 3 none ∈ GL := GL_4 (List.mem_of_getElem? (i := 75) rfl) rfl
theorem gw_4_83 : Cond.code yX0_measureFollow cX0_measureFollow 6 none ∈ GL := GL_4 (List.mem_of_getElem? (i := 83) rfl) rfl
theorem gw_4_78 : Cond.instanceMethod yX0_measureCollision ∈ GL := GL_4 (List.mem_of_getElem? (i := 78) rfl) rfl
theorem gw_4_74 : Cond.instanceMethod yX0_measureCommon ∈ GL := GL_4 (List.mem_of_getElem? (i := 74) rfl) rfl
theorem gw_4_82 : Cond.instanceMethod yX0_measureFollow ∈ GL := GL_4 (List.mem_of_getElem? (i := 82) rfl) rfl
theorem gw_4_72 : Cond.methodLink RX0 44 yX0_measureCommon ∈ GL := GL_4 (List.mem_of_getElem? (i := 72) rfl) rfl
theorem gw_4_76 : Cond.methodLink RX0 47 yX0_measureCollision ∈ GL := GL_4 (List.mem_of_getElem? (i := 76) rfl) rfl
theorem gw_4_80 : Cond.methodLink RX0 50 yX0_measureFollow ∈ GL := GL_4 (List.mem_of_getElem? (i := 80) rfl) rfl
theorem gw_s_1_15 : Cond.selects RX0 yX0_measureCollision yX0_measureCollision ∈ GL := GL_s1 (q := (yX0_measureCollision, 5)) (List.mem_of_getElem? (i := 15) rfl)
theorem gw_s_1_14 : Cond.selects RX0 yX0_measureCommon yX0_measureCommon ∈ GL := GL_s1 (q := (yX0_measureCommon, 5)) (List.mem_of_getElem? (i := 14) rfl)
theorem gw_s_2_0 : Cond.selects RX0 yX0_measureFollow yX0_measureFollow ∈ GL := GL_s2 (q := (yX0_measureFollow, 5)) (List.mem_of_getElem? (i := 0) rfl)
theorem gw_4_71 : Cond.code yX0_measure cX0_measure 2 none ∈ GL := GL_4 (List.mem_of_getElem? (i := 71) rfl) rfl
theorem gw_4_60 : Cond.code yX11_loadLatest cX11_loadLatest 3 (some .boolean) ∈ GL := GL_4 (List.mem_of_getElem? (i := 60) rfl) rfl
theorem gw_4_69 : Cond.instanceMethod yX0_measure ∈ GL := GL_4 (List.mem_of_getElem? (i := 69) rfl) rfl
theorem gw_4_59 : Cond.instanceMethod yX11_loadLatest ∈ GL := GL_4 (List.mem_of_getElem? (i := 59) rfl) rfl
theorem gw_4_57 : Cond.methodLink RX11 194 yX11_loadLatest ∈ GL := GL_4 (List.mem_of_getElem? (i := 57) rfl) rfl
theorem gw_4_68 : Cond.methodLink RX11 198 yX0_measure ∈ GL := GL_4 (List.mem_of_getElem? (i := 68) rfl) rfl
theorem gw_4_70 : Cond.selects RX0 yX0_measure yX0_measure ∈ GL := GL_4 (List.mem_of_getElem? (i := 70) rfl) rfl
theorem gw_s_1_13 : Cond.selects RX11 yX11_loadLatest yX11_loadLatest ∈ GL := GL_s1 (q := (yX11_loadLatest, 8)) (List.mem_of_getElem? (i := 13) rfl)
theorem gw_4_91 : Cond.code yX0_holdsBy cX0_holdsBy 3 (some .boolean) ∈ GL := GL_4 (List.mem_of_getElem? (i := 91) rfl) rfl
theorem gw_4_89 : Cond.instanceMethod yX0_holdsBy ∈ GL := GL_4 (List.mem_of_getElem? (i := 89) rfl) rfl
theorem gw_4_88 : Cond.methodLink RX11 208 yX0_holdsBy ∈ GL := GL_4 (List.mem_of_getElem? (i := 88) rfl) rfl
theorem gw_4_90 : Cond.selects RX0 yX0_holdsBy yX0_holdsBy ∈ GL := GL_4 (List.mem_of_getElem? (i := 90) rfl) rfl
theorem gw_4_99 : Cond.code yX11_leastChance cX11_leastChance 3 (some .int) ∈ GL := GL_4 (List.mem_of_getElem? (i := 99) rfl) rfl
theorem gw_4_98 : Cond.instanceMethod yX11_leastChance ∈ GL := GL_4 (List.mem_of_getElem? (i := 98) rfl) rfl
theorem gw_4_96 : Cond.methodLink RX11 211 yX11_leastChance ∈ GL := GL_4 (List.mem_of_getElem? (i := 96) rfl) rfl
theorem gw_4_100 : Cond.methodLink RX11 214 Lib.Math.max.name ∈ GL := GL_4 (List.mem_of_getElem? (i := 100) rfl) rfl
theorem gw_s_2_1 : Cond.selects RX11 yX11_leastChance yX11_leastChance ∈ GL := GL_s2 (q := (yX11_leastChance, 8)) (List.mem_of_getElem? (i := 1) rfl)
theorem gw_4_115 : Cond.code yJ7_fill_53178 cJ7_fill_53178 4 none ∈ GL := GL_4 (List.mem_of_getElem? (i := 115) rfl) rfl
theorem gw_4_113 : Cond.methodLink RX0 53 yJ7_fill_53178 ∈ GL := GL_4 (List.mem_of_getElem? (i := 113) rfl) rfl
theorem gw_4_114 : Cond.static yJ7_fill_53178 ∈ GL := GL_4 (List.mem_of_getElem? (i := 114) rfl) rfl
theorem gw_4_112 : Cond.code yX0_mostOften cX0_mostOften 6 (some .int) ∈ GL := GL_4 (List.mem_of_getElem? (i := 112) rfl) rfl
theorem gw_4_108 : Cond.code yX11_loadTuples cX11_loadTuples 3 (some .boolean) ∈ GL := GL_4 (List.mem_of_getElem? (i := 108) rfl) rfl
theorem gw_4_110 : Cond.instanceMethod yX0_mostOften ∈ GL := GL_4 (List.mem_of_getElem? (i := 110) rfl) rfl
theorem gw_4_107 : Cond.instanceMethod yX11_loadTuples ∈ GL := GL_4 (List.mem_of_getElem? (i := 107) rfl) rfl
theorem gw_4_105 : Cond.methodLink RX11 219 yX11_loadTuples ∈ GL := GL_4 (List.mem_of_getElem? (i := 105) rfl) rfl
theorem gw_4_109 : Cond.methodLink RX11 222 yX0_mostOften ∈ GL := GL_4 (List.mem_of_getElem? (i := 109) rfl) rfl
theorem gw_4_111 : Cond.selects RX0 yX0_mostOften yX0_mostOften ∈ GL := GL_4 (List.mem_of_getElem? (i := 111) rfl) rfl
theorem gw_s_2_2 : Cond.selects RX11 yX11_loadTuples yX11_loadTuples ∈ GL := GL_s2 (q := (yX11_loadTuples, 8)) (List.mem_of_getElem? (i := 2) rfl)
theorem gw_4_120 : Cond.constantLong RX11 225 (16) ∈ GL := GL_4 (List.mem_of_getElem? (i := 120) rfl) rfl
theorem gw_4_128 : Cond.code yX0_alikeAt cX0_alikeAt 4 (some .int) ∈ GL := GL_4 (List.mem_of_getElem? (i := 128) rfl) rfl
theorem gw_4_126 : Cond.instanceMethod yX0_alikeAt ∈ GL := GL_4 (List.mem_of_getElem? (i := 126) rfl) rfl
theorem gw_4_125 : Cond.methodLink RX11 227 yX0_alikeAt ∈ GL := GL_4 (List.mem_of_getElem? (i := 125) rfl) rfl
theorem gw_4_127 : Cond.selects RX0 yX0_alikeAt yX0_alikeAt ∈ GL := GL_4 (List.mem_of_getElem? (i := 127) rfl) rfl
theorem gw_4_145 : Cond.methodLink RX6 32 yX6_lengthOf ∈ GL := GL_4 (List.mem_of_getElem? (i := 145) rfl) rfl
theorem gw_4_144 : Cond.code yX6_isFull cX6_isFull 2 (some .boolean) ∈ GL := GL_4 (List.mem_of_getElem? (i := 144) rfl) rfl
theorem gw_4_143 : Cond.instanceMethod yX6_isFull ∈ GL := GL_4 (List.mem_of_getElem? (i := 143) rfl) rfl
theorem gw_4_141 : Cond.methodLink RX6 36 yX6_isFull ∈ GL := GL_4 (List.mem_of_getElem? (i := 141) rfl) rfl
theorem gw_s_2_3 : Cond.selects RX6 yX6_isFull yX6_isFull ∈ GL := GL_s2 (q := (yX6_isFull, 3)) (List.mem_of_getElem? (i := 3) rfl)
theorem gw_4_157 : Cond.constant RJ6 265 (1431655765) ∈ GL := GL_4 (List.mem_of_getElem? (i := 157) rfl) rfl
theorem gw_4_158 : Cond.constant RJ6 266 (858993459) ∈ GL := GL_4 (List.mem_of_getElem? (i := 158) rfl) rfl
theorem gw_4_159 : Cond.constant RJ6 267 (252645135) ∈ GL := GL_4 (List.mem_of_getElem? (i := 159) rfl) rfl
theorem gw_4_156 : Cond.code yJ6_bitCount_0f7a4 cJ6_bitCount_0f7a4 1 (some .int) ∈ GL := GL_4 (List.mem_of_getElem? (i := 156) rfl) rfl
theorem gw_1_25 : Cond.initialized RJ6 ∈ GL := GL_1 (List.mem_of_getElem? (i := 25) rfl) rfl
theorem gw_4_154 : Cond.methodLink RX6 39 yJ6_bitCount_0f7a4 ∈ GL := GL_4 (List.mem_of_getElem? (i := 154) rfl) rfl
theorem gw_4_160 : Cond.methodLink RX6 44 Lib.Math.max.name ∈ GL := GL_4 (List.mem_of_getElem? (i := 160) rfl) rfl
theorem gw_4_155 : Cond.static yJ6_bitCount_0f7a4 ∈ GL := GL_4 (List.mem_of_getElem? (i := 155) rfl) rfl
theorem gw_4_153 : Cond.code yX6_moreOfRow cX6_moreOfRow 3 (some .int) ∈ GL := GL_4 (List.mem_of_getElem? (i := 153) rfl) rfl
theorem gw_4_152 : Cond.instanceMethod yX6_moreOfRow ∈ GL := GL_4 (List.mem_of_getElem? (i := 152) rfl) rfl
theorem gw_4_150 : Cond.methodLink RX6 53 yX6_moreOfRow ∈ GL := GL_4 (List.mem_of_getElem? (i := 150) rfl) rfl
theorem gw_s_2_4 : Cond.selects RX6 yX6_moreOfRow yX6_moreOfRow ∈ GL := GL_s2 (q := (yX6_moreOfRow, 3)) (List.mem_of_getElem? (i := 4) rfl)
theorem gw_4_169 : Cond.methodLink RX6 50 yX6_sampleOf ∈ GL := GL_4 (List.mem_of_getElem? (i := 169) rfl) rfl
theorem gw_4_168 : Cond.code yX6_moreOfColumn cX6_moreOfColumn 5 (some .int) ∈ GL := GL_4 (List.mem_of_getElem? (i := 168) rfl) rfl
theorem gw_4_167 : Cond.instanceMethod yX6_moreOfColumn ∈ GL := GL_4 (List.mem_of_getElem? (i := 167) rfl) rfl
theorem gw_4_165 : Cond.methodLink RX6 56 yX6_moreOfColumn ∈ GL := GL_4 (List.mem_of_getElem? (i := 165) rfl) rfl
theorem gw_s_2_5 : Cond.selects RX6 yX6_moreOfColumn yX6_moreOfColumn ∈ GL := GL_s2 (q := (yX6_moreOfColumn, 3)) (List.mem_of_getElem? (i := 5) rfl)
theorem gw_4_182 : Cond.code yX6_columnsAbove cX6_columnsAbove 4 (some .int) ∈ GL := GL_4 (List.mem_of_getElem? (i := 182) rfl) rfl
theorem gw_4_140 : Cond.code yX6_full cX6_full 3 (some .int) ∈ GL := GL_4 (List.mem_of_getElem? (i := 140) rfl) rfl
theorem gw_4_164 : Cond.code yX6_greatestColumn cX6_greatestColumn 3 (some .int) ∈ GL := GL_4 (List.mem_of_getElem? (i := 164) rfl) rfl
theorem gw_4_149 : Cond.code yX6_greatestRow cX6_greatestRow 3 (some .int) ∈ GL := GL_4 (List.mem_of_getElem? (i := 149) rfl) rfl
theorem gw_4_178 : Cond.code yX6_rowsAbove cX6_rowsAbove 4 (some .int) ∈ GL := GL_4 (List.mem_of_getElem? (i := 178) rfl) rfl
theorem gw_4_180 : Cond.instanceMethod yX6_columnsAbove ∈ GL := GL_4 (List.mem_of_getElem? (i := 180) rfl) rfl
theorem gw_4_138 : Cond.instanceMethod yX6_full ∈ GL := GL_4 (List.mem_of_getElem? (i := 138) rfl) rfl
theorem gw_4_162 : Cond.instanceMethod yX6_greatestColumn ∈ GL := GL_4 (List.mem_of_getElem? (i := 162) rfl) rfl
theorem gw_4_147 : Cond.instanceMethod yX6_greatestRow ∈ GL := GL_4 (List.mem_of_getElem? (i := 147) rfl) rfl
theorem gw_4_176 : Cond.instanceMethod yX6_rowsAbove ∈ GL := GL_4 (List.mem_of_getElem? (i := 176) rfl) rfl
theorem gw_4_137 : Cond.methodLink RX11 230 yX6_full ∈ GL := GL_4 (List.mem_of_getElem? (i := 137) rfl) rfl
theorem gw_4_146 : Cond.methodLink RX11 233 yX6_greatestRow ∈ GL := GL_4 (List.mem_of_getElem? (i := 146) rfl) rfl
theorem gw_4_161 : Cond.methodLink RX11 236 yX6_greatestColumn ∈ GL := GL_4 (List.mem_of_getElem? (i := 161) rfl) rfl
theorem gw_4_175 : Cond.methodLink RX11 239 yX6_rowsAbove ∈ GL := GL_4 (List.mem_of_getElem? (i := 175) rfl) rfl
theorem gw_4_179 : Cond.methodLink RX11 242 yX6_columnsAbove ∈ GL := GL_4 (List.mem_of_getElem? (i := 179) rfl) rfl
theorem gw_4_181 : Cond.selects RX6 yX6_columnsAbove yX6_columnsAbove ∈ GL := GL_4 (List.mem_of_getElem? (i := 181) rfl) rfl
theorem gw_4_139 : Cond.selects RX6 yX6_full yX6_full ∈ GL := GL_4 (List.mem_of_getElem? (i := 139) rfl) rfl
theorem gw_4_163 : Cond.selects RX6 yX6_greatestColumn yX6_greatestColumn ∈ GL := GL_4 (List.mem_of_getElem? (i := 163) rfl) rfl
theorem gw_4_148 : Cond.selects RX6 yX6_greatestRow yX6_greatestRow ∈ GL := GL_4 (List.mem_of_getElem? (i := 148) rfl) rfl
theorem gw_4_177 : Cond.selects RX6 yX6_rowsAbove yX6_rowsAbove ∈ GL := GL_4 (List.mem_of_getElem? (i := 177) rfl) rfl
theorem gw_4_190 : Cond.code yX0_measureLongest cX0_measureLongest 3 none ∈ GL := GL_4 (List.mem_of_getElem? (i := 190) rfl) rfl
theorem gw_4_188 : Cond.instanceMethod yX0_measureLongest ∈ GL := GL_4 (List.mem_of_getElem? (i := 188) rfl) rfl
theorem gw_4_187 : Cond.methodLink RX11 245 yX0_measureLongest ∈ GL := GL_4 (List.mem_of_getElem? (i := 187) rfl) rfl
theorem gw_4_189 : Cond.selects RX0 yX0_measureLongest yX0_measureLongest ∈ GL := GL_4 (List.mem_of_getElem? (i := 189) rfl) rfl
theorem gw_4_216 : Cond.methodLink RX4 22 arraycopyName ∈ GL := GL_4 (List.mem_of_getElem? (i := 216) rfl) rfl
theorem gw_4_215 : Cond.code yX4_copyFrom cX4_copyFrom 2 none ∈ GL := GL_4 (List.mem_of_getElem? (i := 215) rfl) rfl
theorem gw_4_213 : Cond.instanceMethod yX4_copyFrom ∈ GL := GL_4 (List.mem_of_getElem? (i := 213) rfl) rfl
theorem gw_4_212 : Cond.methodLink RX3 64 yX4_copyFrom ∈ GL := GL_4 (List.mem_of_getElem? (i := 212) rfl) rfl
theorem gw_4_214 : Cond.selects RX4 yX4_copyFrom yX4_copyFrom ∈ GL := GL_4 (List.mem_of_getElem? (i := 214) rfl) rfl
theorem gw_4_226 : Cond.methodLink RX9 47 arraycopyName ∈ GL := GL_4 (List.mem_of_getElem? (i := 226) rfl) rfl
theorem gw_4_207 : Cond.code yX1_copyFrom cX1_copyFrom 2 none ∈ GL := GL_4 (List.mem_of_getElem? (i := 207) rfl) rfl
theorem gw_4_211 : Cond.code yX3_copyFrom cX3_copyFrom 2 none ∈ GL := GL_4 (List.mem_of_getElem? (i := 211) rfl) rfl
theorem gw_4_221 : Cond.code yX6_copyFrom cX6_copyFrom 2 none ∈ GL := GL_4 (List.mem_of_getElem? (i := 221) rfl) rfl
theorem gw_4_203 : Cond.code yX8_copyFrom cX8_copyFrom 2 none ∈ GL := GL_4 (List.mem_of_getElem? (i := 203) rfl) rfl
theorem gw_4_225 : Cond.code yX9_copyFrom cX9_copyFrom 2 none ∈ GL := GL_4 (List.mem_of_getElem? (i := 225) rfl) rfl
theorem gw_4_205 : Cond.instanceMethod yX1_copyFrom ∈ GL := GL_4 (List.mem_of_getElem? (i := 205) rfl) rfl
theorem gw_4_209 : Cond.instanceMethod yX3_copyFrom ∈ GL := GL_4 (List.mem_of_getElem? (i := 209) rfl) rfl
theorem gw_4_219 : Cond.instanceMethod yX6_copyFrom ∈ GL := GL_4 (List.mem_of_getElem? (i := 219) rfl) rfl
theorem gw_4_201 : Cond.instanceMethod yX8_copyFrom ∈ GL := GL_4 (List.mem_of_getElem? (i := 201) rfl) rfl
theorem gw_4_223 : Cond.instanceMethod yX9_copyFrom ∈ GL := GL_4 (List.mem_of_getElem? (i := 223) rfl) rfl
theorem gw_4_199 : Cond.methodLink RX10 187 yX7_copyFrom ∈ GL := GL_4 (List.mem_of_getElem? (i := 199) rfl) rfl
theorem gw_4_200 : Cond.methodLink RX10 200 yX8_copyFrom ∈ GL := GL_4 (List.mem_of_getElem? (i := 200) rfl) rfl
theorem gw_4_204 : Cond.methodLink RX10 203 yX1_copyFrom ∈ GL := GL_4 (List.mem_of_getElem? (i := 204) rfl) rfl
theorem gw_4_208 : Cond.methodLink RX10 206 yX3_copyFrom ∈ GL := GL_4 (List.mem_of_getElem? (i := 208) rfl) rfl
theorem gw_4_217 : Cond.methodLink RX10 209 yX4_copyFrom ∈ GL := GL_4 (List.mem_of_getElem? (i := 217) rfl) rfl
theorem gw_4_218 : Cond.methodLink RX10 212 yX6_copyFrom ∈ GL := GL_4 (List.mem_of_getElem? (i := 218) rfl) rfl
theorem gw_4_222 : Cond.methodLink RX10 215 yX9_copyFrom ∈ GL := GL_4 (List.mem_of_getElem? (i := 222) rfl) rfl
theorem gw_4_206 : Cond.selects RX1 yX1_copyFrom yX1_copyFrom ∈ GL := GL_4 (List.mem_of_getElem? (i := 206) rfl) rfl
theorem gw_4_210 : Cond.selects RX3 yX3_copyFrom yX3_copyFrom ∈ GL := GL_4 (List.mem_of_getElem? (i := 210) rfl) rfl
theorem gw_4_220 : Cond.selects RX6 yX6_copyFrom yX6_copyFrom ∈ GL := GL_4 (List.mem_of_getElem? (i := 220) rfl) rfl
theorem gw_4_202 : Cond.selects RX8 yX8_copyFrom yX8_copyFrom ∈ GL := GL_4 (List.mem_of_getElem? (i := 202) rfl) rfl
theorem gw_4_224 : Cond.selects RX9 yX9_copyFrom yX9_copyFrom ∈ GL := GL_4 (List.mem_of_getElem? (i := 224) rfl) rfl
theorem gw_4_198 : Cond.code yX10_copyFrom cX10_copyFrom 2 none ∈ GL := GL_4 (List.mem_of_getElem? (i := 198) rfl) rfl
theorem gw_4_196 : Cond.instanceMethod yX10_copyFrom ∈ GL := GL_4 (List.mem_of_getElem? (i := 196) rfl) rfl
theorem gw_4_195 : Cond.methodLink RX11 251 yX10_copyFrom ∈ GL := GL_4 (List.mem_of_getElem? (i := 195) rfl) rfl
theorem gw_4_197 : Cond.selects RX10 yX10_copyFrom yX10_copyFrom ∈ GL := GL_4 (List.mem_of_getElem? (i := 197) rfl) rfl
theorem gw_4_235 : Cond.fieldLink RX11 254 "NoiseWatch" "LEAST" "[I" ∈ GL := GL_4 (List.mem_of_getElem? (i := 235) rfl) rfl
theorem gw_4_236 : Cond.fieldLink RX11 258 "NoiseWatch" "MOST" "[I" ∈ GL := GL_4 (List.mem_of_getElem? (i := 236) rfl) rfl
theorem gw_4_237 : Cond.methodLink RX11 261 yX2_setLimits ∈ GL := GL_4 (List.mem_of_getElem? (i := 237) rfl) rfl
theorem gw_4_238 : Cond.methodLink RX11 265 yX1_clear ∈ GL := GL_4 (List.mem_of_getElem? (i := 238) rfl) rfl
theorem gw_4_239 : Cond.methodLink RX11 268 yX1_hear ∈ GL := GL_4 (List.mem_of_getElem? (i := 239) rfl) rfl
theorem gw_5_0 : Cond.methodLink RX11 270 yX2_failures ∈ GL := GL_5 (List.mem_of_getElem? (i := 0) rfl) rfl
theorem gw_5_13 : Cond.methodLink RX1 28 Lib.Math.max.name ∈ GL := GL_5 (List.mem_of_getElem? (i := 13) rfl) rfl
theorem gw_5_12 : Cond.code yX1_raiseTo cX1_raiseTo 2 none ∈ GL := GL_5 (List.mem_of_getElem? (i := 12) rfl) rfl
theorem gw_5_10 : Cond.instanceMethod yX1_raiseTo ∈ GL := GL_5 (List.mem_of_getElem? (i := 10) rfl) rfl
theorem gw_5_9 : Cond.methodLink RX11 287 yX1_raiseTo ∈ GL := GL_5 (List.mem_of_getElem? (i := 9) rfl) rfl
theorem gw_5_11 : Cond.selects RX1 yX1_raiseTo yX1_raiseTo ∈ GL := GL_5 (List.mem_of_getElem? (i := 11) rfl) rfl
theorem gw_5_8 : Cond.code yX11_measurePeaks cX11_measurePeaks 2 none ∈ GL := GL_5 (List.mem_of_getElem? (i := 8) rfl) rfl
theorem gw_5_17 : Cond.code yX11_peaksPass cX11_peaksPass 3 (some .boolean) ∈ GL := GL_5 (List.mem_of_getElem? (i := 17) rfl) rfl
theorem gw_5_7 : Cond.instanceMethod yX11_measurePeaks ∈ GL := GL_5 (List.mem_of_getElem? (i := 7) rfl) rfl
theorem gw_5_16 : Cond.instanceMethod yX11_peaksPass ∈ GL := GL_5 (List.mem_of_getElem? (i := 16) rfl) rfl
theorem gw_5_5 : Cond.methodLink RX11 274 yX11_measurePeaks ∈ GL := GL_5 (List.mem_of_getElem? (i := 5) rfl) rfl
theorem gw_5_14 : Cond.methodLink RX11 277 yX11_peaksPass ∈ GL := GL_5 (List.mem_of_getElem? (i := 14) rfl) rfl
theorem gw_s_2_7 : Cond.selects RX11 yX11_measurePeaks yX11_measurePeaks ∈ GL := GL_s2 (q := (yX11_measurePeaks, 8)) (List.mem_of_getElem? (i := 7) rfl)
theorem gw_s_2_8 : Cond.selects RX11 yX11_peaksPass yX11_peaksPass ∈ GL := GL_s2 (q := (yX11_peaksPass, 8)) (List.mem_of_getElem? (i := 8) rfl)
theorem gw_5_187 : Cond.constantLong RX12 37 (255) ∈ GL := GL_5 (List.mem_of_getElem? (i := 187) rfl) rfl
theorem gw_5_115 : Cond.fieldLink RX12 33 "NoiseWatchModel" "raised" "I" ∈ GL := GL_5 (List.mem_of_getElem? (i := 115) rfl) rfl
theorem gw_5_120 : Cond.fieldLink RX12 42 "NoiseWatchModel" "length" "I" ∈ GL := GL_5 (List.mem_of_getElem? (i := 120) rfl) rfl
theorem gw_5_202 : Cond.code yX12_in cX12_in 3 (some .boolean) ∈ GL := GL_5 (List.mem_of_getElem? (i := 202) rfl) rfl
theorem gw_5_199 : Cond.code yX12_see cX12_see 1 (some .int) ∈ GL := GL_5 (List.mem_of_getElem? (i := 199) rfl) rfl
theorem gw_5_121 : Cond.fieldLink RX12 49 "NoiseWatchModel" "begin" "I" ∈ GL := GL_5 (List.mem_of_getElem? (i := 121) rfl) rfl
theorem gw_5_124 : Cond.fieldLink RX12 52 "NoiseWatchModel" "word" "J" ∈ GL := GL_5 (List.mem_of_getElem? (i := 124) rfl) rfl
theorem gw_5_122 : Cond.fieldLink RX12 56 "NoiseWatchModel" "sort" "I" ∈ GL := GL_5 (List.mem_of_getElem? (i := 122) rfl) rfl
theorem gw_5_123 : Cond.fieldLink RX12 63 "NoiseWatchModel" "value" "I" ∈ GL := GL_5 (List.mem_of_getElem? (i := 123) rfl) rfl
theorem gw_5_198 : Cond.instanceMethod yX12_see ∈ GL := GL_5 (List.mem_of_getElem? (i := 198) rfl) rfl
theorem gw_5_196 : Cond.methodLink RX12 45 yX12_see ∈ GL := GL_5 (List.mem_of_getElem? (i := 196) rfl) rfl
theorem gw_5_200 : Cond.methodLink RX12 59 yX12_in ∈ GL := GL_5 (List.mem_of_getElem? (i := 200) rfl) rfl
theorem gw_s_2_13 : Cond.selects RX12 yX12_see yX12_see ∈ GL := GL_s2 (q := (yX12_see, 22)) (List.mem_of_getElem? (i := 13) rfl)
theorem gw_5_201 : Cond.static yX12_in ∈ GL := GL_5 (List.mem_of_getElem? (i := 201) rfl) rfl
theorem gw_5_125 : Cond.fieldLink RX12 66 "NoiseWatchModel" "wrongAt" "I" ∈ GL := GL_5 (List.mem_of_getElem? (i := 125) rfl) rfl
theorem gw_5_223 : Cond.code yX12_fails cX12_fails 1 (some .boolean) ∈ GL := GL_5 (List.mem_of_getElem? (i := 223) rfl) rfl
theorem gw_5_215 : Cond.code yX12_isBad cX12_isBad 3 none ∈ GL := GL_5 (List.mem_of_getElem? (i := 215) rfl) rfl
theorem gw_5_195 : Cond.code yX12_token cX12_token 3 none ∈ GL := GL_5 (List.mem_of_getElem? (i := 195) rfl) rfl
theorem gw_5_129 : Cond.fieldLink RX12 79 "NoiseWatchModel" "read" "I" ∈ GL := GL_5 (List.mem_of_getElem? (i := 129) rfl) rfl
theorem gw_5_222 : Cond.instanceMethod yX12_fails ∈ GL := GL_5 (List.mem_of_getElem? (i := 222) rfl) rfl
theorem gw_5_214 : Cond.instanceMethod yX12_isBad ∈ GL := GL_5 (List.mem_of_getElem? (i := 214) rfl) rfl
theorem gw_5_194 : Cond.instanceMethod yX12_token ∈ GL := GL_5 (List.mem_of_getElem? (i := 194) rfl) rfl
theorem gw_5_220 : Cond.methodLink RX12 75 yX12_fails ∈ GL := GL_5 (List.mem_of_getElem? (i := 220) rfl) rfl
theorem gw_5_212 : Cond.methodLink RX12 82 yX12_isBad ∈ GL := GL_5 (List.mem_of_getElem? (i := 212) rfl) rfl
theorem gw_5_192 : Cond.methodLink RX12 86 yX12_token ∈ GL := GL_5 (List.mem_of_getElem? (i := 192) rfl) rfl
theorem gw_s_3_2 : Cond.selects RX12 yX12_fails yX12_fails ∈ GL := GL_s3 (q := (yX12_fails, 22)) (List.mem_of_getElem? (i := 2) rfl)
theorem gw_s_3_0 : Cond.selects RX12 yX12_isBad yX12_isBad ∈ GL := GL_s3 (q := (yX12_isBad, 22)) (List.mem_of_getElem? (i := 0) rfl)
theorem gw_s_2_12 : Cond.selects RX12 yX12_token yX12_token ∈ GL := GL_s2 (q := (yX12_token, 22)) (List.mem_of_getElem? (i := 12) rfl)
theorem gw_5_233 : Cond.constantLong RX12 101 (1651073395) ∈ GL := GL_5 (List.mem_of_getElem? (i := 233) rfl) rfl
theorem gw_5_234 : Cond.constantLong RX12 103 (495874302827) ∈ GL := GL_5 (List.mem_of_getElem? (i := 234) rfl) rfl
theorem gw_5_235 : Cond.constantLong RX12 105 (1936024932) ∈ GL := GL_5 (List.mem_of_getElem? (i := 235) rfl) rfl
theorem gw_5_227 : Cond.constantLong RX12 89 (109299962372965) ∈ GL := GL_5 (List.mem_of_getElem? (i := 227) rfl) rfl
theorem gw_5_228 : Cond.constantLong RX12 91 (7106407) ∈ GL := GL_5 (List.mem_of_getElem? (i := 228) rfl) rfl
theorem gw_5_229 : Cond.constantLong RX12 93 (131294707347319) ∈ GL := GL_5 (List.mem_of_getElem? (i := 229) rfl) rfl
theorem gw_5_230 : Cond.constantLong RX12 95 (495873782388) ∈ GL := GL_5 (List.mem_of_getElem? (i := 230) rfl) rfl
theorem gw_5_231 : Cond.constantLong RX12 97 (422726034283) ∈ GL := GL_5 (List.mem_of_getElem? (i := 231) rfl) rfl
theorem gw_5_232 : Cond.constantLong RX12 99 (7304564) ∈ GL := GL_5 (List.mem_of_getElem? (i := 232) rfl) rfl
theorem gw_5_219 : Cond.code yX12_takes cX12_takes 3 (some .boolean) ∈ GL := GL_5 (List.mem_of_getElem? (i := 219) rfl) rfl
theorem gw_5_218 : Cond.instanceMethod yX12_takes ∈ GL := GL_5 (List.mem_of_getElem? (i := 218) rfl) rfl
theorem gw_5_216 : Cond.methodLink RX12 107 yX12_takes ∈ GL := GL_5 (List.mem_of_getElem? (i := 216) rfl) rfl
theorem gw_s_3_1 : Cond.selects RX12 yX12_takes yX12_takes ∈ GL := GL_s3 (q := (yX12_takes, 22)) (List.mem_of_getElem? (i := 1) rfl)
theorem gw_5_238 : Cond.code yX12_leastOf cX12_leastOf 1 (some .int) ∈ GL := GL_5 (List.mem_of_getElem? (i := 238) rfl) rfl
theorem gw_6_1 : Cond.code yX12_mostOf cX12_mostOf 1 (some .int) ∈ GL := GL_6 (List.mem_of_getElem? (i := 1) rfl) rfl
theorem gw_5_226 : Cond.code yX12_settingOf cX12_settingOf 2 (some .int) ∈ GL := GL_5 (List.mem_of_getElem? (i := 226) rfl) rfl
theorem gw_5_211 : Cond.code yX12_stuckLine cX12_stuckLine 4 (some .boolean) ∈ GL := GL_5 (List.mem_of_getElem? (i := 211) rfl) rfl
theorem gw_5_207 : Cond.constantLong RX12 111 (495875089259) ∈ GL := GL_5 (List.mem_of_getElem? (i := 207) rfl) rfl
theorem gw_5_210 : Cond.instanceMethod yX12_stuckLine ∈ GL := GL_5 (List.mem_of_getElem? (i := 210) rfl) rfl
theorem gw_5_208 : Cond.methodLink RX12 113 yX12_stuckLine ∈ GL := GL_5 (List.mem_of_getElem? (i := 208) rfl) rfl
theorem gw_5_224 : Cond.methodLink RX12 116 yX12_settingOf ∈ GL := GL_5 (List.mem_of_getElem? (i := 224) rfl) rfl
theorem gw_5_236 : Cond.methodLink RX12 120 yX12_leastOf ∈ GL := GL_5 (List.mem_of_getElem? (i := 236) rfl) rfl
theorem gw_5_239 : Cond.methodLink RX12 124 yX12_mostOf ∈ GL := GL_5 (List.mem_of_getElem? (i := 239) rfl) rfl
theorem gw_s_2_15 : Cond.selects RX12 yX12_stuckLine yX12_stuckLine ∈ GL := GL_s2 (q := (yX12_stuckLine, 22)) (List.mem_of_getElem? (i := 15) rfl)
theorem gw_5_237 : Cond.static yX12_leastOf ∈ GL := GL_5 (List.mem_of_getElem? (i := 237) rfl) rfl
theorem gw_6_0 : Cond.static yX12_mostOf ∈ GL := GL_6 (List.mem_of_getElem? (i := 0) rfl) rfl
theorem gw_5_225 : Cond.static yX12_settingOf ∈ GL := GL_5 (List.mem_of_getElem? (i := 225) rfl) rfl
theorem gw_5_206 : Cond.code yX12_line cX12_line 5 (some .boolean) ∈ GL := GL_5 (List.mem_of_getElem? (i := 206) rfl) rfl
theorem gw_5_205 : Cond.instanceMethod yX12_line ∈ GL := GL_5 (List.mem_of_getElem? (i := 205) rfl) rfl
theorem gw_5_203 : Cond.methodLink RX12 127 yX12_line ∈ GL := GL_5 (List.mem_of_getElem? (i := 203) rfl) rfl
theorem gw_s_2_14 : Cond.selects RX12 yX12_line yX12_line ∈ GL := GL_s2 (q := (yX12_line, 22)) (List.mem_of_getElem? (i := 14) rfl)
theorem gw_6_20 : Cond.code yX12_isRare cX12_isRare 5 (some .boolean) ∈ GL := GL_6 (List.mem_of_getElem? (i := 20) rfl) rfl
theorem gw_6_16 : Cond.code yX12_power cX12_power 5 (some .long) ∈ GL := GL_6 (List.mem_of_getElem? (i := 16) rfl) rfl
theorem gw_6_19 : Cond.instanceMethod yX12_isRare ∈ GL := GL_6 (List.mem_of_getElem? (i := 19) rfl) rfl
theorem gw_6_14 : Cond.methodLink RX12 130 yX12_power ∈ GL := GL_6 (List.mem_of_getElem? (i := 14) rfl) rfl
theorem gw_6_17 : Cond.methodLink RX12 134 yX12_isRare ∈ GL := GL_6 (List.mem_of_getElem? (i := 17) rfl) rfl
theorem gw_s_3_4 : Cond.selects RX12 yX12_isRare yX12_isRare ∈ GL := GL_s3 (q := (yX12_isRare, 22)) (List.mem_of_getElem? (i := 4) rfl)
theorem gw_6_15 : Cond.static yX12_power ∈ GL := GL_6 (List.mem_of_getElem? (i := 15) rfl) rfl
theorem gw_6_31 : Cond.code yX12_choose cX12_choose 5 (some .long) ∈ GL := GL_6 (List.mem_of_getElem? (i := 31) rfl) rfl
theorem gw_6_29 : Cond.methodLink RX12 138 yX12_choose ∈ GL := GL_6 (List.mem_of_getElem? (i := 29) rfl) rfl
theorem gw_6_30 : Cond.static yX12_choose ∈ GL := GL_6 (List.mem_of_getElem? (i := 30) rfl) rfl
theorem gw_6_28 : Cond.code yX12_tail cX12_tail 6 (some .long) ∈ GL := GL_6 (List.mem_of_getElem? (i := 28) rfl) rfl
theorem gw_6_27 : Cond.instanceMethod yX12_tail ∈ GL := GL_6 (List.mem_of_getElem? (i := 27) rfl) rfl
theorem gw_6_25 : Cond.methodLink RX12 141 yX12_tail ∈ GL := GL_6 (List.mem_of_getElem? (i := 25) rfl) rfl
theorem gw_s_3_6 : Cond.selects RX12 yX12_tail yX12_tail ∈ GL := GL_s3 (q := (yX12_tail, 22)) (List.mem_of_getElem? (i := 6) rfl)
theorem gw_6_38 : Cond.code yX12_halves cX12_halves 5 (some .long) ∈ GL := GL_6 (List.mem_of_getElem? (i := 38) rfl) rfl
theorem gw_6_36 : Cond.methodLink RX12 144 yX12_halves ∈ GL := GL_6 (List.mem_of_getElem? (i := 36) rfl) rfl
theorem gw_6_37 : Cond.static yX12_halves ∈ GL := GL_6 (List.mem_of_getElem? (i := 37) rfl) rfl
theorem gw_6_46 : Cond.code yX12_earned cX12_earned 1 (some .int) ∈ GL := GL_6 (List.mem_of_getElem? (i := 46) rfl) rfl
theorem gw_6_49 : Cond.code yX12_lesser cX12_lesser 2 (some .int) ∈ GL := GL_6 (List.mem_of_getElem? (i := 49) rfl) rfl
theorem gw_6_45 : Cond.instanceMethod yX12_earned ∈ GL := GL_6 (List.mem_of_getElem? (i := 45) rfl) rfl
theorem gw_6_43 : Cond.methodLink RX12 147 yX12_earned ∈ GL := GL_6 (List.mem_of_getElem? (i := 43) rfl) rfl
theorem gw_6_47 : Cond.methodLink RX12 150 yX12_lesser ∈ GL := GL_6 (List.mem_of_getElem? (i := 47) rfl) rfl
theorem gw_s_3_9 : Cond.selects RX12 yX12_earned yX12_earned ∈ GL := GL_s3 (q := (yX12_earned, 22)) (List.mem_of_getElem? (i := 9) rfl)
theorem gw_6_48 : Cond.static yX12_lesser ∈ GL := GL_6 (List.mem_of_getElem? (i := 48) rfl) rfl
theorem gw_6_35 : Cond.code yX12_changes cX12_changes 3 (some .int) ∈ GL := GL_6 (List.mem_of_getElem? (i := 35) rfl) rfl
theorem gw_6_24 : Cond.code yX12_proportion cX12_proportion 3 (some .int) ∈ GL := GL_6 (List.mem_of_getElem? (i := 24) rfl) rfl
theorem gw_6_13 : Cond.code yX12_repeats cX12_repeats 2 (some .int) ∈ GL := GL_6 (List.mem_of_getElem? (i := 13) rfl) rfl
theorem gw_6_53 : Cond.code yX12_rowsLimit cX12_rowsLimit 3 (some .int) ∈ GL := GL_6 (List.mem_of_getElem? (i := 53) rfl) rfl
theorem gw_6_42 : Cond.code yX12_yields cX12_yields 1 (some .int) ∈ GL := GL_6 (List.mem_of_getElem? (i := 42) rfl) rfl
theorem gw_6_34 : Cond.instanceMethod yX12_changes ∈ GL := GL_6 (List.mem_of_getElem? (i := 34) rfl) rfl
theorem gw_6_23 : Cond.instanceMethod yX12_proportion ∈ GL := GL_6 (List.mem_of_getElem? (i := 23) rfl) rfl
theorem gw_6_12 : Cond.instanceMethod yX12_repeats ∈ GL := GL_6 (List.mem_of_getElem? (i := 12) rfl) rfl
theorem gw_6_52 : Cond.instanceMethod yX12_rowsLimit ∈ GL := GL_6 (List.mem_of_getElem? (i := 52) rfl) rfl
theorem gw_6_41 : Cond.instanceMethod yX12_yields ∈ GL := GL_6 (List.mem_of_getElem? (i := 41) rfl) rfl
theorem gw_6_10 : Cond.methodLink RX12 154 yX12_repeats ∈ GL := GL_6 (List.mem_of_getElem? (i := 10) rfl) rfl
theorem gw_6_21 : Cond.methodLink RX12 157 yX12_proportion ∈ GL := GL_6 (List.mem_of_getElem? (i := 21) rfl) rfl
theorem gw_6_32 : Cond.methodLink RX12 160 yX12_changes ∈ GL := GL_6 (List.mem_of_getElem? (i := 32) rfl) rfl
theorem gw_6_39 : Cond.methodLink RX12 163 yX12_yields ∈ GL := GL_6 (List.mem_of_getElem? (i := 39) rfl) rfl
theorem gw_6_50 : Cond.methodLink RX12 166 yX12_rowsLimit ∈ GL := GL_6 (List.mem_of_getElem? (i := 50) rfl) rfl
theorem gw_s_3_7 : Cond.selects RX12 yX12_changes yX12_changes ∈ GL := GL_s3 (q := (yX12_changes, 22)) (List.mem_of_getElem? (i := 7) rfl)
theorem gw_s_3_5 : Cond.selects RX12 yX12_proportion yX12_proportion ∈ GL := GL_s3 (q := (yX12_proportion, 22)) (List.mem_of_getElem? (i := 5) rfl)
theorem gw_s_3_3 : Cond.selects RX12 yX12_repeats yX12_repeats ∈ GL := GL_s3 (q := (yX12_repeats, 22)) (List.mem_of_getElem? (i := 3) rfl)
theorem gw_s_3_10 : Cond.selects RX12 yX12_rowsLimit yX12_rowsLimit ∈ GL := GL_s3 (q := (yX12_rowsLimit, 22)) (List.mem_of_getElem? (i := 10) rfl)
theorem gw_s_3_8 : Cond.selects RX12 yX12_yields yX12_yields ∈ GL := GL_s3 (q := (yX12_yields, 22)) (List.mem_of_getElem? (i := 8) rfl)
theorem gw_6_61 : Cond.code yX12_measure cX12_measure 10 (some .long) ∈ GL := GL_6 (List.mem_of_getElem? (i := 61) rfl) rfl
theorem gw_6_58 : Cond.constantLong RX12 169 (-1) ∈ GL := GL_6 (List.mem_of_getElem? (i := 58) rfl) rfl
theorem gw_6_59 : Cond.methodLink RX12 171 yX12_measure ∈ GL := GL_6 (List.mem_of_getElem? (i := 59) rfl) rfl
theorem gw_6_60 : Cond.static yX12_measure ∈ GL := GL_6 (List.mem_of_getElem? (i := 60) rfl) rfl
theorem gw_6_102 : Cond.constant RX12 175 (1103515245) ∈ GL := GL_6 (List.mem_of_getElem? (i := 102) rfl) rfl
theorem gw_6_101 : Cond.code yX12_drawn cX12_drawn 2 (some .int) ∈ GL := GL_6 (List.mem_of_getElem? (i := 101) rfl) rfl
theorem gw_6_100 : Cond.instanceMethod yX12_drawn ∈ GL := GL_6 (List.mem_of_getElem? (i := 100) rfl) rfl
theorem gw_6_98 : Cond.methodLink RX12 176 yX12_drawn ∈ GL := GL_6 (List.mem_of_getElem? (i := 98) rfl) rfl
theorem gw_s_4_1 : Cond.selects RX12 yX12_drawn yX12_drawn ∈ GL := GL_s4 (q := (yX12_drawn, 22)) (List.mem_of_getElem? (i := 1) rfl)
theorem gw_5_130 : Cond.fieldLink RX12 179 "NoiseWatchModel" "limitRepeats" "I" ∈ GL := GL_5 (List.mem_of_getElem? (i := 130) rfl) rfl
theorem gw_5_131 : Cond.fieldLink RX12 182 "NoiseWatchModel" "limitProportion" "I" ∈ GL := GL_5 (List.mem_of_getElem? (i := 131) rfl) rfl
theorem gw_5_132 : Cond.fieldLink RX12 185 "NoiseWatchModel" "limitChanges" "I" ∈ GL := GL_5 (List.mem_of_getElem? (i := 132) rfl) rfl
theorem gw_5_133 : Cond.fieldLink RX12 188 "NoiseWatchModel" "blockYield" "I" ∈ GL := GL_5 (List.mem_of_getElem? (i := 133) rfl) rfl
theorem gw_6_73 : Cond.code yX12_empties cX12_empties 1 none ∈ GL := GL_6 (List.mem_of_getElem? (i := 73) rfl) rfl
theorem gw_6_77 : Cond.code yX12_forgets cX12_forgets 1 none ∈ GL := GL_6 (List.mem_of_getElem? (i := 77) rfl) rfl
theorem gw_6_72 : Cond.instanceMethod yX12_empties ∈ GL := GL_6 (List.mem_of_getElem? (i := 72) rfl) rfl
theorem gw_6_76 : Cond.instanceMethod yX12_forgets ∈ GL := GL_6 (List.mem_of_getElem? (i := 76) rfl) rfl
theorem gw_6_70 : Cond.methodLink RX12 191 yX12_empties ∈ GL := GL_6 (List.mem_of_getElem? (i := 70) rfl) rfl
theorem gw_6_74 : Cond.methodLink RX12 194 yX12_forgets ∈ GL := GL_6 (List.mem_of_getElem? (i := 74) rfl) rfl
theorem gw_s_3_12 : Cond.selects RX12 yX12_empties yX12_empties ∈ GL := GL_s3 (q := (yX12_empties, 22)) (List.mem_of_getElem? (i := 12) rfl)
theorem gw_s_3_13 : Cond.selects RX12 yX12_forgets yX12_forgets ∈ GL := GL_s3 (q := (yX12_forgets, 22)) (List.mem_of_getElem? (i := 13) rfl)
theorem gw_6_127 : Cond.code yX12_pours cX12_pours 2 none ∈ GL := GL_6 (List.mem_of_getElem? (i := 127) rfl) rfl
theorem gw_6_123 : Cond.constant RX12 197 (65535) ∈ GL := GL_6 (List.mem_of_getElem? (i := 123) rfl) rfl
theorem gw_6_126 : Cond.instanceMethod yX12_pours ∈ GL := GL_6 (List.mem_of_getElem? (i := 126) rfl) rfl
theorem gw_6_124 : Cond.methodLink RX12 198 yX12_pours ∈ GL := GL_6 (List.mem_of_getElem? (i := 124) rfl) rfl
theorem gw_s_4_7 : Cond.selects RX12 yX12_pours yX12_pours ∈ GL := GL_s4 (q := (yX12_pours, 22)) (List.mem_of_getElem? (i := 7) rfl)
theorem gw_6_122 : Cond.code yX12_blocks cX12_blocks 4 none ∈ GL := GL_6 (List.mem_of_getElem? (i := 122) rfl) rfl
theorem gw_6_110 : Cond.code yX12_comesToHistory cX12_comesToHistory 3 none ∈ GL := GL_6 (List.mem_of_getElem? (i := 110) rfl) rfl
theorem gw_6_114 : Cond.code yX12_comesToRow cX12_comesToRow 3 none ∈ GL := GL_6 (List.mem_of_getElem? (i := 114) rfl) rfl
theorem gw_6_118 : Cond.code yX12_tests cX12_tests 3 (some .int) ∈ GL := GL_6 (List.mem_of_getElem? (i := 118) rfl) rfl
theorem gw_6_121 : Cond.instanceMethod yX12_blocks ∈ GL := GL_6 (List.mem_of_getElem? (i := 121) rfl) rfl
theorem gw_6_109 : Cond.instanceMethod yX12_comesToHistory ∈ GL := GL_6 (List.mem_of_getElem? (i := 109) rfl) rfl
theorem gw_6_113 : Cond.instanceMethod yX12_comesToRow ∈ GL := GL_6 (List.mem_of_getElem? (i := 113) rfl) rfl
theorem gw_6_117 : Cond.instanceMethod yX12_tests ∈ GL := GL_6 (List.mem_of_getElem? (i := 117) rfl) rfl
theorem gw_6_107 : Cond.methodLink RX12 201 yX12_comesToHistory ∈ GL := GL_6 (List.mem_of_getElem? (i := 107) rfl) rfl
theorem gw_6_111 : Cond.methodLink RX12 205 yX12_comesToRow ∈ GL := GL_6 (List.mem_of_getElem? (i := 111) rfl) rfl
theorem gw_6_115 : Cond.methodLink RX12 208 yX12_tests ∈ GL := GL_6 (List.mem_of_getElem? (i := 115) rfl) rfl
theorem gw_6_119 : Cond.methodLink RX12 211 yX12_blocks ∈ GL := GL_6 (List.mem_of_getElem? (i := 119) rfl) rfl
theorem gw_s_4_6 : Cond.selects RX12 yX12_blocks yX12_blocks ∈ GL := GL_s4 (q := (yX12_blocks, 22)) (List.mem_of_getElem? (i := 6) rfl)
theorem gw_s_4_3 : Cond.selects RX12 yX12_comesToHistory yX12_comesToHistory ∈ GL := GL_s4 (q := (yX12_comesToHistory, 22)) (List.mem_of_getElem? (i := 3) rfl)
theorem gw_s_4_4 : Cond.selects RX12 yX12_comesToRow yX12_comesToRow ∈ GL := GL_s4 (q := (yX12_comesToRow, 22)) (List.mem_of_getElem? (i := 4) rfl)
theorem gw_s_4_5 : Cond.selects RX12 yX12_tests yX12_tests ∈ GL := GL_s4 (q := (yX12_tests, 22)) (List.mem_of_getElem? (i := 5) rfl)
theorem gw_6_69 : Cond.code yX12_starts cX12_starts 2 none ∈ GL := GL_6 (List.mem_of_getElem? (i := 69) rfl) rfl
theorem gw_6_68 : Cond.instanceMethod yX12_starts ∈ GL := GL_6 (List.mem_of_getElem? (i := 68) rfl) rfl
theorem gw_6_66 : Cond.methodLink RX12 214 yX12_starts ∈ GL := GL_6 (List.mem_of_getElem? (i := 66) rfl) rfl
theorem gw_s_3_11 : Cond.selects RX12 yX12_starts yX12_starts ∈ GL := GL_s3 (q := (yX12_starts, 22)) (List.mem_of_getElem? (i := 11) rfl)
theorem gw_6_106 : Cond.code yX12_hears cX12_hears 4 (some .boolean) ∈ GL := GL_6 (List.mem_of_getElem? (i := 106) rfl) rfl
theorem gw_6_93 : Cond.code yX12_laysLimits cX12_laysLimits 1 none ∈ GL := GL_6 (List.mem_of_getElem? (i := 93) rfl) rfl
theorem gw_6_97 : Cond.code yX12_sample cX12_sample 4 (some .int) ∈ GL := GL_6 (List.mem_of_getElem? (i := 97) rfl) rfl
theorem gw_6_105 : Cond.instanceMethod yX12_hears ∈ GL := GL_6 (List.mem_of_getElem? (i := 105) rfl) rfl
theorem gw_6_92 : Cond.instanceMethod yX12_laysLimits ∈ GL := GL_6 (List.mem_of_getElem? (i := 92) rfl) rfl
theorem gw_6_96 : Cond.instanceMethod yX12_sample ∈ GL := GL_6 (List.mem_of_getElem? (i := 96) rfl) rfl
theorem gw_6_90 : Cond.methodLink RX12 217 yX12_laysLimits ∈ GL := GL_6 (List.mem_of_getElem? (i := 90) rfl) rfl
theorem gw_6_94 : Cond.methodLink RX12 220 yX12_sample ∈ GL := GL_6 (List.mem_of_getElem? (i := 94) rfl) rfl
theorem gw_6_103 : Cond.methodLink RX12 223 yX12_hears ∈ GL := GL_6 (List.mem_of_getElem? (i := 103) rfl) rfl
theorem gw_s_4_2 : Cond.selects RX12 yX12_hears yX12_hears ∈ GL := GL_s4 (q := (yX12_hears, 22)) (List.mem_of_getElem? (i := 2) rfl)
theorem gw_s_3_15 : Cond.selects RX12 yX12_laysLimits yX12_laysLimits ∈ GL := GL_s3 (q := (yX12_laysLimits, 22)) (List.mem_of_getElem? (i := 15) rfl)
theorem gw_s_4_0 : Cond.selects RX12 yX12_sample yX12_sample ∈ GL := GL_s4 (q := (yX12_sample, 22)) (List.mem_of_getElem? (i := 0) rfl)
theorem gw_6_89 : Cond.code yX12_draws cX12_draws 4 (some .int) ∈ GL := GL_6 (List.mem_of_getElem? (i := 89) rfl) rfl
theorem gw_6_88 : Cond.instanceMethod yX12_draws ∈ GL := GL_6 (List.mem_of_getElem? (i := 88) rfl) rfl
theorem gw_6_86 : Cond.methodLink RX12 227 yX12_draws ∈ GL := GL_6 (List.mem_of_getElem? (i := 86) rfl) rfl
theorem gw_s_3_14 : Cond.selects RX12 yX12_draws yX12_draws ∈ GL := GL_s3 (q := (yX12_draws, 22)) (List.mem_of_getElem? (i := 14) rfl)
theorem gw_6_143 : Cond.code yX12_counted cX12_counted 2 (some .int) ∈ GL := GL_6 (List.mem_of_getElem? (i := 143) rfl) rfl
theorem gw_6_142 : Cond.instanceMethod yX12_counted ∈ GL := GL_6 (List.mem_of_getElem? (i := 142) rfl) rfl
theorem gw_6_140 : Cond.methodLink RX12 230 yX12_counted ∈ GL := GL_6 (List.mem_of_getElem? (i := 140) rfl) rfl
theorem gw_s_4_8 : Cond.selects RX12 yX12_counted yX12_counted ∈ GL := GL_s4 (q := (yX12_counted, 22)) (List.mem_of_getElem? (i := 8) rfl)
theorem gw_6_159 : Cond.code yX12_rowAt cX12_rowAt 3 (some .int) ∈ GL := GL_6 (List.mem_of_getElem? (i := 159) rfl) rfl
theorem gw_6_158 : Cond.instanceMethod yX12_rowAt ∈ GL := GL_6 (List.mem_of_getElem? (i := 158) rfl) rfl
theorem gw_6_156 : Cond.methodLink RX12 233 yX12_rowAt ∈ GL := GL_6 (List.mem_of_getElem? (i := 156) rfl) rfl
theorem gw_s_4_9 : Cond.selects RX12 yX12_rowAt yX12_rowAt ∈ GL := GL_s4 (q := (yX12_rowAt, 22)) (List.mem_of_getElem? (i := 9) rfl)
theorem gw_6_182 : Cond.code yX12_greater cX12_greater 2 (some .int) ∈ GL := GL_6 (List.mem_of_getElem? (i := 182) rfl) rfl
theorem gw_6_179 : Cond.code yX12_late cX12_late 3 (some .int) ∈ GL := GL_6 (List.mem_of_getElem? (i := 179) rfl) rfl
theorem gw_6_178 : Cond.instanceMethod yX12_late ∈ GL := GL_6 (List.mem_of_getElem? (i := 178) rfl) rfl
theorem gw_6_176 : Cond.methodLink RX12 236 yX12_late ∈ GL := GL_6 (List.mem_of_getElem? (i := 176) rfl) rfl
theorem gw_6_180 : Cond.methodLink RX12 239 yX12_greater ∈ GL := GL_6 (List.mem_of_getElem? (i := 180) rfl) rfl
theorem gw_s_4_13 : Cond.selects RX12 yX12_late yX12_late ∈ GL := GL_s4 (q := (yX12_late, 22)) (List.mem_of_getElem? (i := 13) rfl)
theorem gw_6_181 : Cond.static yX12_greater ∈ GL := GL_6 (List.mem_of_getElem? (i := 181) rfl) rfl
theorem gw_5_134 : Cond.fieldLink RX12 242 "NoiseWatchModel" "above" "J" ∈ GL := GL_5 (List.mem_of_getElem? (i := 134) rfl) rfl
theorem gw_5_135 : Cond.fieldLink RX12 245 "NoiseWatchModel" "below" "J" ∈ GL := GL_5 (List.mem_of_getElem? (i := 135) rfl) rfl
theorem gw_6_194 : Cond.code yX12_laysAfter cX12_laysAfter 6 none ∈ GL := GL_6 (List.mem_of_getElem? (i := 194) rfl) rfl
theorem gw_6_193 : Cond.instanceMethod yX12_laysAfter ∈ GL := GL_6 (List.mem_of_getElem? (i := 193) rfl) rfl
theorem gw_6_191 : Cond.methodLink RX12 248 yX12_laysAfter ∈ GL := GL_6 (List.mem_of_getElem? (i := 191) rfl) rfl
theorem gw_s_5_0 : Cond.selects RX12 yX12_laysAfter yX12_laysAfter ∈ GL := GL_s5 (q := (yX12_laysAfter, 22)) (List.mem_of_getElem? (i := 0) rfl)
theorem gw_6_175 : Cond.code yX12_common cX12_common 4 (some .int) ∈ GL := GL_6 (List.mem_of_getElem? (i := 175) rfl) rfl
theorem gw_6_186 : Cond.code yX12_laysCollision cX12_laysCollision 4 none ∈ GL := GL_6 (List.mem_of_getElem? (i := 186) rfl) rfl
theorem gw_6_190 : Cond.code yX12_laysFollow cX12_laysFollow 7 none ∈ GL := GL_6 (List.mem_of_getElem? (i := 190) rfl) rfl
theorem gw_6_174 : Cond.instanceMethod yX12_common ∈ GL := GL_6 (List.mem_of_getElem? (i := 174) rfl) rfl
theorem gw_6_185 : Cond.instanceMethod yX12_laysCollision ∈ GL := GL_6 (List.mem_of_getElem? (i := 185) rfl) rfl
theorem gw_6_189 : Cond.instanceMethod yX12_laysFollow ∈ GL := GL_6 (List.mem_of_getElem? (i := 189) rfl) rfl
theorem gw_6_172 : Cond.methodLink RX12 251 yX12_common ∈ GL := GL_6 (List.mem_of_getElem? (i := 172) rfl) rfl
theorem gw_6_183 : Cond.methodLink RX12 254 yX12_laysCollision ∈ GL := GL_6 (List.mem_of_getElem? (i := 183) rfl) rfl
theorem gw_6_187 : Cond.methodLink RX12 257 yX12_laysFollow ∈ GL := GL_6 (List.mem_of_getElem? (i := 187) rfl) rfl
theorem gw_s_4_12 : Cond.selects RX12 yX12_common yX12_common ∈ GL := GL_s4 (q := (yX12_common, 22)) (List.mem_of_getElem? (i := 12) rfl)
theorem gw_s_4_14 : Cond.selects RX12 yX12_laysCollision yX12_laysCollision ∈ GL := GL_s4 (q := (yX12_laysCollision, 22)) (List.mem_of_getElem? (i := 14) rfl)
theorem gw_s_4_15 : Cond.selects RX12 yX12_laysFollow yX12_laysFollow ∈ GL := GL_s4 (q := (yX12_laysFollow, 22)) (List.mem_of_getElem? (i := 15) rfl)
theorem gw_6_167 : Cond.code yX12_isThere cX12_isThere 3 (some .boolean) ∈ GL := GL_6 (List.mem_of_getElem? (i := 167) rfl) rfl
theorem gw_6_171 : Cond.code yX12_laysBound cX12_laysBound 3 none ∈ GL := GL_6 (List.mem_of_getElem? (i := 171) rfl) rfl
theorem gw_6_166 : Cond.instanceMethod yX12_isThere ∈ GL := GL_6 (List.mem_of_getElem? (i := 166) rfl) rfl
theorem gw_6_170 : Cond.instanceMethod yX12_laysBound ∈ GL := GL_6 (List.mem_of_getElem? (i := 170) rfl) rfl
theorem gw_6_164 : Cond.methodLink RX12 260 yX12_isThere ∈ GL := GL_6 (List.mem_of_getElem? (i := 164) rfl) rfl
theorem gw_6_168 : Cond.methodLink RX12 263 yX12_laysBound ∈ GL := GL_6 (List.mem_of_getElem? (i := 168) rfl) rfl
theorem gw_s_4_10 : Cond.selects RX12 yX12_isThere yX12_isThere ∈ GL := GL_s4 (q := (yX12_isThere, 22)) (List.mem_of_getElem? (i := 10) rfl)
theorem gw_s_4_11 : Cond.selects RX12 yX12_laysBound yX12_laysBound ∈ GL := GL_s4 (q := (yX12_laysBound, 22)) (List.mem_of_getElem? (i := 11) rfl)
theorem gw_6_203 : Cond.constantLong RX12 266 (256) ∈ GL := GL_6 (List.mem_of_getElem? (i := 203) rfl) rfl
theorem gw_6_204 : Cond.constantLong RX12 268 (16) ∈ GL := GL_6 (List.mem_of_getElem? (i := 204) rfl) rfl
theorem gw_6_202 : Cond.code yX12_isHeld cX12_isHeld 4 (some .boolean) ∈ GL := GL_6 (List.mem_of_getElem? (i := 202) rfl) rfl
theorem gw_6_201 : Cond.instanceMethod yX12_isHeld ∈ GL := GL_6 (List.mem_of_getElem? (i := 201) rfl) rfl
theorem gw_6_199 : Cond.methodLink RX12 270 yX12_isHeld ∈ GL := GL_6 (List.mem_of_getElem? (i := 199) rfl) rfl
theorem gw_s_5_1 : Cond.selects RX12 yX12_isHeld yX12_isHeld ∈ GL := GL_s5 (q := (yX12_isHeld, 22)) (List.mem_of_getElem? (i := 1) rfl)
theorem gw_6_216 : Cond.code yX12_isTuple cX12_isTuple 3 (some .boolean) ∈ GL := GL_6 (List.mem_of_getElem? (i := 216) rfl) rfl
theorem gw_6_220 : Cond.code yX12_mostTuple cX12_mostTuple 7 (some .int) ∈ GL := GL_6 (List.mem_of_getElem? (i := 220) rfl) rfl
theorem gw_6_215 : Cond.instanceMethod yX12_isTuple ∈ GL := GL_6 (List.mem_of_getElem? (i := 215) rfl) rfl
theorem gw_6_219 : Cond.instanceMethod yX12_mostTuple ∈ GL := GL_6 (List.mem_of_getElem? (i := 219) rfl) rfl
theorem gw_6_213 : Cond.methodLink RX12 273 yX12_isTuple ∈ GL := GL_6 (List.mem_of_getElem? (i := 213) rfl) rfl
theorem gw_6_217 : Cond.methodLink RX12 276 yX12_mostTuple ∈ GL := GL_6 (List.mem_of_getElem? (i := 217) rfl) rfl
theorem gw_s_5_2 : Cond.selects RX12 yX12_isTuple yX12_isTuple ∈ GL := GL_s5 (q := (yX12_isTuple, 22)) (List.mem_of_getElem? (i := 2) rfl)
theorem gw_s_5_3 : Cond.selects RX12 yX12_mostTuple yX12_mostTuple ∈ GL := GL_s5 (q := (yX12_mostTuple, 22)) (List.mem_of_getElem? (i := 3) rfl)
theorem gw_6_232 : Cond.code yX12_lagged cX12_lagged 5 (some .int) ∈ GL := GL_6 (List.mem_of_getElem? (i := 232) rfl) rfl
theorem gw_6_231 : Cond.instanceMethod yX12_lagged ∈ GL := GL_6 (List.mem_of_getElem? (i := 231) rfl) rfl
theorem gw_6_229 : Cond.methodLink RX12 279 yX12_lagged ∈ GL := GL_6 (List.mem_of_getElem? (i := 229) rfl) rfl
theorem gw_s_5_4 : Cond.selects RX12 yX12_lagged yX12_lagged ∈ GL := GL_s5 (q := (yX12_lagged, 22)) (List.mem_of_getElem? (i := 4) rfl)
theorem gw_7_8 : Cond.code yX12_isWhole cX12_isWhole 2 (some .boolean) ∈ GL := GL_7 (List.mem_of_getElem? (i := 8) rfl) rfl
theorem gw_7_7 : Cond.instanceMethod yX12_isWhole ∈ GL := GL_7 (List.mem_of_getElem? (i := 7) rfl) rfl
theorem gw_7_5 : Cond.methodLink RX12 282 yX12_isWhole ∈ GL := GL_7 (List.mem_of_getElem? (i := 5) rfl) rfl
theorem gw_s_5_6 : Cond.selects RX12 yX12_isWhole yX12_isWhole ∈ GL := GL_s5 (q := (yX12_isWhole, 22)) (List.mem_of_getElem? (i := 6) rfl)
theorem gw_7_16 : Cond.code yX12_ofColumn cX12_ofColumn 5 (some .int) ∈ GL := GL_7 (List.mem_of_getElem? (i := 16) rfl) rfl
theorem gw_7_12 : Cond.code yX12_ofRow cX12_ofRow 4 (some .int) ∈ GL := GL_7 (List.mem_of_getElem? (i := 12) rfl) rfl
theorem gw_7_4 : Cond.code yX12_wholeRows cX12_wholeRows 3 (some .int) ∈ GL := GL_7 (List.mem_of_getElem? (i := 4) rfl) rfl
theorem gw_7_15 : Cond.instanceMethod yX12_ofColumn ∈ GL := GL_7 (List.mem_of_getElem? (i := 15) rfl) rfl
theorem gw_7_11 : Cond.instanceMethod yX12_ofRow ∈ GL := GL_7 (List.mem_of_getElem? (i := 11) rfl) rfl
theorem gw_7_3 : Cond.instanceMethod yX12_wholeRows ∈ GL := GL_7 (List.mem_of_getElem? (i := 3) rfl) rfl
theorem gw_7_1 : Cond.methodLink RX12 285 yX12_wholeRows ∈ GL := GL_7 (List.mem_of_getElem? (i := 1) rfl) rfl
theorem gw_7_9 : Cond.methodLink RX12 288 yX12_ofRow ∈ GL := GL_7 (List.mem_of_getElem? (i := 9) rfl) rfl
theorem gw_7_13 : Cond.methodLink RX12 291 yX12_ofColumn ∈ GL := GL_7 (List.mem_of_getElem? (i := 13) rfl) rfl
theorem gw_s_5_8 : Cond.selects RX12 yX12_ofColumn yX12_ofColumn ∈ GL := GL_s5 (q := (yX12_ofColumn, 22)) (List.mem_of_getElem? (i := 8) rfl)
theorem gw_s_5_7 : Cond.selects RX12 yX12_ofRow yX12_ofRow ∈ GL := GL_s5 (q := (yX12_ofRow, 22)) (List.mem_of_getElem? (i := 7) rfl)
theorem gw_s_5_5 : Cond.selects RX12 yX12_wholeRows yX12_wholeRows ∈ GL := GL_s5 (q := (yX12_wholeRows, 22)) (List.mem_of_getElem? (i := 5) rfl)
theorem gw_7_28 : Cond.code yX12_copies cX12_copies 4 none ∈ GL := GL_7 (List.mem_of_getElem? (i := 28) rfl) rfl
theorem gw_7_27 : Cond.instanceMethod yX12_copies ∈ GL := GL_7 (List.mem_of_getElem? (i := 27) rfl) rfl
theorem gw_7_25 : Cond.methodLink RX12 294 yX12_copies ∈ GL := GL_7 (List.mem_of_getElem? (i := 25) rfl) rfl
theorem gw_s_5_9 : Cond.selects RX12 yX12_copies yX12_copies ∈ GL := GL_s5 (q := (yX12_copies, 22)) (List.mem_of_getElem? (i := 9) rfl)
theorem gw_7_32 : Cond.code yX12_back cX12_back 2 (some .int) ∈ GL := GL_7 (List.mem_of_getElem? (i := 32) rfl) rfl
theorem gw_7_31 : Cond.instanceMethod yX12_back ∈ GL := GL_7 (List.mem_of_getElem? (i := 31) rfl) rfl
theorem gw_7_29 : Cond.methodLink RX12 297 yX12_back ∈ GL := GL_7 (List.mem_of_getElem? (i := 29) rfl) rfl
theorem gw_s_5_10 : Cond.selects RX12 yX12_back yX12_back ∈ GL := GL_s5 (q := (yX12_back, 22)) (List.mem_of_getElem? (i := 10) rfl)
theorem gw_7_44 : Cond.code yX12_alarms cX12_alarms 7 (some .int) ∈ GL := GL_7 (List.mem_of_getElem? (i := 44) rfl) rfl
theorem gw_7_43 : Cond.instanceMethod yX12_alarms ∈ GL := GL_7 (List.mem_of_getElem? (i := 43) rfl) rfl
theorem gw_7_41 : Cond.methodLink RX12 300 yX12_alarms ∈ GL := GL_7 (List.mem_of_getElem? (i := 41) rfl) rfl
theorem gw_s_5_11 : Cond.selects RX12 yX12_alarms yX12_alarms ∈ GL := GL_s5 (q := (yX12_alarms, 22)) (List.mem_of_getElem? (i := 11) rfl)
theorem gw_7_60 : Cond.code yX12_copiesText cX12_copiesText 4 none ∈ GL := GL_7 (List.mem_of_getElem? (i := 60) rfl) rfl
theorem gw_7_59 : Cond.instanceMethod yX12_copiesText ∈ GL := GL_7 (List.mem_of_getElem? (i := 59) rfl) rfl
theorem gw_7_57 : Cond.methodLink RX12 303 yX12_copiesText ∈ GL := GL_7 (List.mem_of_getElem? (i := 57) rfl) rfl
theorem gw_s_5_12 : Cond.selects RX12 yX12_copiesText yX12_copiesText ∈ GL := GL_s5 (q := (yX12_copiesText, 22)) (List.mem_of_getElem? (i := 12) rfl)
