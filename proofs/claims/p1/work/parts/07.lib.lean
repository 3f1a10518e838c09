-- ===== my library: worlds replaced at places, contracts in one form, calls in one row =====
section LIBA
/-- the value is named -/
def bnd {α ρ : Type} (x : α) (k : α → Option ρ) : Option ρ := k x
theorem bnd_el {α ρ : Type} {x : α} {k : α → Option ρ} {r : ρ} (h : bnd x k = some r) : ∃ y, y = x ∧ k y = some r := ⟨x, rfl, h⟩
def chkin {ρ : Type} (i : Int32) (n : Nat) (k : Option ρ) : Option ρ := if i < 0 ∨ n ≤ i.toNatClampNeg then none else k
theorem chkin_el {ρ : Type} {i : Int32} {n : Nat} {k : Option ρ} {r : ρ} (h : chkin i n k = some r) : vp_in i n ∧ k = some r := by
  unfold chkin at h
  by_cases q : i < 0 ∨ n ≤ i.toNatClampNeg
  · rw [if_pos q] at h; cases h
  · rw [if_neg q] at h; exact ⟨q, h⟩
def chknz {ρ : Type} (i : Int32) (k : Option ρ) : Option ρ := if i = 0 then none else k
theorem chknz_el {ρ : Type} {i : Int32} {k : Option ρ} {r : ρ} (h : chknz i k = some r) : ¬ i = 0 ∧ k = some r := by
  unfold chknz at h
  by_cases q : i = 0
  · rw [if_pos q] at h; cases h
  · rw [if_neg q] at h; exact ⟨q, h⟩
def chkbo {ρ : Type} (i : Int32) (k : Option ρ) : Option ρ := if i = 0 ∨ i = 1 then k else none
theorem chkbo_el {ρ : Type} {i : Int32} {k : Option ρ} {r : ρ} (h : chkbo i k = some r) : (i = 0 ∨ i = 1) ∧ k = some r := by
  unfold chkbo at h
  by_cases q : i = 0 ∨ i = 1
  · rw [if_pos q] at h; exact ⟨q, h⟩
  · rw [if_neg q] at h; cases h
def chkout {ρ : Type} (x : Int32) (lo hi : Int) (k : Option ρ) : Option ρ := if x.toInt < lo ∨ hi < x.toInt then k else none
theorem chkout_el {ρ : Type} {x : Int32} {lo hi : Int} {k : Option ρ} {r : ρ} (h : chkout x lo hi k = some r) : (x.toInt < lo ∨ hi < x.toInt) ∧ k = some r := by
  unfold chkout at h
  by_cases q : x.toInt < lo ∨ hi < x.toInt
  · rw [if_pos q] at h; exact ⟨q, h⟩
  · rw [if_neg q] at h; cases h
theorem ite_t {c : Prop} [Decidable c] {ρ : Type} {a b : Option ρ} {r : ρ} (q : c) (h : (if c then a else b) = some r) : a = some r := by rw [if_pos q] at h; exact h
theorem ite_f {c : Prop} [Decidable c] {ρ : Type} {a b : Option ρ} {r : ρ} (q : ¬ c) (h : (if c then a else b) = some r) : b = some r := by rw [if_neg q] at h; exact h
def bnd0 {ρ : Type} (o : Option Unit) (k : Option ρ) : Option ρ := match o with
  | some _ => k
  | none => none
theorem bnd0_el {ρ : Type} {o : Option Unit} {k : Option ρ} {r : ρ} (h : bnd0 o k = some r) : o = some () ∧ k = some r := by
  cases o with
  | none => cases h
  | some a => exact ⟨rfl, h⟩
def bnd1 {α ρ : Type} (o : Option α) (k : α → Option ρ) : Option ρ := match o with
  | some a => k a
  | none => none
theorem bnd1_el {α ρ : Type} {o : Option α} {k : α → Option ρ} {r : ρ} (h : bnd1 o k = some r) : ∃ a, o = some a ∧ k a = some r := by
  cases o with
  | none => cases h
  | some a => exact ⟨a, rfl, h⟩
def bnd2 {α β ρ : Type} (o : Option (α × β)) (k : α → β → Option ρ) : Option ρ := match o with
  | some a => k a.1 a.2
  | none => none
theorem bnd2_el {α β ρ : Type} {o : Option (α × β)} {k : α → β → Option ρ} {r : ρ} (h : bnd2 o k = some r) : ∃ a b, o = some (a, b) ∧ k a b = some r := by
  cases o with
  | none => cases h
  | some a => exact ⟨a.1, a.2, rfl, h⟩
def bnd3 {α β γ ρ : Type} (o : Option (α × β × γ)) (k : α → β → γ → Option ρ) : Option ρ := match o with
  | some a => k a.1 a.2.1 a.2.2
  | none => none
theorem bnd3_el {α β γ ρ : Type} {o : Option (α × β × γ)} {k : α → β → γ → Option ρ} {r : ρ} (h : bnd3 o k = some r) : ∃ a b c, o = some (a, b, c) ∧ k a b c = some r := by
  cases o with
  | none => cases h
  | some a => exact ⟨a.1, a.2.1, a.2.2, rfl, h⟩
def bnd4 {α β γ δ ρ : Type} (o : Option (α × β × γ × δ)) (k : α → β → γ → δ → Option ρ) : Option ρ := match o with
  | some a => k a.1 a.2.1 a.2.2.1 a.2.2.2
  | none => none
theorem bnd4_el {α β γ δ ρ : Type} {o : Option (α × β × γ × δ)} {k : α → β → γ → δ → Option ρ} {r : ρ} (h : bnd4 o k = some r) : ∃ a b c d, o = some (a, b, c, d) ∧ k a b c d = some r := by
  cases o with
  | none => cases h
  | some a => exact ⟨a.1, a.2.1, a.2.2.1, a.2.2.2, rfl, h⟩
/-- fuel of every loop -/
def FU : Nat := 8589934592
end LIBA
section LIBB
/-- a world with the cells at the places 'is' replaced -/
def wrep : va_W → List Nat → va_W → va_W
  | ws, i :: is, w :: wn => wrep (ws.set i w) is wn
  | ws, _, _ => ws
theorem wrep_get : ∀ (is : List Nat) (wn ws : va_W), is.length = wn.length → ∀ (k : Nat) (q : Nat × va_E), (wrep ws is wn)[k]? = some q → (∃ j : Nat, is[j]? = some k ∧ wn[j]? = some q) ∨ (ws[k]? = some q ∧ k ∉ is)
  | [], wn, ws, _, k, q, h => Or.inr ⟨by simpa [wrep] using h, List.not_mem_nil⟩
  | i :: is, [], ws, hl, k, q, h => by simp at hl
  | i :: is, w :: wn, ws, hl, k, q, h => by
    have hl' : is.length = wn.length := by simpa using hl
    rcases wrep_get is wn (ws.set i w) hl' k q h with ⟨j, h1, h2⟩ | ⟨h1, h2⟩
    · exact Or.inl ⟨j + 1, by simpa using h1, by simpa using h2⟩
    · by_cases hk : i = k
      · subst hk
        rw [List.getElem?_set] at h1
        simp only [if_true] at h1
        split at h1
        · exact Or.inl ⟨0, rfl, by simpa using h1⟩
        · cases h1
      · rw [List.getElem?_set, if_neg hk] at h1
        exact Or.inr ⟨h1, fun hm => by rcases List.mem_cons.mp hm with e | e; exact hk e.symm; exact h2 e⟩
theorem wrep_fst : ∀ (is : List Nat) (wn ws : va_W), is.map (fun i => (ws[i]?).map Prod.fst) = wn.map (fun w => some w.1) → (wrep ws is wn).map Prod.fst = ws.map Prod.fst
  | [], wn, ws, _ => by simp [wrep]
  | i :: is, [], ws, h => by simp [wrep]
  | i :: is, w :: wn, ws, h => by
    have h1 : (ws[i]?).map Prod.fst = some w.1 := (List.cons.inj h).1
    have h2 := (List.cons.inj h).2
    have e : (ws.set i w).map Prod.fst = ws.map Prod.fst := by
      rw [List.map_set]
      apply List.ext_getElem?
      intro k
      rw [List.getElem?_set]
      by_cases hk : i = k
      · subst hk
        simp only [if_true, List.getElem?_map, h1]
        split
        · rfl
        · rename_i hlt
          have : ws[i]? = none := List.getElem?_eq_none (by simpa using hlt)
          rw [this] at h1; cases h1
      · rw [if_neg hk]
    have e2 : ∀ j : Nat, ((ws.set i w)[j]?).map Prod.fst = (ws[j]?).map Prod.fst := fun j => by
      rw [← List.getElem?_map, ← List.getElem?_map, e]
    show (wrep (ws.set i w) is wn).map Prod.fst = _
    rw [wrep_fst is wn (ws.set i w) (by rw [← h2]; exact List.map_congr_left (fun j _ => e2 j)), e]
theorem va_D_fst {A : Nat → Prop} {w1 w2 : va_W} (h : w1.map Prod.fst = w2.map Prod.fst) (hD : va_D A w2) : va_D A w1 := by
  have tr : ∀ (k : Nat) (q : Nat × va_E), w1[k]? = some q → ∃ q', w2[k]? = some q' ∧ q'.1 = q.1 := by
    intro k q hq
    have : (w2.map Prod.fst)[k]? = some q.1 := by rw [← h, List.getElem?_map, hq]; rfl
    rw [List.getElem?_map] at this
    cases h2 : w2[k]? with
    | none => rw [h2] at this; cases this
    | some q' => rw [h2] at this; exact ⟨q', rfl, Option.some.inj this⟩
  refine ⟨fun i j p q hp hq e => ?_, fun k q hq => ?_⟩
  · obtain ⟨p', h1, e1⟩ := tr i p hp
    obtain ⟨q', h2, e2⟩ := tr j q hq
    exact hD.1 i j p' q' h1 h2 (by rw [e1, e2, e])
  · obtain ⟨q', h1, e1⟩ := tr k q hq
    rw [← e1]; exact hD.2 k q' h1
theorem wat {is : List Nat} {ws w : va_W} (hs : is.map (fun i => ws[i]?) = w.map some) (k : Nat) (q : Nat × va_E) (hq : w[k]? = some q) : ∃ i : Nat, is[k]? = some i ∧ ws[i]? = some q := by
  have h1 : (is.map (fun i => ws[i]?))[k]? = some (some q) := by rw [hs, List.getElem?_map, hq]; rfl
  rw [List.getElem?_map] at h1
  cases hi : is[k]? with
  | none => rw [hi] at h1; cases h1
  | some i => rw [hi] at h1; exact ⟨i, rfl, Option.some.inj h1⟩
theorem va_P_pick {D : va_G} {cl : List vw_C} {is : List Nat} {ws wc : va_W} {H : Heap} (hP : va_P D cl ws H) (hC : is.map (fun i => ws[i]?) = wc.map some) : va_P D cl wc H := fun k q hq => by
  obtain ⟨i, -, h⟩ := wat hC k q hq
  exact hP i q h
theorem wrep_P {A : Nat → Prop} {D : va_G} {cl : List vw_C} {ws wc wn : va_W} {H H1 : Heap} (hP : va_P D cl ws H) (hD : va_D A ws) (is : List Nat) (hC : is.map (fun i => ws[i]?) = wc.map some) (hf : wn.map Prod.fst = wc.map Prod.fst)
    (hk : ∀ q : Nat, q < H.size → ¬ va_A wc H.size q → H1[q]? = H[q]?) (hP1 : va_P D cl wn H1) : va_P D cl (wrep ws is wn) H1 ∧ va_D A (wrep ws is wn) := by
  have hlen : is.length = wn.length := by
    have h1 := congrArg List.length hC
    have h2 := congrArg List.length hf
    simp only [List.length_map] at h1 h2
    omega
  refine ⟨fun k q h => ?_, va_D_fst (wrep_fst is wn ws ?_) hD⟩
  · rcases wrep_get is wn ws hlen k q h with ⟨j, -, h2⟩ | ⟨h1, h2⟩
    · exact hP1 j q h2
    · have hl := (hP k q h1).lt
      refine (hP k q h1).kept (hk q.1 hl fun ha => ?_)
      rcases ha with ⟨k2, e, h3⟩ | h3
      · obtain ⟨i, g1, g2⟩ := wat hC k2 (q.1, e) h3
        have := hD.1 k i q (q.1, e) h1 g2 rfl
        subst this
        exact h2 (List.mem_of_getElem? g1)
      · omega
  · have : is.map (fun i => (ws[i]?).map Prod.fst) = (is.map (fun i => ws[i]?)).map (fun o => o.map Prod.fst) := by rw [List.map_map]; rfl
    rw [this, hC, List.map_map]
    have e3 : wn.map (fun w => some w.1) = (wn.map Prod.fst).map some := by rw [List.map_map]; rfl
    rw [e3, hf, List.map_map]
    rfl
end LIBB
