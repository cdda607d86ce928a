/-! TABLES: the codes, the places that throw -/
def gm_putb (M : pM) : Bool := M.2.2.2.2.2.1.all (fun q => match q.2.1 with
  | .putfield k => (match gm_asc M.2.2.2.2.2.2.2.1 k with
    | some f => (match vwCl[f.1]? with
      | some r => !(r.2.1 f.2).2.2.2 || (M.2.1.name == "<init>" && (r.2.1 f.2).1 == M.1)
      | none => true)
    | none => true)
  | _ => true)
theorem gm_putb_of {M : pM} (h : gm_putb M = true) : ∀ pc k len, gm_asc M.2.2.2.2.2.1 pc = some (.putfield k, len) → ∀ f r, gm_asc M.2.2.2.2.2.2.2.1 k = some f → vwCl[f.1]? = some r → (r.2.1 f.2).2.2.2 = false ∨ ((r.2.1 f.2).2.2.2 = true ∧ M.2.1.name = "<init>" ∧ (r.2.1 f.2).1 = M.1) := by
  intro pc k len h1 f r h2 h3
  have h4 := List.all_eq_true.mp h (pc, .putfield k, len) (gm_asc_mem h1)
  dsimp only at h4
  rw [h2] at h4
  dsimp only at h4
  rw [h3] at h4
  dsimp only at h4
  cases hf : (r.2.1 f.2).2.2.2 with
  | false => exact Or.inl rfl
  | true =>
    rw [hf] at h4
    simp only [Bool.not_true, Bool.false_or, Bool.and_eq_true, beq_iff_eq] at h4
    exact Or.inr ⟨rfl, h4.1, h4.2⟩
def gm_sites (ex : List (Nat × String)) : List (Nat × Instr × Nat) → List (Nat × Nat × String)
  | [] => []
  | (pc, i, _) :: r => match i with
    | .new k => (match gm_asc ex k with
      | some E => (pc, k, E) :: gm_sites ex r
      | none => gm_sites ex r)
    | _ => gm_sites ex r
theorem gm_sites_mem {ex : List (Nat × String)} : ∀ {c : List (Nat × Instr × Nat)} {pc k len : Nat} {E : String}, (pc, Instr.new k, len) ∈ c → gm_asc ex k = some E → (pc, k, E) ∈ gm_sites ex c
  | [], pc, k, len, E, h, _ => by simp at h
  | (pc0, i0, len0) :: r, pc, k, len, E, h, h2 => by
    rcases List.mem_cons.mp h with h | h
    · cases h
      simp only [gm_sites, h2]
      exact List.mem_cons_self
    · have := gm_sites_mem (ex := ex) h h2
      unfold gm_sites
      cases i0 with
      | new k0 =>
        dsimp only
        cases hk : gm_asc ex k0 with
        | none => exact this
        | some E0 => exact List.mem_cons_of_mem _ this
      | _ => exact this
theorem gm_Tok_of {M : pM} (h1 : gm_sites M.2.2.2.2.2.2.2.2.2.2.2 M.2.2.2.2.2.1 = []) (h2 : M.2.2.2.2.2.2.1 = []) : gm_Tok M := by
  refine ⟨fun pc k len E a b => ?_, fun q hq => ?_, fun z => absurd h2 z⟩
  · have := gm_sites_mem (gm_asc_mem a) b
    rw [h1] at this
    cases this
  · rw [h2] at hq
    cases hq

theorem gm_E98w : ∀ w ∈ gx_at RX6 98 "java/lang/IllegalArgumentException" 7 Bundle.six gm_names, w ∈ lw_tbl ∧ (goodWord w || gm_isn w) = true := by decide +kernel
theorem gm_E98 : gm_Eok 94 98 "java/lang/IllegalArgumentException" := ⟨by decide +kernel, by decide +kernel, gm_u296, gm_U_in (List.mem_of_getElem? (l := lw_tbl) (i := 76) (by decide +kernel)) rfl, List.mem_of_getElem? (l := lw_tbl) (i := 298) (by decide +kernel), 7, Bundle.six, by decide +kernel, by decide +kernel, by decide +kernel, by decide +kernel, gm_E98w⟩
theorem gm_E84w : ∀ w ∈ gx_at RX6 84 "java/lang/IllegalStateException" 7 Bundle.six gm_names, w ∈ lw_tbl ∧ (goodWord w || gm_isn w) = true := by decide +kernel
theorem gm_E84 : gm_Eok 80 84 "java/lang/IllegalStateException" := ⟨by decide +kernel, by decide +kernel, gm_u398, gm_U_in (List.mem_of_getElem? (l := lw_tbl) (i := 77) (by decide +kernel)) rfl, List.mem_of_getElem? (l := lw_tbl) (i := 400) (by decide +kernel), 7, Bundle.six, by decide +kernel, by decide +kernel, by decide +kernel, by decide +kernel, gm_E84w⟩
theorem gm_E93w : ∀ w ∈ gx_at RX6 93 "java/lang/IndexOutOfBoundsException" 7 Bundle.six gm_names, w ∈ lw_tbl ∧ (goodWord w || gm_isn w) = true := by decide +kernel
theorem gm_E93 : gm_Eok 89 93 "java/lang/IndexOutOfBoundsException" := ⟨by decide +kernel, by decide +kernel, gm_u441, gm_U_in (List.mem_of_getElem? (l := lw_tbl) (i := 78) (by decide +kernel)) rfl, List.mem_of_getElem? (l := lw_tbl) (i := 443) (by decide +kernel), 7, Bundle.six, by decide +kernel, by decide +kernel, by decide +kernel, by decide +kernel, gm_E93w⟩
theorem gm_E73w : ∀ w ∈ gx_at RX6 73 "java/util/NoSuchElementException" 13 prog_21_method_4_code gm_names, w ∈ lw_tbl ∧ (goodWord w || gm_isn w) = true := by decide +kernel
theorem gm_E73 : gm_Eok 69 73 "java/util/NoSuchElementException" := ⟨by decide +kernel, by decide +kernel, gm_u505, gm_U_in (List.mem_of_getElem? (l := lw_tbl) (i := 79) (by decide +kernel)) rfl, List.mem_of_getElem? (l := lw_tbl) (i := 507) (by decide +kernel), 13, prog_21_method_4_code, by decide +kernel, by decide +kernel, by decide +kernel, by decide +kernel, gm_E73w⟩
theorem gm_E172w : ∀ w ∈ gx_at RX6 172 "java/lang/UnsupportedOperationException" 7 Bundle.six gm_names, w ∈ lw_tbl ∧ (goodWord w || gm_isn w) = true := by decide +kernel
theorem gm_E172 : gm_Eok 168 172 "java/lang/UnsupportedOperationException" := ⟨by decide +kernel, by decide +kernel, gm_u700, gm_U_in (List.mem_of_getElem? (l := lw_tbl) (i := 82) (by decide +kernel)) rfl, List.mem_of_getElem? (l := lw_tbl) (i := 702) (by decide +kernel), 7, Bundle.six, by decide +kernel, by decide +kernel, by decide +kernel, by decide +kernel, gm_E172w⟩
