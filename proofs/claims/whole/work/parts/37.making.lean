/-! MAKING a term, on both sides, by rows -/
def gRp (A : Nat → Nat → Int32) (rows : List (Int32 × Int32 × Int32)) (sp : Nat → List Int32) : Prop := gRo (A 2) (A 3) (A 4) (A 5) (A 6) rows sp
def gRm (A : Nat → Nat → Int32) (rows : List (Int32 × Int32 × Int32)) (sp : Nat → List Int32) : Prop := gRo (A 25) (A 26) (A 27) (A 28) (A 29) rows sp
/-- all but the prover's terms (the reference's) is as before -/
def gKt (A : Nat → Nat → Int32) (F : Nat → Int32) (A' : Nat → Nat → Int32) (F' : Nat → Int32) : Prop := (∀ j, j < 2 ∨ 6 < j → A' j = A j) ∧ (∀ j, j ≠ 0 → F' j = F j)
def gKu (A : Nat → Nat → Int32) (F : Nat → Int32) (A' : Nat → Nat → Int32) (F' : Nat → Int32) : Prop := (∀ j, j < 25 ∨ 29 < j → A' j = A j) ∧ (∀ j, j ≠ 21 → F' j = F j)
theorem gKt.refl (A : Nat → Nat → Int32) (F : Nat → Int32) : gKt A F A F := ⟨fun _ _ => rfl, fun _ _ => rfl⟩
theorem gKu.refl (A : Nat → Nat → Int32) (F : Nat → Int32) : gKu A F A F := ⟨fun _ _ => rfl, fun _ _ => rfl⟩
theorem gKt.trans {A A1 A2 : Nat → Nat → Int32} {F F1 F2 : Nat → Int32} (h : gKt A F A1 F1) (k : gKt A1 F1 A2 F2) : gKt A F A2 F2 := ⟨fun j a => (k.1 j a).trans (h.1 j a), fun j a => (k.2 j a).trans (h.2 j a)⟩
theorem gKu.trans {A A1 A2 : Nat → Nat → Int32} {F F1 F2 : Nat → Int32} (h : gKu A F A1 F1) (k : gKu A1 F1 A2 F2) : gKu A F A2 F2 := ⟨fun j a => (k.1 j a).trans (h.1 j a), fun j a => (k.2 j a).trans (h.2 j a)⟩
theorem gmkA_at (A : Nat → Nat → Int32) (i : Nat) (k l r sz cv : Int32) : gmkA A i k l r sz cv 2 = upd (A 2) i k ∧ gmkA A i k l r sz cv 3 = upd (A 3) i l ∧ gmkA A i k l r sz cv 4 = upd (A 4) i r ∧ gmkA A i k l r sz cv 5 = upd (A 5) i sz ∧ gmkA A i k l r sz cv 6 = upd (A 6) i cv := ⟨rfl, rfl, rfl, rfl, rfl⟩
theorem gmkA_ne (A : Nat → Nat → Int32) (i : Nat) (k l r sz cv : Int32) {j : Nat} (h : j < 2 ∨ 6 < j) : gmkA A i k l r sz cv j = A j := by
  unfold gmkA
  rw [g_upn (by omega), g_upn (by omega), g_upn (by omega), g_upn (by omega), g_upn (by omega)]
theorem gknA_ne (A : Nat → Nat → Int32) (i : Nat) (k l r sz cv : Int32) {j : Nat} (h : j < 25 ∨ 29 < j) : gknA A i k l r sz cv j = A j := by
  unfold gknA
  rw [g_upn (by omega), g_upn (by omega), g_upn (by omega), g_upn (by omega), g_upn (by omega)]
theorem gRo.hit {K L R S C : Nat → Int32} {rows : List (Int32 × Int32 × Int32)} {sp : Nat → List Int32} (h : gRo K L R S C rows sp) {k l r : Int32} {j : Nat} (hf : rFind rows k l r = some j) : j < rows.length ∧ sp j = rSp sp rows.length k l r := by
  rw [← h.find] at hf
  obtain ⟨-, h2, h3, h4, h5⟩ := gFind_lt hf
  have hj : j < rows.length := by omega
  refine ⟨hj, ?_⟩
  have := gTr_sp (h.1.2 j hj).2.2.2 (Nat.le_of_lt hj) h.1.1
  rw [h3, h4, h5] at this
  exact this
section X
variable {nw nx : Nat} {LO : Nat → Int64} {DO : Nat → UInt64} {d : Nat} {A : Nat → Nat → Int32} {F : Nat → Int32} {rows : List (Int32 × Int32 × Int32)} {sp : Nat → List Int32}
/-- what making a term leaves -/
def gMk (rows : List (Int32 × Int32 × Int32)) (sp : Nat → List Int32) (k l r : Int32) (sp' : Nat → List Int32) : Prop := (∀ t, t < rows.length → sp' t = sp t) ∧ (∀ j, (rKnow rows k l r).1 = some j → j < (rKnow rows k l r).2.length ∧ sp' j = rSp sp rows.length k l r) ∧ (∃ more, (rKnow rows k l r).2 = rows ++ more)
theorem s_makeR (h : gRp A rows sp) (hF : F 0 = nI rows.length) {k l r : Int32} (hsh : gSh rows.length k l r) (h40 : (rSp sp rows.length k l r).length ≤ 40) : ∃ A' F' sp', gRp A' (rKnow rows k l r).2 sp' ∧ F' 0 = nI (rKnow rows k l r).2.length ∧ gMk rows sp k l r sp' ∧ gKt A F A' F' ∧ gm_Sp gm_MT (d + 4) 5009 [.ref 1, .int k, .int l, .int r] (gw A F nw nx LO DO) (.inl (some (.int (gOI (rKnow rows k l r).1)))) (gw A' F' nw nx LO DO) 0 0 := by
  have hfind := h.find k l r
  have hn := h.1.1
  cases hf : rFind rows k l r with
  | some j =>
    have hk : rKnow rows k l r = (some j, rows) := by unfold rKnow; rw [hf]
    rw [hf] at hfind
    refine ⟨A, F, sp, by rw [hk]; exact h, by rw [hk]; exact hF, ⟨fun _ _ => rfl, fun i hi => ?_, ⟨[], by rw [hk]; simp⟩⟩, gKt.refl A F, by rw [hk]; exact s_make1 k l r hn hF hfind⟩
    rw [hk] at hi ⊢
    cases hi
    exact h.hit hf
  | none =>
    rw [hf] at hfind
    by_cases h120 : rows.length = 120
    · have hk : rKnow rows k l r = (none, rows) := by unfold rKnow; rw [hf]; exact if_pos h120
      refine ⟨A, F, sp, by rw [hk]; exact h, by rw [hk]; exact hF, ⟨fun _ _ => rfl, fun i hi => ?_, ⟨[], by rw [hk]; simp⟩⟩, gKt.refl A F, by rw [hk]; exact s_make2 k l r hn hF hfind (Or.inr h120)⟩
      rw [hk] at hi
      cases hi
    · have hk : rKnow rows k l r = (some rows.length, rows ++ [(k, l, r)]) := by unfold rKnow; rw [hf]; exact if_neg h120
      have hlt : rows.length < 120 := by omega
      have hadd := h.add hlt hsh h40
      have hsz : gmkS A rows.length l r = nI (rSp sp rows.length k l r).length := by
        have := (hadd.1.2 rows.length (by simp)).2.1
        rw [upd_at, g_upe] at this
        exact this
      have hns : ¬ nI 40 < gmkS A rows.length l r := by
        rw [hsz]
        exact nI_nlt h40 (by omega)
      refine ⟨_, _, va_up sp rows.length (rSp sp rows.length k l r), ?_, ?_, ⟨fun t ht => g_upn (by omega), fun i hi => ?_, ⟨[(k, l, r)], by rw [hk]⟩⟩, ⟨fun j hj => gmkA_ne _ _ _ _ _ _ _ hj, fun j hj => g_upn hj⟩, by rw [hk]; exact s_make3 k l r hlt hF hfind hns (gSg_ch hsh.1)⟩
      · rw [hk]; exact hadd
      · rw [hk, g_upe]; simp
      · rw [hk] at hi ⊢
        cases hi
        exact ⟨by simp, g_upe⟩
theorem s_knowR (h : gRm A rows sp) (hF : F 21 = nI rows.length) {k l r : Int32} (hsh : gSh rows.length k l r) (h40 : (rSp sp rows.length k l r).length ≤ 40) : ∃ A' F' sp', gRm A' (rKnow rows k l r).2 sp' ∧ F' 21 = nI (rKnow rows k l r).2.length ∧ gMk rows sp k l r sp' ∧ gKu A F A' F' ∧ gm_Sp gm_MT (d + 3) 8008 [.ref 24, .int k, .int l, .int r] (gw A F nw nx LO DO) (.inl (some (.int (gOI (rKnow rows k l r).1)))) (gw A' F' nw nx LO DO) 0 0 := by
  have hfind := h.find k l r
  have hn := h.1.1
  cases hf : rFind rows k l r with
  | some j =>
    have hk : rKnow rows k l r = (some j, rows) := by unfold rKnow; rw [hf]
    rw [hf] at hfind
    refine ⟨A, F, sp, by rw [hk]; exact h, by rw [hk]; exact hF, ⟨fun _ _ => rfl, fun i hi => ?_, ⟨[], by rw [hk]; simp⟩⟩, gKu.refl A F, by rw [hk]; exact s_know1 hn hF hfind⟩
    rw [hk] at hi ⊢
    cases hi
    exact h.hit hf
  | none =>
    rw [hf] at hfind
    by_cases h120 : rows.length = 120
    · have hk : rKnow rows k l r = (none, rows) := by unfold rKnow; rw [hf]; exact if_pos h120
      refine ⟨A, F, sp, by rw [hk]; exact h, by rw [hk]; exact hF, ⟨fun _ _ => rfl, fun i hi => ?_, ⟨[], by rw [hk]; simp⟩⟩, gKu.refl A F, ?_⟩
      · rw [hk] at hi
        cases hi
      · rw [hk]
        rw [h120] at hF hfind
        exact s_know2 hF hfind
    · have hk : rKnow rows k l r = (some rows.length, rows ++ [(k, l, r)]) := by unfold rKnow; rw [hf]; exact if_neg h120
      have hlt : rows.length < 120 := by omega
      have hadd := h.add hlt hsh h40
      refine ⟨_, _, va_up sp rows.length (rSp sp rows.length k l r), ?_, ?_, ⟨fun t ht => g_upn (by omega), fun i hi => ?_, ⟨[(k, l, r)], by rw [hk]⟩⟩, ⟨fun j hj => gknA_ne _ _ _ _ _ _ _ hj, fun j hj => g_upn hj⟩, by rw [hk]; exact s_know3 hlt hF hfind hsh⟩
      · rw [hk]; exact hadd
      · rw [hk, g_upe]; simp
      · rw [hk] at hi ⊢
        cases hi
        exact ⟨by simp, g_upe⟩
end X