/-! TABLES as lists of rows: what both sides know -/
def rFind (rows : List (Int32 × Int32 × Int32)) (k l r : Int32) : Option Nat := gFind (fun t => (rows.getD t (0, 0, 0)).1) (fun t => (rows.getD t (0, 0, 0)).2.1) (fun t => (rows.getD t (0, 0, 0)).2.2) k l r rows.length 0
/-- a triple is found, added, or there is no room -/
def rKnow (rows : List (Int32 × Int32 × Int32)) (k l r : Int32) : Option Nat × List (Int32 × Int32 × Int32) := match rFind rows k l r with
  | some j => (some j, rows)
  | none => if rows.length = 120 then (none, rows) else (some rows.length, rows ++ [(k, l, r)])
theorem gFind_congr {K L R K' L' R' : Nat → Int32} {k l r : Int32} : ∀ {m i : Nat}, (∀ t, t < i + m → K t = K' t ∧ L t = L' t ∧ R t = R' t) → gFind K L R k l r m i = gFind K' L' R' k l r m i
  | 0, _, _ => rfl
  | m + 1, i, h => by
    obtain ⟨h1, h2, h3⟩ := h i (by omega)
    unfold gFind
    rw [h1, h2, h3, gFind_congr (m := m) (i := i + 1) (fun t ht => h t (by omega))]
/-- a table of rows: its terms, sizes, covers, and what they spell -/
def gRo (K L R S C : Nat → Int32) (rows : List (Int32 × Int32 × Int32)) (sp : Nat → List Int32) : Prop := gTb K L R S rows.length sp ∧ (∀ t, t < rows.length → rows.getD t (0, 0, 0) = (K t, L t, R t)) ∧ (∀ t, t < rows.length → C t = gCov (K t) (gO C (gT t (L t)) 0) (gO C (gT t (R t)) 0))
theorem gRo.find {K L R S C : Nat → Int32} {rows : List (Int32 × Int32 × Int32)} {sp : Nat → List Int32} (h : gRo K L R S C rows sp) (k l r : Int32) : gFind K L R k l r rows.length 0 = rFind rows k l r := by
  unfold rFind
  refine gFind_congr (fun t ht => ?_)
  rw [h.2.1 t (by omega)]
  exact ⟨rfl, rfl, rfl⟩
/-- what the triple spells -/
def rSp (sp : Nat → List Int32) (n : Nat) (k l r : Int32) : List Int32 := k :: ((match gT n l with | some a => sp a | none => []) ++ (match gT n r with | some b => sp b | none => []))
theorem gTr_sp {K L R : Nat → Int32} {sp : Nat → List Int32} {t n : Nat} (h : gTr K L R sp t) (htn : t ≤ n) (hn : n ≤ 120) : sp t = rSp sp n (K t) (L t) (R t) := by
  unfold rSp
  rcases h with ⟨-, hl, hr, hs⟩ | ⟨-, hr, a, ha, hl, hs⟩ | ⟨-, a, b, ha, hb, hl, hr, hs⟩
  · rw [hl, hr, gT_m1, hs]; rfl
  · rw [hl, hr, gT_m1, gT_nI (by omega) hn, hs]; simp
  · rw [hl, hr, gT_nI (by omega) hn, gT_nI (by omega) hn, hs]
theorem upd_lt {f : Nat → Int32} {n t : Nat} {v : Int32} (h : t < n) : upd f n v t = f t := by simp [upd, Nat.ne_of_lt h]
theorem upd_at {f : Nat → Int32} {n : Nat} {v : Int32} : upd f n v n = v := by simp [upd]
/-- a row more -/
theorem gRo.add {K L R S C : Nat → Int32} {rows : List (Int32 × Int32 × Int32)} {sp : Nat → List Int32} (h : gRo K L R S C rows sp) (hn : rows.length < 120) {k l r : Int32} (hsh : gSh rows.length k l r) (h40 : (rSp sp rows.length k l r).length ≤ 40) : gRo (upd K rows.length k) (upd L rows.length l) (upd R rows.length r) (upd S rows.length (1 + gO S (gT rows.length l) 0 + gO S (gT rows.length r) 0)) (upd C rows.length (gCov k (gO C (gT rows.length l) 0) (gO C (gT rows.length r) 0))) (rows ++ [(k, l, r)]) (va_up sp rows.length (rSp sp rows.length k l r)) := by
  obtain ⟨⟨hb1, hb⟩, hrow, hcv⟩ := h
  generalize hN : rows.length = n at *
  have hlen : (rows ++ [(k, l, r)]).length = n + 1 := by rw [List.length_append, hN]; rfl
  have cov_eq : ∀ {t : Nat} {x : Int32} {v : Int32}, t ≤ n → gO (upd C n v) (gT t x) 0 = gO C (gT t x) 0 := by
    intro t x v ht
    rcases gT_cases x (n := t) (by omega) with ⟨j, hj, -, hg⟩ | ⟨hg, -⟩
    · rw [hg]; exact upd_lt (by omega)
    · rw [hg]; rfl
  refine ⟨⟨by rw [hlen]; omega, fun t ht => ?_⟩, fun t ht => ?_, fun t ht => ?_⟩
  · rw [hlen] at ht
    by_cases hlt : t < n
    · obtain ⟨b1, b2, b3, b4⟩ := hb t hlt
      have es : va_up sp n (rSp sp n k l r) t = sp t := g_upn (by omega)
      rw [es, upd_lt hlt, upd_lt hlt]
      refine ⟨b1, b2, b3, ?_⟩
      unfold gTr
      rw [es, upd_lt hlt, upd_lt hlt, upd_lt hlt]
      rcases b4 with c | ⟨c1, c2, a, ha, c3, c4⟩ | ⟨c1, a, b, ha, hb', c2, c3, c4⟩
      · exact Or.inl c
      · refine Or.inr (Or.inl ⟨c1, c2, a, ha, c3, ?_⟩)
        rw [g_upn (by omega)]; exact c4
      · refine Or.inr (Or.inr ⟨c1, a, b, ha, hb', c2, c3, ?_⟩)
        rw [g_upn (by omega), g_upn (by omega)]; exact c4
    · have htn : t = n := by omega
      subst htn
      rw [g_upe, upd_at, upd_at]
      obtain ⟨hk, hh⟩ := hsh
      refine ⟨h40, ?_, hk, ?_⟩
      · unfold rSp
        rcases hh with ⟨c1, c2, c3⟩ | ⟨c1, c2, a, ha, c3⟩ | ⟨c1, a, b, ha, hb', c2, c3⟩
        · rw [c2, c3, gT_m1]; rfl
        · rw [c2, c3, gT_m1, gT_nI ha (by omega)]
          obtain ⟨-, b2, -⟩ := hb a ha
          show 1 + S a + 0 = _
          rw [b2]
          simp only [List.append_nil, List.length_cons]
          rw [Int32.add_zero, ← nI_1, Int32.add_comm]
        · rw [c2, c3, gT_nI ha (by omega), gT_nI hb' (by omega)]
          obtain ⟨-, b2, -⟩ := hb a ha
          obtain ⟨-, b3, -⟩ := hb b hb'
          show 1 + S a + S b = _
          rw [b2, b3]
          simp only [List.length_cons, List.length_append]
          rw [show (1 : Int32) = nI 1 from rfl, nI_add, nI_add]
          congr 1
          omega
      · unfold gTr
        rw [g_upe, upd_at, upd_at, upd_at]
        unfold rSp
        rcases hh with ⟨c1, c2, c3⟩ | ⟨c1, c2, a, ha, c3⟩ | ⟨c1, a, b, ha, hb', c2, c3⟩
        · refine Or.inl ⟨c1, c2, c3, ?_⟩
          rw [c2, c3, gT_m1]; rfl
        · refine Or.inr (Or.inl ⟨c1, c2, a, ha, c3, ?_⟩)
          rw [c2, c3, gT_m1, gT_nI ha (by omega), g_upn (by omega)]
          simp
        · refine Or.inr (Or.inr ⟨c1, a, b, ha, hb', c2, c3, ?_⟩)
          rw [c2, c3, gT_nI ha (by omega), gT_nI hb' (by omega), g_upn (by omega), g_upn (by omega)]
  · rw [hlen] at ht
    by_cases hlt : t < n
    · rw [upd_lt hlt, upd_lt hlt, upd_lt hlt, ← hrow t hlt, List.getD_eq_getElem?_getD, List.getElem?_append_left (by omega), ← List.getD_eq_getElem?_getD]
    · have htn : t = n := by omega
      subst htn
      rw [upd_at, upd_at, upd_at, List.getD_eq_getElem?_getD, List.getElem?_append_right (by omega), hN, Nat.sub_self]
      rfl
  · rw [hlen] at ht
    rw [cov_eq (by omega), cov_eq (by omega)]
    by_cases hlt : t < n
    · rw [upd_lt hlt, upd_lt hlt, upd_lt hlt, upd_lt hlt]
      exact hcv t hlt
    · have htn : t = n := by omega
      subst htn
      rw [upd_at, upd_at, upd_at, upd_at]
/-- fewer rows -/
theorem gRo.cut {K L R S C : Nat → Int32} {rows more : List (Int32 × Int32 × Int32)} {sp : Nat → List Int32} (h : gRo K L R S C (rows ++ more) sp) : gRo K L R S C rows sp := by
  obtain ⟨⟨hb1, hb⟩, hrow, hcv⟩ := h
  rw [List.length_append] at *
  refine ⟨⟨by omega, fun t ht => hb t (by omega)⟩, fun t ht => ?_, fun t ht => hcv t (by omega)⟩
  rw [← hrow t (by omega), List.getD_eq_getElem?_getD, List.getD_eq_getElem?_getD, List.getElem?_append_left ht]
/-- other spellings that agree -/
theorem gRo.sp {K L R S C : Nat → Int32} {rows : List (Int32 × Int32 × Int32)} {sp sp' : Nat → List Int32} (h : gRo K L R S C rows sp) (he : ∀ t, t < rows.length → sp' t = sp t) : gRo K L R S C rows sp' := by
  obtain ⟨⟨hb1, hb⟩, hrow, hcv⟩ := h
  refine ⟨⟨hb1, fun t ht => ?_⟩, hrow, hcv⟩
  obtain ⟨b1, b2, b3, b4⟩ := hb t ht
  rw [he t ht]
  refine ⟨b1, b2, b3, ?_⟩
  unfold gTr
  rw [he t ht]
  rcases b4 with c | ⟨c1, c2, a, ha, c3, c4⟩ | ⟨c1, a, b, ha, hb', c2, c3, c4⟩
  · exact Or.inl c
  · exact Or.inr (Or.inl ⟨c1, c2, a, ha, c3, by rw [he a (by omega)]; exact c4⟩)
  · exact Or.inr (Or.inr ⟨c1, a, b, ha, hb', c2, c3, by rw [he a (by omega), he b (by omega)]; exact c4⟩)
/-- what is spelled is the rows' -/
theorem gRo.one {K L R S C K' L' R' S' C' : Nat → Int32} {rows : List (Int32 × Int32 × Int32)} {sp sp' : Nat → List Int32} (h : gRo K L R S C rows sp) (h' : gRo K' L' R' S' C' rows sp') : ∀ t, t < rows.length → sp' t = sp t ∧ S' t = S t ∧ C' t = C t ∧ K' t = K t ∧ L' t = L t ∧ R' t = R t := by
  intro t
  induction t using Nat.strongRecOn with
  | _ t ih =>
    intro ht
    have e := (h.2.1 t ht).symm.trans (h'.2.1 t ht)
    have e1 : K t = K' t := congrArg (fun x => x.1) e
    have e2 : L t = L' t := congrArg (fun x => x.2.1) e
    have e3 : R t = R' t := congrArg (fun x => x.2.2) e
    obtain ⟨-, b2, -, b4⟩ := h.1.2 t ht
    obtain ⟨-, b2', -, b4'⟩ := h'.1.2 t ht
    have hn := h.1.1
    have c1 := h.2.2 t ht
    have c1' := h'.2.2 t ht
    have s1 := gTr_sp b4 (Nat.le_refl t) (by omega)
    have s1' := gTr_sp b4' (Nat.le_refl t) (by omega)
    rw [← e1, ← e2, ← e3] at s1' c1'
    have cv : ∀ x, gO C' (gT t x) 0 = gO C (gT t x) 0 := fun x => by
      rcases gT_cases x (n := t) (by omega) with ⟨j, hj, -, hg⟩ | ⟨hg, -⟩
      · rw [hg]; exact (ih j hj (by omega)).2.2.1
      · rw [hg]; rfl
    have ss : rSp sp' t (K t) (L t) (R t) = rSp sp t (K t) (L t) (R t) := by
      unfold rSp
      congr 2
      · rcases gT_cases (L t) (n := t) (by omega) with ⟨j, hj, -, hg⟩ | ⟨hg, -⟩
        · rw [hg]; exact (ih j hj (by omega)).1
        · rw [hg]
      · rcases gT_cases (R t) (n := t) (by omega) with ⟨j, hj, -, hg⟩ | ⟨hg, -⟩
        · rw [hg]; exact (ih j hj (by omega)).1
        · rw [hg]
    have es : sp' t = sp t := by rw [s1, s1', ss]
    exact ⟨es, by rw [b2, b2', es], by rw [c1, c1', cv, cv], e1.symm, e2.symm, e3.symm⟩