/-! THE REFERENCE'S FACE: what it checks, what it makes -/
def gIn (x lo hi : Int32) : Bool := decide (lo ≤ x ∧ x ≤ hi)
theorem gIn_t {n j : Nat} (hj : j < n) (hn : n ≤ 120) : gIn (nI j) 0 (nI n - 1) = true := by
  obtain ⟨m, rfl⟩ : ∃ m, n = m + 1 := ⟨n - 1, by omega⟩
  rw [nI_pred]
  exact decide_eq_true ⟨nI_pos' (by omega), nI_le (by omega) (by omega)⟩
theorem gIn_f {n : Nat} {t : Int32} (hn : n ≤ 120) (h : gT n t = none) : gIn t 0 (nI n - 1) = false := by
  refine decide_eq_false (fun z => ?_)
  rcases gT_cases t hn with ⟨j, -, -, hg⟩ | ⟨-, h2 | h2⟩
  · rw [hg] at h; cases h
  · have := z.1
    rw [Int32.le_iff_toInt_le] at this
    rw [Int32.lt_iff_toInt_lt] at h2
    omega
  · cases n with
    | zero =>
      have h3 := z.2
      have h4 := z.1
      rw [show nI 0 - 1 = -1 from by decide, Int32.le_iff_toInt_le] at h3
      rw [Int32.le_iff_toInt_le] at h4
      have e1 : (-1 : Int32).toInt = -1 := by decide
      have e0 : (0 : Int32).toInt = 0 := by decide
      omega
    | succ m =>
      have h3 := z.2
      rw [nI_pred, Int32.le_iff_toInt_le, nI_toInt (by omega)] at h3
      rw [Int32.le_iff_toInt_le, nI_toInt (by omega)] at h2
      omega
/-- all but the reference's terms and its thrown is as before -/
def gKf (A : Nat → Nat → Int32) (F : Nat → Int32) (A' : Nat → Nat → Int32) (F' : Nat → Int32) : Prop := (∀ j, j < 25 ∨ 29 < j → A' j = A j) ∧ (∀ j, j ≠ 20 → j ≠ 21 → F' j = F j)
/-- a term of known parts is made, found, or there is no room -/
def rMk (rows : List (Int32 × Int32 × Int32)) (sp : Nat → List Int32) (k l r : Int32) : Option Nat × List (Int32 × Int32 × Int32) := if (rSp sp rows.length k l r).length ≤ 40 then rKnow rows k l r else (none, rows)
def gML (rows : List (Int32 × Int32 × Int32)) (sp : Nat → List Int32) (k l r : Int32) (sp' : Nat → List Int32) : Prop := (∀ t, t < rows.length → sp' t = sp t) ∧ (∃ more, (rMk rows sp k l r).2 = rows ++ more) ∧ (∀ j, (rMk rows sp k l r).1 = some j → j < (rMk rows sp k l r).2.length)
theorem rSp_len (sp : Nat → List Int32) {n : Nat} {k l r : Int32} (h : gSh n k l r) (hn : n ≤ 120) : ∃ pl pr, (rSp sp n k l r).length = 1 + pl + pr ∧ ((l = -1 ∧ pl = 0) ∨ ∃ a, a < n ∧ l = nI a ∧ pl = (sp a).length) ∧ ((r = -1 ∧ pr = 0) ∨ ∃ a, a < n ∧ r = nI a ∧ pr = (sp a).length) := by
  obtain ⟨hk, ⟨c1, rfl, rfl⟩ | ⟨c1, rfl, a, ha, rfl⟩ | ⟨c1, a, b, ha, hb, rfl, rfl⟩⟩ := h
  · exact ⟨0, 0, by rw [rSp_0]; rfl, Or.inl ⟨rfl, rfl⟩, Or.inl ⟨rfl, rfl⟩⟩
  · exact ⟨(sp a).length, 0, by rw [rSp_1 sp ha hn]; simp only [List.length_cons]; omega, Or.inr ⟨a, ha, rfl, rfl⟩, Or.inl ⟨rfl, rfl⟩⟩
  · exact ⟨(sp a).length, (sp b).length, by rw [rSp_2 sp ha hb hn]; simp only [List.length_cons, List.length_append]; omega, Or.inr ⟨a, ha, rfl, rfl⟩, Or.inr ⟨b, hb, rfl, rfl⟩⟩
section X
variable {nw nx : Nat} {LO : Nat → Int64} {DO : Nat → UInt64} {d n : Nat} {A : Nat → Nat → Int32} {F : Nat → Int32} {rows : List (Int32 × Int32 × Int32)} {sp : Nat → List Int32}
theorem s_isIn3 (x lo hi : Int32) : gm_Sp gm_MT (d + 1) 8003 [.int x, .int lo, .int hi] (gw A F nw nx LO DO) (.inl (some (.int (gB (gIn x lo hi))))) (gw A F nw nx LO DO) 0 0 := by
  refine gm_mk gm_mX7_isIn rfl ⟨Or.inr rfl, rfl, rfl, trivial⟩ (fun G X hC hX => ?_)
  unfold gIn at hX
  refine gm_runs hC [] 200 _ _ _ _ _ _ ?_
  by_cases c1 : lo ≤ x
  · have n1 : ¬ x < lo := fun z => by
      rw [Int32.le_iff_toInt_le] at c1
      rw [Int32.lt_iff_toInt_lt] at z
      omega
    by_cases c2 : x ≤ hi
    · rw [decide_eq_true ⟨c1, c2⟩] at hX
      exact gx_f n1 (gx_f (show ¬ hi < x from fun z => by
        rw [Int32.le_iff_toInt_le] at c2
        rw [Int32.lt_iff_toInt_lt] at z
        omega) (gx_z hX (Or.inr rfl) rfl rfl))
    · rw [decide_eq_false (fun z => c2 z.2)] at hX
      exact gx_f n1 (gx_t (show hi < x from by
        rw [Int32.le_iff_toInt_le] at c2
        rw [Int32.lt_iff_toInt_lt]
        omega) (gx_z hX (Or.inl rfl) rfl rfl))
  · rw [decide_eq_false (fun z => c1 z.1)] at hX
    exact gx_t (show x < lo from by
      rw [Int32.le_iff_toInt_le] at c1
      rw [Int32.lt_iff_toInt_lt]
      omega) (gx_z hX (Or.inl rfl) rfl rfl)
theorem s_thrown : gm_Sp gm_MT (d + 1) 8001 [.ref 24] (gw A F nw nx LO DO) (.inl (some (.int (F 20)))) (gw A F nw nx LO DO) 0 0 := by
  refine gm_mk gm_mX7_thrown rfl ⟨Or.inr rfl, rfl, rfl, trivial⟩ (fun G X hC hX => ?_)
  exact gm_runs hC [] 200 _ _ _ _ _ _ hX
theorem s_fail (x : Int32) : gm_Sp gm_MT (d + 1) 8002 [.ref 24, .int x] (gw A F nw nx LO DO) (.inl (some (.int 0))) (gw A (va_up F 20 x) nw nx LO DO) 0 0 := by
  refine gm_mk gm_mX7_fail rfl ⟨Or.inr rfl, rfl, rfl, trivial⟩ (fun G X hC hX => ?_)
  exact gm_runs hC [] 200 _ _ _ _ _ _ (gx_i hX rfl rfl)
theorem s_noTerm1 {j : Nat} (hn : n ≤ 120) (hF : F 21 = nI n) (hj : j < n) : gm_Sp gm_MT (d + 2) 8004 [.ref 24, .int (nI j)] (gw A F nw nx LO DO) (.inl (some (.int 0))) (gw A (va_up F 20 0) nw nx LO DO) 0 0 := by
  refine gm_mk gm_mX7_noTerm rfl ⟨Or.inr rfl, rfl, rfl, trivial⟩ (fun G X hC hX => ?_)
  have hi := s_isIn3 (A := A) (F := F) (nw := nw) (nx := nx) (LO := LO) (DO := DO) (d := d) (nI j) 0 (F 21 - 1)
  rw [hF, gIn_t hj hn, ← hF] at hi
  refine gm_runs hC [] 200 _ _ _ _ _ _ ?_
  exact Or.inl ⟨_, _, _, _, hi, gx_f (show ¬ (1 : Int32) = 0 from by decide) (gx_t (show (0 : Int32) = 0 from rfl) (gx_z hX (Or.inl rfl) rfl rfl))⟩
theorem s_noTerm2 {t : Int32} (hn : n ≤ 120) (hF : F 21 = nI n) (ht : gT n t = none) : gm_Sp gm_MT (d + 2) 8004 [.ref 24, .int t] (gw A F nw nx LO DO) (.inl (some (.int 1))) (gw A (va_up F 20 1) nw nx LO DO) 0 0 := by
  refine gm_mk gm_mX7_noTerm rfl ⟨Or.inr rfl, rfl, rfl, trivial⟩ (fun G X hC hX => ?_)
  have hi := s_isIn3 (A := A) (F := F) (nw := nw) (nx := nx) (LO := LO) (DO := DO) (d := d) t 0 (F 21 - 1)
  rw [hF, gIn_f hn ht, ← hF] at hi
  refine gm_runs hC [] 200 _ _ _ _ _ _ ?_
  exact Or.inl ⟨_, _, _, _, hi, gx_t (show (0 : Int32) = 0 from rfl) (gx_f (show ¬ (1 : Int32) = 0 from by decide) (gx_z hX (Or.inr rfl) rfl rfl))⟩
theorem s_makeM (h : gRp A rows sp) (hF : F 0 = nI rows.length) {k l r : Int32} (hsh : gSh rows.length k l r) : ∃ A' F' sp', gRp A' (rMk rows sp k l r).2 sp' ∧ F' 0 = nI (rMk rows sp k l r).2.length ∧ gML rows sp k l r sp' ∧ gKt A F A' F' ∧ gm_Sp gm_MT (d + 4) 5009 [.ref 1, .int k, .int l, .int r] (gw A F nw nx LO DO) (.inl (some (.int (gOI (rMk rows sp k l r).1)))) (gw A' F' nw nx LO DO) 0 0 := by
  by_cases h40 : (rSp sp rows.length k l r).length ≤ 40
  · have e : rMk rows sp k l r = rKnow rows k l r := by unfold rMk; exact if_pos h40
    obtain ⟨A', F', sp', a1, a2, ⟨a3, a4, a5⟩, a6, a7⟩ := s_makeR (nw := nw) (nx := nx) (LO := LO) (DO := DO) (d := d) h hF hsh h40
    unfold gML
    rw [e]
    exact ⟨A', F', sp', a1, a2, ⟨a3, a5, fun j hj => (a4 j hj).1⟩, a6, a7⟩
  · have e : rMk rows sp k l r = (none, rows) := by unfold rMk; exact if_neg h40
    have hn := h.1.1
    unfold gML
    rw [e]
    refine ⟨A, F, sp, h, hF, ⟨fun _ _ => rfl, ⟨[], by simp⟩, fun j hj => (by cases hj)⟩, gKt.refl A F, ?_⟩
    have hf : gFind (A 2) (A 3) (A 4) k l r rows.length 0 = none := by
      rw [h.find]
      cases hq : rFind rows k l r with
      | none => rfl
      | some j =>
        obtain ⟨h1, h2⟩ := h.hit hq
        exact absurd (by rw [← h2]; exact (h.1.2 j h1).1) h40
    refine s_make2 k l r hn hF hf (Or.inl ?_)
    obtain ⟨pl, pr, e1, e2, e3⟩ := rSp_len sp hsh hn
    have el : gO (A 5) (gT rows.length l) 0 = nI pl := by
      rcases e2 with ⟨rfl, rfl⟩ | ⟨a, ha, rfl, rfl⟩
      · rw [gT_m1]; rfl
      · rw [gT_nI ha hn]; exact (h.1.2 a ha).2.1
    have er : gO (A 5) (gT rows.length r) 0 = nI pr := by
      rcases e3 with ⟨rfl, rfl⟩ | ⟨a, ha, rfl, rfl⟩
      · rw [gT_m1]; rfl
      · rw [gT_nI ha hn]; exact (h.1.2 a ha).2.1
    have b1 : pl ≤ 40 := by
      rcases e2 with ⟨-, rfl⟩ | ⟨a, ha, -, rfl⟩
      · omega
      · exact (h.1.2 a ha).1
    have b2 : pr ≤ 40 := by
      rcases e3 with ⟨-, rfl⟩ | ⟨a, ha, -, rfl⟩
      · omega
      · exact (h.1.2 a ha).1
    unfold gmkS
    rw [el, er, show (1 : Int32) = nI 1 from rfl, nI_add, nI_add]
    exact nI_lt (by omega) (by omega)
theorem s_makes (h : gRm A rows sp) (hF : F 21 = nI rows.length) {k l r : Int32} (hsh : gSh rows.length k l r) (x : Int32) : ∃ A' F' sp', gRm A' (rMk rows sp k l r).2 sp' ∧ F' 21 = nI (rMk rows sp k l r).2.length ∧ gML rows sp k l r sp' ∧ gKf A F A' F' ∧ F' 20 = (if (rMk rows sp k l r).1.isSome = true then 0 else x) ∧ gm_Sp gm_MT (d + 4) 8009 [.ref 24, .int k, .int l, .int r, .int x] (gw A F nw nx LO DO) (.inl (some (.int (gOz (rMk rows sp k l r).1)))) (gw A' F' nw nx LO DO) 0 0 := by
  have hn := h.1.1
  obtain ⟨pl, pr, e1, e2, e3⟩ := rSp_len sp hsh hn
  have b1 : pl ≤ 40 := by
    rcases e2 with ⟨-, rfl⟩ | ⟨a, ha, -, rfl⟩
    · omega
    · exact (h.1.2 a ha).1
  have b2 : pr ≤ 40 := by
    rcases e3 with ⟨-, rfl⟩ | ⟨a, ha, -, rfl⟩
    · omega
    · exact (h.1.2 a ha).1
  -- the head: sizes are read, and the rest is a test of their sum
  have head : ∀ (G : pG) (X : pX), gm_cl gm_mX7_makes gm_tyf none (gm_Sp gm_MT (d + 3)) G X → ((nI (pl + pr) < 40 → G 41 [some (.ref 24), some (.int k), some (.int l), some (.int r), some (.int x), none] [] (gw A F nw nx LO DO) 0 0) ∧ (¬ nI (pl + pr) < 40 → G 34 [some (.ref 24), some (.int k), some (.int l), some (.int r), some (.int x), none] [] (gw A F nw nx LO DO) 0 0)) → G 0 [some (.ref 24), some (.int k), some (.int l), some (.int r), some (.int x), none] [] (gw A F nw nx LO DO) 0 0 := by
    intro G X hC hY
    rw [← nI_add] at hY
    rcases e2 with ⟨rfl, rfl⟩ | ⟨a, ha, rfl, rfl⟩
    · rcases e3 with ⟨rfl, rfl⟩ | ⟨b, hb, rfl, rfl⟩
      · refine gm_runs hC [41, 34] 200 _ _ _ _ _ _ ?_
        exact gx_f (show ¬ (0 : Int32) ≤ -1 from by decide) (gx_f (show ¬ (0 : Int32) ≤ -1 from by decide) hY)
      · have kb := nI_clamp (n := b) (by omega)
        have sb := (h.1.2 b hb).2.1
        refine gm_runs hC [41, 34] 200 _ _ _ _ _ _ ?_
        refine gx_f (show ¬ (0 : Int32) ≤ -1 from by decide) (gx_t (show (0 : Int32) ≤ nI b from nI_pos' (by omega)) (And.intro (nI_in (by omega) (by decide)) ?_))
        rw [kb, sb]
        exact hY
    · have ka := nI_clamp (n := a) (by omega)
      have sa := (h.1.2 a ha).2.1
      rcases e3 with ⟨rfl, rfl⟩ | ⟨b, hb, rfl, rfl⟩
      · refine gm_runs hC [41, 34] 200 _ _ _ _ _ _ ?_
        refine gx_t (show (0 : Int32) ≤ nI a from nI_pos' (by omega)) (And.intro (nI_in (by omega) (by decide)) (gx_f (show ¬ (0 : Int32) ≤ -1 from by decide) ?_))
        rw [ka, sa]
        exact hY
      · have kb := nI_clamp (n := b) (by omega)
        have sb := (h.1.2 b hb).2.1
        refine gm_runs hC [41, 34] 200 _ _ _ _ _ _ ?_
        refine gx_t (show (0 : Int32) ≤ nI a from nI_pos' (by omega)) (And.intro (nI_in (by omega) (by decide)) (gx_t (show (0 : Int32) ≤ nI b from nI_pos' (by omega)) (And.intro (nI_in (by omega) (by decide)) ?_)))
        rw [ka, sa, kb, sb]
        exact hY
  by_cases h40 : (rSp sp rows.length k l r).length ≤ 40
  · have e : rMk rows sp k l r = rKnow rows k l r := by unfold rMk; exact if_pos h40
    obtain ⟨A', F', sp', a1, a2, ⟨a3, a4, a5⟩, a6, a7⟩ := s_knowR (nw := nw) (nx := nx) (LO := LO) (DO := DO) (d := d) h hF hsh h40
    have hlt : nI (pl + pr) < 40 := nI_lt (b := 40) (by omega) (by decide)
    have hn' := a1.1.1
    unfold gML
    rw [e]
    cases hq : (rKnow rows k l r).1 with
    | none =>
      rw [hq] at a7
      refine ⟨A', va_up F' 20 x, sp', a1, by rw [g_upn (by decide)]; exact a2, ⟨a3, a5, fun j hj => (by cases hj)⟩, ⟨a6.1, fun j h1 h2 => by rw [g_upn h1]; exact a6.2 j h2⟩, by rw [g_upe]; rfl, ?_⟩
      refine gm_mk gm_mX7_makes rfl ⟨Or.inr rfl, rfl, rfl, trivial⟩ (fun G X hC hX => ?_)
      refine head G X hC (gx_t hlt ?_)
      refine gm_runs hC [] 200 _ _ _ _ _ _ ?_
      exact Or.inl ⟨_, _, _, _, a7, gx_f (show ¬ (0 : Int32) ≤ -1 from by decide) (gx_f (show ¬ (0 : Int32) ≤ -1 from by decide) (gx_i hX rfl rfl))⟩
    | some j =>
      rw [hq] at a7
      have hj := (a4 j hq).1
      have p1 : (0 : Int32) ≤ nI j := nI_pos' (by omega)
      refine ⟨A', va_up F' 20 0, sp', a1, by rw [g_upn (by decide)]; exact a2, ⟨a3, a5, fun i hi => by cases hi; exact hj⟩, ⟨a6.1, fun j h1 h2 => by rw [g_upn h1]; exact a6.2 j h2⟩, by rw [g_upe]; rfl, ?_⟩
      refine gm_mk gm_mX7_makes rfl ⟨Or.inr rfl, rfl, rfl, trivial⟩ (fun G X hC hX => ?_)
      refine head G X hC (gx_t hlt ?_)
      refine gm_runs hC [] 200 _ _ _ _ _ _ ?_
      exact Or.inl ⟨_, _, _, _, a7, gx_t p1 (gx_t p1 (gx_i hX rfl rfl))⟩
  · have e : rMk rows sp k l r = (none, rows) := by unfold rMk; exact if_neg h40
    have hlt : ¬ nI (pl + pr) < 40 := nI_nlt (b := 40) (by omega) (by omega)
    have hf := s_fail (A := A) (F := F) (nw := nw) (nx := nx) (LO := LO) (DO := DO) (d := d + 2) x
    unfold gML
    rw [e]
    refine ⟨A, va_up F 20 x, sp, h, by rw [g_upn (by decide)]; exact hF, ⟨fun _ _ => rfl, ⟨[], by simp⟩, fun j hj => (by cases hj)⟩, ⟨fun _ _ => rfl, fun j h1 h2 => g_upn h1⟩, by rw [g_upe]; rfl, ?_⟩
    refine gm_mk gm_mX7_makes rfl ⟨Or.inr rfl, rfl, rfl, trivial⟩ (fun G X hC hX => ?_)
    refine head G X hC (gx_f hlt ?_)
    refine gm_runs hC [] 200 _ _ _ _ _ _ ?_
    exact Or.inl ⟨_, _, _, _, hf, hX⟩
end X