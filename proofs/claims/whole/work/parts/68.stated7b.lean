/-! THE REFERENCE'S STATEMENTS, its face -/
def mG (A : Nat → Nat → Int32) (F : Nat → Int32) : Int32 := sReg (F 27) (A 29 (F 28).toNatClampNeg) (A 29 (F 29).toNatClampNeg)
def gOk (F : Nat → Int32) : Prop := ∃ a b, a < 120 ∧ b < 120 ∧ F 28 = nI a ∧ F 29 = nI b
section X
variable {nw nx : Nat} {LO : Nat → Int64} {DO : Nat → UInt64} {d n m : Nat} {A : Nat → Nat → Int32} {F : Nat → Int32}
theorem s_isKind (k : Int32) : gm_Sp gm_MT (d + 1) 8047 [.int k] (gw A F nw nx LO DO) (.inl (some (.int (gB (sDen k || sDem k))))) (gw A F nw nx LO DO) 0 0 := by
  refine gm_mk gm_mX7_isKind rfl ⟨Or.inr rfl, rfl, rfl, trivial⟩ (fun G X hC hX => ?_)
  unfold sDen sDem at hX
  refine gm_runs hC [] 200 _ _ _ _ _ _ ?_
  by_cases c1 : k = 115
  · rw [decide_eq_true (Or.inl c1), Bool.true_or] at hX
    exact gx_t c1 (gx_z hX (Or.inr rfl) rfl rfl)
  by_cases c2 : k = 101
  · rw [decide_eq_true (Or.inr (Or.inl c2)), Bool.true_or] at hX
    exact gx_f c1 (gx_t c2 (gx_z hX (Or.inr rfl) rfl rfl))
  by_cases c3 : k = 100
  · rw [decide_eq_true (Or.inr (Or.inr c3)), Bool.true_or] at hX
    exact gx_f c1 (gx_f c2 (gx_t c3 (gx_z hX (Or.inr rfl) rfl rfl)))
  rw [decide_eq_false (show ¬ (k = 115 ∨ k = 101 ∨ k = 100) from fun z => z.elim c1 (fun z => z.elim c2 c3)), Bool.false_or] at hX
  by_cases c4 : k = 120
  · rw [decide_eq_true (Or.inl c4)] at hX
    exact gx_f c1 (gx_f c2 (gx_f c3 (gx_t c4 (gx_z hX (Or.inr rfl) rfl rfl))))
  by_cases c5 : k = 110
  · rw [decide_eq_true (Or.inr (Or.inl c5))] at hX
    exact gx_f c1 (gx_f c2 (gx_f c3 (gx_f c4 (gx_t c5 (gx_z hX (Or.inr rfl) rfl rfl)))))
  by_cases c6 : k = 105
  · rw [decide_eq_true (Or.inr (Or.inr c6))] at hX
    exact gx_f c1 (gx_f c2 (gx_f c3 (gx_f c4 (gx_f c5 (gx_f (show ¬ ¬ k = 105 from fun z => z c6) (gx_z hX (Or.inr rfl) rfl rfl))))))
  · rw [decide_eq_false (show ¬ (k = 120 ∨ k = 110 ∨ k = 105) from fun z => z.elim c4 (fun z => z.elim c5 c6))] at hX
    exact gx_f c1 (gx_f c2 (gx_f c3 (gx_f c4 (gx_f c5 (gx_t c6 (gx_z hX (Or.inl rfl) rfl rfl))))))
theorem s_areTerms (x y : Int32) (hn : m ≤ 120) (hF : F 21 = nI m) : gm_Sp gm_MT (d + 2) 8052 [.ref 24, .int x, .int y] (gw A F nw nx LO DO) (.inl (some (.int (gB ((gT m x).isSome && (gT m y).isSome))))) (gw A F nw nx LO DO) 0 0 := by
  refine gm_mk gm_mX7_areTerms rfl ⟨Or.inr rfl, rfl, rfl, trivial⟩ (fun G X hC hX => ?_)
  have e : ∀ t, gIn t 0 (F 21 - 1) = (gT m t).isSome := by
    intro t
    rw [hF]
    rcases gT_cases t hn with ⟨j, hj, rfl, hg⟩ | ⟨hg, -⟩
    · rw [hg, gIn_t hj hn]; rfl
    · rw [hg, gIn_f hn hg]; rfl
  have h1 := s_isIn3 (A := A) (F := F) (nw := nw) (nx := nx) (LO := LO) (DO := DO) (d := d) x 0 (F 21 - 1)
  have h2 := s_isIn3 (A := A) (F := F) (nw := nw) (nx := nx) (LO := LO) (DO := DO) (d := d) y 0 (F 21 - 1)
  rw [e] at h1 h2
  refine gm_runs hC [] 200 _ _ _ _ _ _ ?_
  cases c1 : (gT m x).isSome with
  | false =>
    rw [c1] at h1 hX
    exact Or.inl ⟨_, _, _, _, h1, gx_t (show (0 : Int32) = 0 from rfl) (gx_z hX (Or.inl rfl) rfl rfl)⟩
  | true =>
    rw [c1] at h1 hX
    cases c2 : (gT m y).isSome with
    | false =>
      rw [c2] at h2 hX
      exact Or.inl ⟨_, _, _, _, h1, gx_f (show ¬ (1 : Int32) = 0 from by decide) (Or.inl ⟨_, _, _, _, h2, gx_t (show (0 : Int32) = 0 from rfl) (gx_z hX (Or.inl rfl) rfl rfl)⟩)⟩
    | true =>
      rw [c2] at h2 hX
      exact Or.inl ⟨_, _, _, _, h1, gx_f (show ¬ (1 : Int32) = 0 from by decide) (Or.inl ⟨_, _, _, _, h2, gx_f (show ¬ (1 : Int32) = 0 from by decide) (gx_z hX (Or.inr rfl) rfl rfl)⟩)⟩
theorem s_assume7a {k x y : Int32} (hk : (sDen k || sDem k) = false) : gm_Sp gm_MT (d + 3) 8053 [.ref 24, .int k, .int x, .int y] (gw A F nw nx LO DO) (.inl (some (.int 0))) (gw A (va_up F 20 1) nw nx LO DO) 0 0 := by
  have h1 := s_isKind (A := A) (F := F) (nw := nw) (nx := nx) (LO := LO) (DO := DO) (d := d + 1) k
  have hf := s_fail (A := A) (F := F) (nw := nw) (nx := nx) (LO := LO) (DO := DO) (d := d + 1) 1
  rw [hk] at h1
  refine gm_mk gm_mX7_assume rfl ⟨Or.inr rfl, rfl, rfl, trivial⟩ (fun G X hC hX => ?_)
  refine gm_runs hC [] 200 _ _ _ _ _ _ ?_
  exact Or.inl ⟨_, _, _, _, h1, gx_f (show ¬ ¬ (0 : Int32) = 0 from fun z => z rfl) (Or.inl ⟨_, _, _, _, hf, hX⟩)⟩
theorem s_assume7b {k x y : Int32} (hn : m ≤ 120) (hF : F 21 = nI m) (hk : (sDen k || sDem k) = true) (hxy : ((gT m x).isSome && (gT m y).isSome) = false) : gm_Sp gm_MT (d + 3) 8053 [.ref 24, .int k, .int x, .int y] (gw A F nw nx LO DO) (.inl (some (.int 0))) (gw A (va_up F 20 2) nw nx LO DO) 0 0 := by
  have h1 := s_isKind (A := A) (F := F) (nw := nw) (nx := nx) (LO := LO) (DO := DO) (d := d + 1) k
  have h2 := s_areTerms (A := A) (F := F) (nw := nw) (nx := nx) (LO := LO) (DO := DO) (d := d) x y hn hF
  have hf := s_fail (A := A) (F := F) (nw := nw) (nx := nx) (LO := LO) (DO := DO) (d := d + 1) 2
  rw [hk] at h1
  rw [hxy] at h2
  refine gm_mk gm_mX7_assume rfl ⟨Or.inr rfl, rfl, rfl, trivial⟩ (fun G X hC hX => ?_)
  refine gm_runs hC [] 200 _ _ _ _ _ _ ?_
  exact Or.inl ⟨_, _, _, _, h1, gx_t (show ¬ (1 : Int32) = 0 from by decide) (Or.inl ⟨_, _, _, _, h2, gx_f (show ¬ ¬ (0 : Int32) = 0 from fun z => z rfl) (Or.inl ⟨_, _, _, _, hf, hX⟩)⟩)⟩
theorem s_assume7c {k x y : Int32} (hn : m ≤ 120) (hF : F 21 = nI m) (hk : (sDen k || sDem k) = true) (hxy : ((gT m x).isSome && (gT m y).isSome) = true) (h6 : F 22 = nI 6) : gm_Sp gm_MT (d + 3) 8053 [.ref 24, .int k, .int x, .int y] (gw A F nw nx LO DO) (.inl (some (.int 0))) (gw A (va_up F 20 3) nw nx LO DO) 0 0 := by
  have h1 := s_isKind (A := A) (F := F) (nw := nw) (nx := nx) (LO := LO) (DO := DO) (d := d + 1) k
  have h2 := s_areTerms (A := A) (F := F) (nw := nw) (nx := nx) (LO := LO) (DO := DO) (d := d) x y hn hF
  have hf := s_fail (A := A) (F := F) (nw := nw) (nx := nx) (LO := LO) (DO := DO) (d := d + 1) 3
  rw [hk] at h1
  rw [hxy] at h2
  refine gm_mk gm_mX7_assume rfl ⟨Or.inr rfl, rfl, rfl, trivial⟩ (fun G X hC hX => ?_)
  refine gm_runs hC [] 200 _ _ _ _ _ _ ?_
  exact Or.inl ⟨_, _, _, _, h1, gx_t (show ¬ (1 : Int32) = 0 from by decide) (Or.inl ⟨_, _, _, _, h2, gx_t (show ¬ (1 : Int32) = 0 from by decide) (gx_f (show ¬ ¬ F 22 = 6 from fun z => z h6) (Or.inl ⟨_, _, _, _, hf, hX⟩))⟩)⟩
theorem s_assume7d {k x y : Int32} (hn : m ≤ 120) (hF : F 21 = nI m) (hk : (sDen k || sDem k) = true) (hxy : ((gT m x).isSome && (gT m y).isSome) = true) (h22 : F 22 = nI n) (h6 : n < 6) : gm_Sp gm_MT (d + 3) 8053 [.ref 24, .int k, .int x, .int y] (gw A F nw nx LO DO) (.inl (some (.int (nI n)))) (gw (va_up (va_up (va_up A 30 (upd (A 30) n k)) 31 (upd (A 31) n x)) 32 (upd (A 32) n y)) (va_up (va_up F 20 0) 22 (nI (n + 1))) nw nx LO DO) 0 0 := by
  have h1 := s_isKind (A := A) (F := F) (nw := nw) (nx := nx) (LO := LO) (DO := DO) (d := d + 1) k
  have h2 := s_areTerms (A := A) (F := F) (nw := nw) (nx := nx) (LO := LO) (DO := DO) (d := d) x y hn hF
  rw [hk] at h1
  rw [hxy] at h2
  have k0 := nI_clamp (n := n) (by omega)
  have n6 : ¬ F 22 = 6 := by rw [h22]; exact fun z => (show ¬ n = 6 by omega) ((nI_eq (a := n) (b := 6) (by omega) (by decide)).mp z)
  refine gm_mk gm_mX7_assume rfl ⟨Or.inr rfl, rfl, rfl, trivial⟩ (fun G X hC hX => ?_)
  rw [← nI_1] at hX
  refine gm_runs hC [] 200 _ _ _ _ _ _ ?_
  refine Or.inl ⟨_, _, _, _, h1, gx_t (show ¬ (1 : Int32) = 0 from by decide) (Or.inl ⟨_, _, _, _, h2, gx_t (show ¬ (1 : Int32) = 0 from by decide) (gx_t n6 (And.intro (show ¬ (F 22 < 0 ∨ 6 ≤ (F 22).toNatClampNeg) from by rw [h22]; exact nI_in (by omega) (by decide)) (And.intro (show ¬ (F 22 < 0 ∨ 6 ≤ (F 22).toNatClampNeg) from by rw [h22]; exact nI_in (by omega) (by decide)) (And.intro (show ¬ (F 22 < 0 ∨ 6 ≤ (F 22).toNatClampNeg) from by rw [h22]; exact nI_in (by omega) (by decide)) ?_))))⟩)⟩
  show X (.inl (some (.int (F 22)))) (gw (va_up (va_up (va_up A 30 (upd (A 30) (F 22).toNatClampNeg k)) 31 (upd (A 31) (F 22).toNatClampNeg x)) 32 (upd (A 32) (F 22).toNatClampNeg y)) (va_up (va_up F 20 0) 22 (F 22 + 1)) nw nx LO DO) 0 0
  rw [h22, k0]
  exact hX
theorem s_drop7a (h : F 22 = 0) : gm_Sp gm_MT (d + 2) 8054 [.ref 24] (gw A F nw nx LO DO) (.inl (some (.int 0))) (gw A (va_up F 20 1) nw nx LO DO) 0 0 := by
  have hf := s_fail (A := A) (F := F) (nw := nw) (nx := nx) (LO := LO) (DO := DO) (d := d) 1
  refine gm_mk gm_mX7_drop rfl ⟨Or.inr rfl, rfl, rfl, trivial⟩ (fun G X hC hX => ?_)
  refine gm_runs hC [] 200 _ _ _ _ _ _ ?_
  exact gx_f (show ¬ ¬ F 22 = 0 from fun z => z h) (Or.inl ⟨_, _, _, _, hf, hX⟩)
theorem s_drop7b (h : F 22 = nI (n + 1)) (hn : n < 6) : gm_Sp gm_MT (d + 2) 8054 [.ref 24] (gw A F nw nx LO DO) (.inl (some (.int (nI n)))) (gw A (va_up (va_up F 20 0) 22 (nI n)) nw nx LO DO) 0 0 := by
  refine gm_mk gm_mX7_drop rfl ⟨Or.inr rfl, rfl, rfl, trivial⟩ (fun G X hC hX => ?_)
  have e : F 22 - 1 = nI n := by rw [h, nI_pred]
  rw [← e] at hX
  refine gm_runs hC [] 200 _ _ _ _ _ _ ?_
  exact gx_t (show ¬ F 22 = 0 from by rw [h]; exact nI_ne0 (by omega) (by omega)) hX
theorem s_assumptions7 : gm_Sp gm_MT (d + 1) 8055 [.ref 24] (gw A F nw nx LO DO) (.inl (some (.int (F 22)))) (gw A F nw nx LO DO) 0 0 := by
  refine gm_mk gm_mX7_assumptions rfl ⟨Or.inr rfl, rfl, rfl, trivial⟩ (fun G X hC hX => ?_)
  exact gm_runs hC [] 200 _ _ _ _ _ _ hX
theorem s_terms7 : gm_Sp gm_MT (d + 1) 8019 [.ref 24] (gw A F nw nx LO DO) (.inl (some (.int (F 21)))) (gw A F nw nx LO DO) 0 0 := by
  refine gm_mk gm_mX7_terms rfl ⟨Or.inr rfl, rfl, rfl, trivial⟩ (fun G X hC hX => ?_)
  exact gm_runs hC [] 200 _ _ _ _ _ _ hX
theorem s_setGoal7a {k x y : Int32} (hk : (sDen k || sDem k) = false) : gm_Sp gm_MT (d + 3) 8056 [.ref 24, .int k, .int x, .int y] (gw A F nw nx LO DO) (.inl (some (.int 0))) (gw A (va_up F 20 1) nw nx LO DO) 0 0 := by
  have h1 := s_isKind (A := A) (F := F) (nw := nw) (nx := nx) (LO := LO) (DO := DO) (d := d + 1) k
  rw [hk] at h1
  refine gm_mk gm_mX7_setGoal rfl ⟨Or.inr rfl, rfl, rfl, trivial⟩ (fun G X hC hX => ?_)
  refine gm_runs hC [] 200 _ _ _ _ _ _ ?_
  exact Or.inl ⟨_, _, _, _, h1, gx_f (show ¬ ¬ (0 : Int32) = 0 from fun z => z rfl) (gx_f (show ¬ (1 : Int32) = 0 from by decide) (gx_z hX (Or.inl rfl) rfl rfl))⟩
theorem s_setGoal7b {k x y : Int32} (hn : m ≤ 120) (hF : F 21 = nI m) (hk : (sDen k || sDem k) = true) (hxy : ((gT m x).isSome && (gT m y).isSome) = false) : gm_Sp gm_MT (d + 3) 8056 [.ref 24, .int k, .int x, .int y] (gw A F nw nx LO DO) (.inl (some (.int 0))) (gw A (va_up F 20 2) nw nx LO DO) 0 0 := by
  have h1 := s_isKind (A := A) (F := F) (nw := nw) (nx := nx) (LO := LO) (DO := DO) (d := d + 1) k
  have h2 := s_areTerms (A := A) (F := F) (nw := nw) (nx := nx) (LO := LO) (DO := DO) (d := d) x y hn hF
  rw [hk] at h1
  rw [hxy] at h2
  refine gm_mk gm_mX7_setGoal rfl ⟨Or.inr rfl, rfl, rfl, trivial⟩ (fun G X hC hX => ?_)
  refine gm_runs hC [] 200 _ _ _ _ _ _ ?_
  exact Or.inl ⟨_, _, _, _, h1, gx_t (show ¬ (1 : Int32) = 0 from by decide) (Or.inl ⟨_, _, _, _, h2, gx_f (show ¬ ¬ (0 : Int32) = 0 from fun z => z rfl) (gx_f (show ¬ (2 : Int32) = 0 from by decide) (gx_z hX (Or.inl rfl) rfl rfl))⟩)⟩
theorem s_setGoal7c {k x y : Int32} (hn : m ≤ 120) (hF : F 21 = nI m) (hk : (sDen k || sDem k) = true) (hxy : ((gT m x).isSome && (gT m y).isSome) = true) (h23 : F 23 = 0 ∨ F 23 = 1) : gm_Sp gm_MT (d + 3) 8056 [.ref 24, .int k, .int x, .int y] (gw A F nw nx LO DO) (.inl (some (.int (F 23)))) (gw A (va_up (va_up (va_up (va_up (va_up F 20 0) 23 1) 27 k) 28 x) 29 y) nw nx LO DO) 0 0 := by
  have h1 := s_isKind (A := A) (F := F) (nw := nw) (nx := nx) (LO := LO) (DO := DO) (d := d + 1) k
  have h2 := s_areTerms (A := A) (F := F) (nw := nw) (nx := nx) (LO := LO) (DO := DO) (d := d) x y hn hF
  rw [hk] at h1
  rw [hxy] at h2
  refine gm_mk gm_mX7_setGoal rfl ⟨Or.inr rfl, rfl, rfl, trivial⟩ (fun G X hC hX => ?_)
  refine gm_runs hC [] 200 _ _ _ _ _ _ ?_
  refine Or.inl ⟨_, _, _, _, h1, gx_t (show ¬ (1 : Int32) = 0 from by decide) (Or.inl ⟨_, _, _, _, h2, gx_t (show ¬ (1 : Int32) = 0 from by decide) (gx_t (show (0 : Int32) = 0 from rfl) ?_)⟩)⟩
  rcases h23 with c | c
  · rw [c] at hX
    exact gx_t (show ¬ F 23 = 1 from by rw [c]; decide) (gx_z hX (Or.inl rfl) rfl rfl)
  · rw [c] at hX
    exact gx_f (show ¬ ¬ F 23 = 1 from fun z => z c) (gx_z hX (Or.inr rfl) rfl rfl)
theorem s_goal7 (h : gOk F) : gm_Sp gm_MT (d + 2) 8051 [.ref 24] (gw A F nw nx LO DO) (.inl (some (.int (mG A F)))) (gw A F nw nx LO DO) 0 0 := by
  obtain ⟨a, b, ha, hb, e1, e2⟩ := h
  have hr := s_regionsOf (A := A) (F := F) (nw := nw) (nx := nx) (LO := LO) (DO := DO) (d := d) (F 27) ha hb
  rw [← e1, ← e2] at hr
  refine gm_mk gm_mX7_goal rfl ⟨Or.inr rfl, rfl, rfl, trivial⟩ (fun G X hC hX => ?_)
  unfold mG at hX
  rw [e1, e2, nI_clamp (n := a) (by omega), nI_clamp (n := b) (by omega)] at hX
  refine gm_runs hC [] 200 _ _ _ _ _ _ ?_
  exact Or.inl ⟨_, _, _, _, hr, hX⟩
theorem s_noGoal1 (h : F 23 = 1) : gm_Sp gm_MT (d + 1) 8063 [.ref 24] (gw A F nw nx LO DO) (.inl (some (.int 0))) (gw A (va_up F 20 0) nw nx LO DO) 0 0 := by
  refine gm_mk gm_mX7_noGoal rfl ⟨Or.inr rfl, rfl, rfl, trivial⟩ (fun G X hC hX => ?_)
  refine gm_runs hC [] 200 _ _ _ _ _ _ ?_
  exact gx_f (show ¬ ¬ F 23 = 1 from fun z => z h) (gx_t (show (0 : Int32) = 0 from rfl) (gx_z hX (Or.inl rfl) rfl rfl))
theorem s_noGoal2 (h : F 23 = 0) : gm_Sp gm_MT (d + 1) 8063 [.ref 24] (gw A F nw nx LO DO) (.inl (some (.int 1))) (gw A (va_up F 20 1) nw nx LO DO) 0 0 := by
  refine gm_mk gm_mX7_noGoal rfl ⟨Or.inr rfl, rfl, rfl, trivial⟩ (fun G X hC hX => ?_)
  refine gm_runs hC [] 200 _ _ _ _ _ _ ?_
  exact gx_t (show ¬ F 23 = 1 from by rw [h]; decide) (gx_f (show ¬ (1 : Int32) = 0 from by decide) (gx_z hX (Or.inr rfl) rfl rfl))
theorem mOk.th {x : Int32} (h : mOk A n) (hF : F 22 = nI n) : (va_up F 20 x) 22 = nI n := by rw [g_upn (by decide)]; exact hF
theorem s_denied7_loop (h : mOk A n) (hF : F 22 = nI n) {x : Int32} (G : pG) (X : pX) (hC : gm_cl gm_mX7_deniedBy gm_tyf none (gm_Sp gm_MT (d + 2)) G X) : ∀ (m i : Nat), i + m = n → ((∀ j, sFst (fun i => decide (mD A i = 0 ∧ sIn x (mP A i) = true)) m i = some j → X (.inl (some (.int (nI j)))) (gw A F nw nx LO DO) 0 0) ∧ (sFst (fun i => decide (mD A i = 0 ∧ sIn x (mP A i) = true)) m i = none → X (.inl (some (.int 0))) (gw A (va_up F 20 2) nw nx LO DO) 0 0)) → G 23 [some (.ref 24), some (.int x), some (.int (nI i))] [] (gw A F nw nx LO DO) 0 0 := by
  have h6 := h.1
  intro m
  induction m with
  | zero =>
    intro i hi hY
    have hf := s_fail (A := A) (F := F) (nw := nw) (nx := nx) (LO := LO) (DO := DO) (d := d + 1) 2
    refine gm_run1 hC [23] 200 23 ?_
    exact gx_t (show F 22 ≤ nI i from by rw [hF]; exact nI_le (by omega) (by omega)) (Or.inl ⟨_, _, _, _, hf, hY.2 rfl⟩)
  | succ m ih =>
    intro i hi hY
    have n1 : ¬ F 22 ≤ nI i := by rw [hF]; exact nI_ge (by omega) (by omega)
    have hd := s_isDemandN (A := A) (F := F) (nw := nw) (nx := nx) (LO := LO) (DO := DO) (d := d + 1) i (by omega)
    have ha := s_assumed (F := F) (nw := nw) (nx := nx) (LO := LO) (DO := DO) (d := d) h (j := i) (by omega)
    unfold sFst at hY
    have nxt : ¬ (mD A i = 0 ∧ sIn x (mP A i) = true) → G 23 [some (.ref 24), some (.int x), some (.int (nI i + 1))] [] (gw A F nw nx LO DO) 0 0 := fun c => by
      rw [if_neg (by rw [decide_eq_true_iff]; exact c)] at hY
      rw [nI_1]
      exact ih (i + 1) (by omega) hY
    clear ih
    by_cases c1 : mD A i = 0
    · by_cases c2 : sIn x (mP A i) = true
      · rw [if_pos (by rw [decide_eq_true_iff]; exact ⟨c1, c2⟩)] at hY
        have hY := hY.1 i rfl
        have c3 := of_decide_eq_true c2
        refine gm_run1 hC [23] 200 23 ?_
        exact gx_f n1 (And.intro (nI_in (by omega) (by decide)) (Or.inl ⟨_, _, _, _, hd, gx_f (show ¬ ¬ mD A i = 0 from fun z => z c1) (Or.inl ⟨_, _, _, _, ha, gx_f (show ¬ ¬ (mP A i >>> (x &&& 31)) &&& 1 = 1 from fun z => z c3) (gx_i hY rfl rfl)⟩)⟩))
      · have c3 := of_decide_eq_false (Bool.eq_false_iff.mpr c2)
        have nxt := nxt (fun z => c2 z.2)
        refine gm_run1 hC [23] 200 23 ?_
        exact gx_f n1 (And.intro (nI_in (by omega) (by decide)) (Or.inl ⟨_, _, _, _, hd, gx_f (show ¬ ¬ mD A i = 0 from fun z => z c1) (Or.inl ⟨_, _, _, _, ha, gx_t (show ¬ (mP A i >>> (x &&& 31)) &&& 1 = 1 from c3) nxt⟩)⟩))
    · have nxt := nxt (fun z => c1 z.1)
      refine gm_run1 hC [23] 200 23 ?_
      exact gx_f n1 (And.intro (nI_in (by omega) (by decide)) (Or.inl ⟨_, _, _, _, hd, gx_t (show ¬ mD A i = 0 from c1) nxt⟩))
theorem s_denied7a {x : Int32} (hx : gIn x 0 15 = false) : gm_Sp gm_MT (d + 3) 8060 [.ref 24, .int x] (gw A F nw nx LO DO) (.inl (some (.int 0))) (gw A (va_up F 20 1) nw nx LO DO) 0 0 := by
  have hi := s_isIn3 (A := A) (F := F) (nw := nw) (nx := nx) (LO := LO) (DO := DO) (d := d + 1) x 0 15
  have hf := s_fail (A := A) (F := F) (nw := nw) (nx := nx) (LO := LO) (DO := DO) (d := d + 1) 1
  rw [hx] at hi
  refine gm_mk gm_mX7_deniedBy rfl ⟨Or.inr rfl, rfl, rfl, trivial⟩ (fun G X hC hX => ?_)
  refine gm_runs hC [] 200 _ _ _ _ _ _ ?_
  exact Or.inl ⟨_, _, _, _, hi, gx_f (show ¬ ¬ (0 : Int32) = 0 from fun z => z rfl) (Or.inl ⟨_, _, _, _, hf, hX⟩)⟩
theorem s_denied7b (h : mOk A n) (hF : F 22 = nI n) {x : Int32} (hx : gIn x 0 15 = true) : (∀ j, sFst (fun i => decide (mD A i = 0 ∧ sIn x (mP A i) = true)) n 0 = some j → gm_Sp gm_MT (d + 3) 8060 [.ref 24, .int x] (gw A F nw nx LO DO) (.inl (some (.int (nI j)))) (gw A (va_up F 20 0) nw nx LO DO) 0 0) ∧ (sFst (fun i => decide (mD A i = 0 ∧ sIn x (mP A i) = true)) n 0 = none → gm_Sp gm_MT (d + 3) 8060 [.ref 24, .int x] (gw A F nw nx LO DO) (.inl (some (.int 0))) (gw A (va_up (va_up F 20 0) 20 2) nw nx LO DO) 0 0) := by
  have hi := s_isIn3 (A := A) (F := F) (nw := nw) (nx := nx) (LO := LO) (DO := DO) (d := d + 1) x 0 15
  rw [hx] at hi
  refine ⟨fun j hj => gm_mk gm_mX7_deniedBy rfl ⟨Or.inr rfl, rfl, rfl, trivial⟩ (fun G X hC hX => ?_), fun hj => gm_mk gm_mX7_deniedBy rfl ⟨Or.inr rfl, rfl, rfl, trivial⟩ (fun G X hC hX => ?_)⟩
  · have h9 := s_denied7_loop h (h.th hF (x := 0)) (nw := nw) (nx := nx) (LO := LO) (DO := DO) (d := d) (x := x) G X hC n 0 (by omega) ⟨fun i hi => (by rw [hj] at hi; cases hi; exact hX), fun z => (by rw [hj] at z; cases z)⟩
    refine gm_runs hC [23] 200 _ _ _ _ _ _ ?_
    exact Or.inl ⟨_, _, _, _, hi, gx_t (show ¬ (1 : Int32) = 0 from by decide) h9⟩
  · have h9 := s_denied7_loop h (h.th hF (x := 0)) (nw := nw) (nx := nx) (LO := LO) (DO := DO) (d := d) (x := x) G X hC n 0 (by omega) ⟨fun i hi => (by rw [hj] at hi; cases hi), fun _ => hX⟩
    refine gm_runs hC [23] 200 _ _ _ _ _ _ ?_
    exact Or.inl ⟨_, _, _, _, hi, gx_t (show ¬ (1 : Int32) = 0 from by decide) h9⟩
end X