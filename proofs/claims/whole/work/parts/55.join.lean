/-! CUBES: joining, counting and finding prime implicants -/
def wN (j : Nat) : Nat := if j = 0 then 27 else if j = 1 then 9 else if j = 2 then 3 else 1
theorem wN_w : ∀ j, j < 4 → (if nI j = 0 then (27 : Int32) else if nI j = 1 then 9 else if nI j = 2 then 3 else 1) = nI (wN j) := by decide +kernel
theorem cDg_in : ∀ c, c < 81 → ∀ j, j < 4 → cDg (nI c) (nI j) = 0 → c + 2 * wN j < 81 := by decide +kernel
/-- two parts joined -/
def cjA (A : Nat → Nat → Int32) (c w : Nat) : Nat → Nat → Int32 := if A 16 (c + w) = 0 ∨ A 16 (c + w + w) = 0 then A else va_up (va_up A 16 (upd (A 16) c 1)) 17 (upd (upd (A 17) (c + w) 1) (c + w + w) 1)
def cjS (A : Nat → Nat → Int32) (c j : Nat) : Nat → Nat → Int32 := if cDg (nI c) (nI j) = 0 then cjA A c (wN j) else A
def cjL (c : Nat) : Nat → Nat → (Nat → Nat → Int32) → (Nat → Nat → Int32)
  | 0, _, A => A
  | m + 1, j, A => cjL c m (j + 1) (cjS A c j)
def cjI (cov : Int32) (A : Nat → Nat → Int32) (c : Nat) : Nat → Nat → Int32 := va_up (va_up A 17 (upd (A 17) c 0)) 16 (upd (A 16) c (gB (cSin (nI c) 4 0 && decide (¬ A 15 c &&& cov = 0))))
def cjC (cov : Int32) : Nat → (Nat → Nat → Int32) → (Nat → Nat → Int32)
  | 0, A => A
  | c + 1, A => cjC cov c (cjL c 4 0 (cjI cov A c))
def iCnt (p : Nat → Bool) : Nat → Nat → Int32 → Int32
  | 0, _, acc => acc
  | m + 1, i, acc => iCnt p m (i + 1) (if p i = true then acc + 1 else acc)
def iNth (p : Nat → Bool) (x : Int32) : Nat → Nat → Int32 → Option Nat
  | 0, _, _ => none
  | m + 1, i, b => if p i = true then (if b = x then some i else iNth p x m (i + 1) (b + 1)) else iNth p x m (i + 1) b
section X
variable {nw nx : Nat} {LO : Nat → Int64} {DO : Nat → UInt64} {d n : Nat} {A : Nat → Nat → Int32} {F : Nat → Int32}
theorem s_tells (c j : Int32) : gm_Sp gm_MT (d + 2) 1001 [.int c, .int j] (gw A F nw nx LO DO) (.inl (some (.int (if cDg c j = 0 then 45 else if cDg c j = 1 then 48 else 49)))) (gw A F nw nx LO DO) 0 0 := by
  refine gm_mk gm_mX0_tells rfl ⟨Or.inr rfl, rfl, rfl, trivial⟩ (fun G X hC hX => ?_)
  have hd := s_digitOf (A := A) (F := F) (nw := nw) (nx := nx) (LO := LO) (DO := DO) (d := d) c j
  have hd : gm_Sp gm_MT (d + 1) 1002 [.int c, .int j] (gw A F nw nx LO DO) (.inl (some (.int (cDg c j)))) (gw A F nw nx LO DO) 0 0 := hd
  refine gm_runs hC [] 200 _ _ _ _ _ _ ?_
  refine Or.inl ⟨_, _, _, _, hd, ?_⟩
  by_cases c0 : cDg c j = 0
  · rw [if_pos c0] at hX
    exact gx_f (show ¬ ¬ cDg c j = 0 from fun z => z c0) (gx_c hX (by decide) rfl rfl)
  · rw [if_neg c0] at hX
    by_cases c1 : cDg c j = 1
    · rw [if_pos c1] at hX
      exact gx_t c0 (gx_f (show ¬ ¬ cDg c j = 1 from fun z => z c1) (gx_c hX (by decide) rfl rfl))
    · rw [if_neg c1] at hX
      exact gx_t c0 (gx_t c1 (gx_c hX (by decide) rfl rfl))
theorem s_joinParts {c j : Nat} (hc : c < 81) (hj : j < 4) (h0 : cDg (nI c) (nI j) = 0) : gm_Sp gm_MT (d + 2) 1008 [.ref 14, .int (nI c), .int (nI j)] (gw A F nw nx LO DO) (.inl none) (gw (cjA A c (wN j)) F nw nx LO DO) 0 0 := by
  have hin := cDg_in c hc j hj h0
  have hw := s_weightOf (A := A) (F := F) (nw := nw) (nx := nx) (LO := LO) (DO := DO) (d := d) (nI j)
  rw [wN_w j hj] at hw
  generalize wN j = v at hin hw
  refine gm_mk gm_mX0_joinParts rfl ⟨Or.inr rfl, rfl, rfl, trivial⟩ (fun G X hC hX => ?_)
  refine gm_runs hC [7] 200 _ _ _ _ _ _ ?_
  refine Or.inl ⟨_, _, _, _, hw, ?_⟩
  show G 7 [some (.ref 14), some (.int (nI c)), some (.int (nI j)), some (.int (nI c + nI v)), none] [] (gw A F nw nx LO DO) 0 0
  rw [nI_add]
  refine gm_runs hC [15] 200 _ _ _ _ _ _ ?_
  refine Or.inl ⟨_, _, _, _, hw, ?_⟩
  show G 15 [some (.ref 14), some (.int (nI c)), some (.int (nI j)), some (.int (nI (c + v))), some (.int (nI (c + v) + nI v))] [] (gw A F nw nx LO DO) 0 0
  rw [nI_add]
  refine gm_runs hC [] 200 _ _ _ _ _ _ ?_
  have k1 := nI_clamp (n := c + v) (by omega)
  have k2 := nI_clamp (n := c + v + v) (by omega)
  have k0 := nI_clamp (n := c) (by omega)
  refine gx_f (show ¬ nI c < 0 from nI_pos (by omega)) (gx_f (show ¬ (81 : Int32) ≤ nI (c + v + v) from nI_ge (b := 81) (by omega) (by decide)) (And.intro (nI_in (by omega) (by decide)) ?_))
  unfold cjA at hX
  by_cases c1 : A 16 (c + v) = 0
  · rw [if_pos (Or.inl c1)] at hX
    exact gx_t (show A 16 (nI (c + v)).toNatClampNeg = 0 from by rw [k1]; exact c1) hX
  · refine gx_f (show ¬ A 16 (nI (c + v)).toNatClampNeg = 0 from by rw [k1]; exact c1) (And.intro (nI_in (by omega) (by decide)) ?_)
    by_cases c2 : A 16 (c + v + v) = 0
    · rw [if_pos (Or.inr c2)] at hX
      exact gx_t (show A 16 (nI (c + v + v)).toNatClampNeg = 0 from by rw [k2]; exact c2) hX
    · rw [if_neg (fun z => z.elim c1 c2)] at hX
      refine gx_f (show ¬ A 16 (nI (c + v + v)).toNatClampNeg = 0 from by rw [k2]; exact c2) (And.intro (nI_in (by omega) (by decide)) (And.intro (Or.inr rfl) (And.intro (nI_in (by omega) (by decide)) (And.intro (Or.inr rfl) (And.intro (nI_in (by omega) (by decide)) (And.intro (Or.inr rfl) ?_))))))
      rw [k0, k1, k2]
      exact hX
theorem s_join (cov : Int32) : gm_Sp gm_MT (d + 3) 1006 [.ref 14, .int cov] (gw A F nw nx LO DO) (.inl none) (gw (cjC cov 81 A) F nw nx LO DO) 0 0 := by
  generalize hA2 : cjC cov 81 A = A2
  refine gm_mk gm_mX0_join rfl ⟨Or.inr rfl, rfl, rfl, trivial⟩ (fun G X hC hX => ?_)
  have inner : ∀ (m j c : Nat) (A : Nat → Nat → Int32), j + m = 4 → c < 81 → (∀ o, (o = none ∨ ∃ u, o = some (.int u)) → G 3 [some (.ref 14), some (.int cov), some (.int (nI c - 1)), o] [] (gw (cjL c m j A) F nw nx LO DO) 0 0) → G 45 [some (.ref 14), some (.int cov), some (.int (nI c)), some (.int (nI j))] [] (gw A F nw nx LO DO) 0 0 := by
    intro m
    induction m with
    | zero =>
      intro j c A hj hc hY
      have hj : j = 4 := by omega
      subst hj
      have hY := hY (some (.int (nI 4))) (Or.inr ⟨_, rfl⟩)
      rw [← nI_m1] at hY
      refine gm_run1 hC [45, 3] 200 45 ?_
      exact gx_t (show (4 : Int32) ≤ nI 4 from by decide) hY
    | succ m ih =>
      intro j c A hj hc hY
      have hd := s_digitOf (A := A) (F := F) (nw := nw) (nx := nx) (LO := LO) (DO := DO) (d := d + 1) (nI c) (nI j)
      have hd : gm_Sp gm_MT (d + 2) 1002 [.int (nI c), .int (nI j)] (gw A F nw nx LO DO) (.inl (some (.int (cDg (nI c) (nI j))))) (gw A F nw nx LO DO) 0 0 := hd
      have h9 := ih (j + 1) c (cjS A c j) (by omega) hc hY
      rw [← nI_1] at h9
      clear ih hY
      unfold cjS at h9
      have n1 : ¬ (4 : Int32) ≤ nI j := nI_ge (b := 4) (by omega) (by decide)
      by_cases c0 : cDg (nI c) (nI j) = 0
      · rw [if_pos c0] at h9
        have hp := s_joinParts (A := A) (F := F) (nw := nw) (nx := nx) (LO := LO) (DO := DO) (d := d) hc (show j < 4 by omega) c0
        refine gm_run1 hC [45, 3] 200 45 ?_
        exact gx_f n1 (Or.inl ⟨_, _, _, _, hd, gx_f (show ¬ ¬ cDg (nI c) (nI j) = 0 from fun z => z c0) (Or.inl ⟨_, _, _, _, hp, h9⟩)⟩)
      · rw [if_neg c0] at h9
        refine gm_run1 hC [45, 3] 200 45 ?_
        exact gx_f n1 (Or.inl ⟨_, _, _, _, hd, gx_t c0 h9⟩)
  have loop : ∀ (k : Nat) (A : Nat → Nat → Int32) (o : Option Value), (o = none ∨ ∃ u, o = some (.int u)) → k ≤ 81 → X (.inl none) (gw (cjC cov k A) F nw nx LO DO) 0 0 → G 3 [some (.ref 14), some (.int cov), some (.int (nI k - 1)), o] [] (gw A F nw nx LO DO) 0 0 := by
    intro k
    induction k with
    | zero =>
      intro A o ho hk hY
      have h1 : nI 0 - 1 < 0 := by decide
      rcases ho with rfl | ⟨u, rfl⟩
      all_goals
        refine gm_run1 hC [45, 3] 200 3 ?_
        exact gx_t h1 hY
    | succ c ih =>
      intro A o ho hk hY
      have h9 := inner 4 0 c (cjI cov A c) rfl (by omega) (fun o ho => ih (cjL c 4 0 (cjI cov A c)) o ho (by omega) hY)
      have hs := s_isSingle (A := va_up A 17 (upd (A 17) c 0)) (F := F) (nw := nw) (nx := nx) (LO := LO) (DO := DO) (d := d) (nI c)
      clear ih hY inner
      rw [nI_pred]
      have h1 : ¬ nI c < 0 := nI_pos (by omega)
      have k0 := nI_clamp (n := c) (by omega)
      unfold cjI at h9
      cases hq : cSin (nI c) 4 0 with
      | false =>
        rw [hq] at hs h9
        rcases ho with rfl | ⟨u, rfl⟩
        all_goals
          refine gm_run1 hC [45, 3] 200 3 ?_
          refine gx_f h1 (And.intro (nI_in (by omega) (by decide)) (And.intro (Or.inl rfl) ?_))
          rw [k0]
          exact Or.inl ⟨_, _, _, _, hs, gx_t (show (0 : Int32) = 0 from rfl) (And.intro (nI_in (by omega) (by decide)) (And.intro (Or.inl rfl) (by rw [k0]; exact h9)))⟩
      | true =>
        rw [hq] at hs h9
        by_cases c3 : A 15 c &&& cov = 0
        · rw [decide_eq_false (fun z => z c3)] at h9
          rcases ho with rfl | ⟨u, rfl⟩
          all_goals
            refine gm_run1 hC [45, 3] 200 3 ?_
            refine gx_f h1 (And.intro (nI_in (by omega) (by decide)) (And.intro (Or.inl rfl) ?_))
            rw [k0]
            exact Or.inl ⟨_, _, _, _, hs, gx_f (show ¬ (1 : Int32) = 0 from by decide) (And.intro (nI_in (by omega) (by decide)) (gx_t (show A 15 (nI c).toNatClampNeg &&& cov = 0 from by rw [k0]; exact c3) (And.intro (nI_in (by omega) (by decide)) (And.intro (Or.inl rfl) (by rw [k0]; exact h9)))))⟩
        · rw [decide_eq_true c3] at h9
          rcases ho with rfl | ⟨u, rfl⟩
          all_goals
            refine gm_run1 hC [45, 3] 200 3 ?_
            refine gx_f h1 (And.intro (nI_in (by omega) (by decide)) (And.intro (Or.inl rfl) ?_))
            rw [k0]
            exact Or.inl ⟨_, _, _, _, hs, gx_f (show ¬ (1 : Int32) = 0 from by decide) (And.intro (nI_in (by omega) (by decide)) (gx_f (show ¬ A 15 (nI c).toNatClampNeg &&& cov = 0 from by rw [k0]; exact c3) (And.intro (nI_in (by omega) (by decide)) (And.intro (Or.inr rfl) (by rw [k0]; exact h9)))))⟩
  refine gm_runs hC [45, 3] 200 _ _ _ _ _ _ ?_
  have := loop 81 A none (Or.inl rfl) (by omega) (by rw [hA2]; exact hX)
  exact this
end X