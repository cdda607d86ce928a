/-! CUBES: the prime implicants that were found, and those by trying -/
def cPr (A : Nat → Nat → Int32) (i : Nat) : Bool := decide (¬ A 16 i = 0 ∧ A 17 i = 0)
def cIns (A : Nat → Nat → Int32) (cov : Int32) (i : Nat) : Bool := decide (A 15 i &&& (cov ^^^ (-1)) = 0)
def cLg (A : Nat → Nat → Int32) (cov : Int32) (c o : Nat) : Bool := decide (¬ o = c) && (cIns A cov o && decide (A 15 c &&& (A 15 o ^^^ (-1)) = 0))
def cTr (A : Nat → Nat → Int32) (cov : Int32) (i : Nat) : Bool := cIns A cov i && (sFst (cLg A cov i) 81 0).isNone
section X
variable {nw nx : Nat} {LO : Nat → Int64} {DO : Nat → UInt64} {d n : Nat} {A : Nat → Nat → Int32} {F : Nat → Int32}
theorem s_countPrimes : gm_Sp gm_MT (d + 1) 1009 [.ref 14] (gw A F nw nx LO DO) (.inl (some (.int (iCnt (cPr A) 81 0 0)))) (gw A F nw nx LO DO) 0 0 := by
  refine gm_mk gm_mX0_countPrimes rfl ⟨Or.inr rfl, rfl, rfl, trivial⟩ (fun G X hC hX => ?_)
  have loop : ∀ (m i : Nat) (acc : Int32), i + m = 81 → X (.inl (some (.int (iCnt (cPr A) m i acc)))) (gw A F nw nx LO DO) 0 0 → G 4 [some (.ref 14), some (.int acc), some (.int (nI i))] [] (gw A F nw nx LO DO) 0 0 := by
    intro m
    induction m with
    | zero =>
      intro i acc hi hY
      have hi : i = 81 := by omega
      subst hi
      refine gm_run1 hC [4] 200 4 ?_
      exact gx_t (show (81 : Int32) ≤ nI 81 from by decide) (gx_i hY rfl rfl)
    | succ m ih =>
      intro i acc hi hY
      have n1 : ¬ (81 : Int32) ≤ nI i := nI_ge (b := 81) (by omega) (by decide)
      have k0 := nI_clamp (n := i) (by omega)
      have h9 := ih (i + 1) _ (by omega) hY
      rw [← nI_1] at h9
      clear ih hY
      unfold cPr at h9
      by_cases c1 : A 16 i = 0
      · rw [if_neg (fun z => (of_decide_eq_true z).1 c1)] at h9
        refine gm_run1 hC [4] 200 4 ?_
        exact gx_f n1 (And.intro (nI_in (by omega) (by decide)) (gx_t (show A 16 (nI i).toNatClampNeg = 0 from by rw [k0]; exact c1) h9))
      · by_cases c2 : A 17 i = 0
        · rw [if_pos (decide_eq_true ⟨c1, c2⟩)] at h9
          refine gm_run1 hC [4] 200 4 ?_
          exact gx_f n1 (And.intro (nI_in (by omega) (by decide)) (gx_f (show ¬ A 16 (nI i).toNatClampNeg = 0 from by rw [k0]; exact c1) (And.intro (nI_in (by omega) (by decide)) (gx_f (show ¬ ¬ A 17 (nI i).toNatClampNeg = 0 from by rw [k0]; exact fun z => z c2) h9))))
        · rw [if_neg (fun z => c2 (of_decide_eq_true z).2)] at h9
          refine gm_run1 hC [4] 200 4 ?_
          exact gx_f n1 (And.intro (nI_in (by omega) (by decide)) (gx_f (show ¬ A 16 (nI i).toNatClampNeg = 0 from by rw [k0]; exact c1) (And.intro (nI_in (by omega) (by decide)) (gx_t (show ¬ A 17 (nI i).toNatClampNeg = 0 from by rw [k0]; exact c2) h9))))
  refine gm_runs hC [4] 200 _ _ _ _ _ _ ?_
  exact loop 81 0 0 rfl hX
theorem s_primeAt (x : Int32) : gm_Sp gm_MT (d + 1) 1010 [.ref 14, .int x] (gw A F nw nx LO DO) (.inl (some (.int (gOI (iNth (cPr A) x 81 0 0))))) (gw A F nw nx LO DO) 0 0 := by
  refine gm_mk gm_mX0_primeAt rfl ⟨Or.inr rfl, rfl, rfl, trivial⟩ (fun G X hC hX => ?_)
  have loop : ∀ (m i : Nat) (b : Int32), i + m = 81 → X (.inl (some (.int (gOI (iNth (cPr A) x m i b))))) (gw A F nw nx LO DO) 0 0 → G 4 [some (.ref 14), some (.int x), some (.int b), some (.int (nI i))] [] (gw A F nw nx LO DO) 0 0 := by
    intro m
    induction m with
    | zero =>
      intro i b hi hY
      have hi : i = 81 := by omega
      subst hi
      have hY : X (.inl (some (.int (-1)))) (gw A F nw nx LO DO) 0 0 := hY
      refine gm_run1 hC [4] 200 4 ?_
      exact gx_t (show (81 : Int32) ≤ nI 81 from by decide) (gx_i hY (by decide) rfl)
    | succ m ih =>
      intro i b hi hY
      have n1 : ¬ (81 : Int32) ≤ nI i := nI_ge (b := 81) (by omega) (by decide)
      have k0 := nI_clamp (n := i) (by omega)
      unfold iNth at hY
      have nxt : ∀ b2, X (.inl (some (.int (gOI (iNth (cPr A) x m (i + 1) b2))))) (gw A F nw nx LO DO) 0 0 → G 4 [some (.ref 14), some (.int x), some (.int b2), some (.int (nI i + 1))] [] (gw A F nw nx LO DO) 0 0 := fun b2 h => by
        rw [nI_1]
        exact ih (i + 1) b2 (by omega) h
      clear ih
      unfold cPr at hY nxt
      by_cases c1 : A 16 i = 0
      · rw [if_neg (fun z => (of_decide_eq_true z).1 c1)] at hY
        refine gm_run1 hC [4] 200 4 ?_
        exact gx_f n1 (And.intro (nI_in (by omega) (by decide)) (gx_t (show A 16 (nI i).toNatClampNeg = 0 from by rw [k0]; exact c1) (nxt b hY)))
      · by_cases c2 : A 17 i = 0
        · rw [if_pos (decide_eq_true ⟨c1, c2⟩)] at hY
          by_cases c3 : b = x
          · rw [if_pos c3] at hY
            have hY : X (.inl (some (.int (nI i)))) (gw A F nw nx LO DO) 0 0 := hY
            refine gm_run1 hC [4] 200 4 ?_
            exact gx_f n1 (And.intro (nI_in (by omega) (by decide)) (gx_f (show ¬ A 16 (nI i).toNatClampNeg = 0 from by rw [k0]; exact c1) (And.intro (nI_in (by omega) (by decide)) (gx_f (show ¬ ¬ A 17 (nI i).toNatClampNeg = 0 from by rw [k0]; exact fun z => z c2) (gx_f (show ¬ ¬ b = x from fun z => z c3) (gx_i hY rfl rfl))))))
          · rw [if_neg c3] at hY
            refine gm_run1 hC [4] 200 4 ?_
            exact gx_f n1 (And.intro (nI_in (by omega) (by decide)) (gx_f (show ¬ A 16 (nI i).toNatClampNeg = 0 from by rw [k0]; exact c1) (And.intro (nI_in (by omega) (by decide)) (gx_f (show ¬ ¬ A 17 (nI i).toNatClampNeg = 0 from by rw [k0]; exact fun z => z c2) (gx_t c3 (nxt (b + 1) hY))))))
        · rw [if_neg (fun z => c2 (of_decide_eq_true z).2)] at hY
          refine gm_run1 hC [4] 200 4 ?_
          exact gx_f n1 (And.intro (nI_in (by omega) (by decide)) (gx_f (show ¬ A 16 (nI i).toNatClampNeg = 0 from by rw [k0]; exact c1) (And.intro (nI_in (by omega) (by decide)) (gx_t (show ¬ A 17 (nI i).toNatClampNeg = 0 from by rw [k0]; exact c2) (nxt b hY)))))
  refine gm_runs hC [4] 200 _ _ _ _ _ _ ?_
  exact loop 81 0 0 rfl hX
theorem s_isInLarger (cov : Int32) {c : Nat} (hc : c < 81) : gm_Sp gm_MT (d + 2) 1012 [.ref 14, .int (nI c), .int cov] (gw A F nw nx LO DO) (.inl (some (.int (gB (sFst (cLg A cov c) 81 0).isSome)))) (gw A F nw nx LO DO) 0 0 := by
  refine gm_mk gm_mX0_isInLarger rfl ⟨Or.inr rfl, rfl, rfl, trivial⟩ (fun G X hC hX => ?_)
  have kc := nI_clamp (n := c) (by omega)
  have loop : ∀ (m i : Nat), i + m = 81 → X (.inl (some (.int (gB (sFst (cLg A cov c) m i).isSome)))) (gw A F nw nx LO DO) 0 0 → G 14 [some (.ref 14), some (.int (nI c)), some (.int cov), some (.int (nI i))] [] (gw A F nw nx LO DO) 0 0 := by
    intro m
    induction m with
    | zero =>
      intro i hi hY
      have hi : i = 81 := by omega
      subst hi
      have hY : X (.inl (some (.int 0))) (gw A F nw nx LO DO) 0 0 := hY
      refine gm_run1 hC [14] 200 14 ?_
      exact gx_t (show (81 : Int32) ≤ nI 81 from by decide) (gx_z hY (Or.inl rfl) rfl rfl)
    | succ m ih =>
      intro i hi hY
      have n1 : ¬ (81 : Int32) ≤ nI i := nI_ge (b := 81) (by omega) (by decide)
      have k0 := nI_clamp (n := i) (by omega)
      unfold sFst at hY
      have nxt : ¬ cLg A cov c i = true → G 14 [some (.ref 14), some (.int (nI c)), some (.int cov), some (.int (nI i + 1))] [] (gw A F nw nx LO DO) 0 0 := fun h => by
        rw [if_neg h] at hY
        rw [nI_1]
        exact ih (i + 1) (by omega) hY
      clear ih
      have hi1 := s_isInside (A := A) (F := F) (nw := nw) (nx := nx) (LO := LO) (DO := DO) (d := d) (A 15 i) cov
      have hi2 := s_isInside (A := A) (F := F) (nw := nw) (nx := nx) (LO := LO) (DO := DO) (d := d) (A 15 c) (A 15 i)
      by_cases c0 : i = c
      · have nxt := nxt (by unfold cLg; rw [decide_eq_false (fun z => z c0), Bool.false_and]; decide)
        refine gm_run1 hC [14] 200 14 ?_
        exact gx_f n1 (gx_t (show nI i = nI c from by rw [c0]) nxt)
      · have c0' : ¬ nI i = nI c := fun z => c0 ((nI_eq (by omega) (by omega)).mp z)
        by_cases c1 : A 15 i &&& (cov ^^^ (-1)) = 0
        · rw [decide_eq_true c1] at hi1
          by_cases c2 : A 15 c &&& (A 15 i ^^^ (-1)) = 0
          · rw [decide_eq_true c2] at hi2
            rw [if_pos (by unfold cLg cIns; rw [decide_eq_true c0, decide_eq_true c1, decide_eq_true c2]; rfl)] at hY
            have hY : X (.inl (some (.int 1))) (gw A F nw nx LO DO) 0 0 := hY
            refine gm_run1 hC [14] 200 14 ?_
            refine gx_f n1 (gx_f c0' (And.intro (nI_in (by omega) (by decide)) ?_))
            rw [k0]
            refine Or.inl ⟨_, _, _, _, hi1, gx_f (show ¬ (1 : Int32) = 0 from by decide) (And.intro (nI_in (by omega) (by decide)) (And.intro (nI_in (by omega) (by decide)) ?_))⟩
            rw [kc, k0]
            exact Or.inl ⟨_, _, _, _, hi2, gx_f (show ¬ (1 : Int32) = 0 from by decide) (gx_z hY (Or.inr rfl) rfl rfl)⟩
          · rw [decide_eq_false c2] at hi2
            have nxt := nxt (by unfold cLg; rw [decide_eq_false c2, Bool.and_false, Bool.and_false]; decide)
            refine gm_run1 hC [14] 200 14 ?_
            refine gx_f n1 (gx_f c0' (And.intro (nI_in (by omega) (by decide)) ?_))
            rw [k0]
            refine Or.inl ⟨_, _, _, _, hi1, gx_f (show ¬ (1 : Int32) = 0 from by decide) (And.intro (nI_in (by omega) (by decide)) (And.intro (nI_in (by omega) (by decide)) ?_))⟩
            rw [kc, k0]
            exact Or.inl ⟨_, _, _, _, hi2, gx_t (show (0 : Int32) = 0 from rfl) nxt⟩
        · rw [decide_eq_false c1] at hi1
          have nxt := nxt (by unfold cLg cIns; rw [decide_eq_false c1, Bool.false_and, Bool.and_false]; decide)
          refine gm_run1 hC [14] 200 14 ?_
          refine gx_f n1 (gx_f c0' (And.intro (nI_in (by omega) (by decide)) ?_))
          rw [k0]
          exact Or.inl ⟨_, _, _, _, hi1, gx_t (show (0 : Int32) = 0 from rfl) nxt⟩
  refine gm_runs hC [14] 200 _ _ _ _ _ _ ?_
  exact gx_f (show ¬ nI c < 0 from nI_pos (by omega)) (gx_t (show nI c < 81 from nI_lt (b := 81) hc (by decide)) (loop 81 0 rfl hX))
theorem s_countTrying (cov : Int32) : gm_Sp gm_MT (d + 3) 1011 [.ref 14, .int cov] (gw A F nw nx LO DO) (.inl (some (.int (iCnt (cTr A cov) 81 0 0)))) (gw A F nw nx LO DO) 0 0 := by
  refine gm_mk gm_mX0_countByTrying rfl ⟨Or.inr rfl, rfl, rfl, trivial⟩ (fun G X hC hX => ?_)
  have loop : ∀ (m i : Nat) (acc : Int32), i + m = 81 → X (.inl (some (.int (iCnt (cTr A cov) m i acc)))) (gw A F nw nx LO DO) 0 0 → G 4 [some (.ref 14), some (.int cov), some (.int acc), some (.int (nI i))] [] (gw A F nw nx LO DO) 0 0 := by
    intro m
    induction m with
    | zero =>
      intro i acc hi hY
      have hi : i = 81 := by omega
      subst hi
      refine gm_run1 hC [4] 200 4 ?_
      exact gx_t (show (81 : Int32) ≤ nI 81 from by decide) (gx_i hY rfl rfl)
    | succ m ih =>
      intro i acc hi hY
      have n1 : ¬ (81 : Int32) ≤ nI i := nI_ge (b := 81) (by omega) (by decide)
      have k0 := nI_clamp (n := i) (by omega)
      have h9 := ih (i + 1) _ (by omega) hY
      rw [← nI_1] at h9
      clear ih hY
      have hi1 := s_isInside (A := A) (F := F) (nw := nw) (nx := nx) (LO := LO) (DO := DO) (d := d + 1) (A 15 i) cov
      have hi1 : gm_Sp gm_MT (d + 2) 1013 [.int (A 15 i), .int cov] (gw A F nw nx LO DO) (.inl (some (.int (gB (cIns A cov i))))) (gw A F nw nx LO DO) 0 0 := hi1
      have hl := s_isInLarger (A := A) (F := F) (nw := nw) (nx := nx) (LO := LO) (DO := DO) (d := d) cov (c := i) (by omega)
      unfold cTr at h9
      cases c1 : cIns A cov i with
      | false =>
        rw [c1] at hi1 h9
        rw [if_neg (by rw [Bool.false_and]; decide)] at h9
        refine gm_run1 hC [4] 200 4 ?_
        refine gx_f n1 (And.intro (nI_in (by omega) (by decide)) ?_)
        rw [k0]
        exact Or.inl ⟨_, _, _, _, hi1, gx_t (show (0 : Int32) = 0 from rfl) h9⟩
      | true =>
        rw [c1] at hi1 h9
        cases c2 : sFst (cLg A cov i) 81 0 with
        | none =>
          rw [c2] at hl h9
          rw [if_pos (by decide)] at h9
          refine gm_run1 hC [4] 200 4 ?_
          refine gx_f n1 (And.intro (nI_in (by omega) (by decide)) ?_)
          rw [k0]
          exact Or.inl ⟨_, _, _, _, hi1, gx_f (show ¬ (1 : Int32) = 0 from by decide) (Or.inl ⟨_, _, _, _, hl, gx_f (show ¬ ¬ (0 : Int32) = 0 from fun z => z rfl) h9⟩)⟩
        | some j =>
          rw [c2] at hl h9
          rw [if_neg (by rw [Option.isNone_some]; decide)] at h9
          refine gm_run1 hC [4] 200 4 ?_
          refine gx_f n1 (And.intro (nI_in (by omega) (by decide)) ?_)
          rw [k0]
          exact Or.inl ⟨_, _, _, _, hi1, gx_f (show ¬ (1 : Int32) = 0 from by decide) (Or.inl ⟨_, _, _, _, hl, gx_t (show ¬ (1 : Int32) = 0 from by decide) h9⟩)⟩
  refine gm_runs hC [4] 200 _ _ _ _ _ _ ?_
  exact loop 81 0 0 rfl hX
end X