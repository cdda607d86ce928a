/-! THE REFERENCE'S CUBES -/
def mCub : Nat → Int32 → Int32 → Int32
  | 0, _, acc => acc
  | k + 1, x, acc => mCub k (x / 3) (acc &&& (if x - x / 3 * 3 = 0 then 65535 else if x - x / 3 * 3 = 1 then lcF (nI k) 16 0 0 ^^^ (-1) else lcF (nI k) 16 0 0))
theorem mCub_T : ∀ c, c < 81 → mCub 4 (nI c) 65535 = nI (cTn c) := by decide +kernel
def mIn (cov : Int32) (c : Nat) : Bool := decide (nI (cTn c) &&& (cov ^^^ (-1)) = 0)
def mLg (cov : Int32) (c o : Nat) : Bool := decide (¬ o = c) && (mIn cov o && decide (nI (cTn c) &&& (nI (cTn o) ^^^ (-1)) = 0))
def mPr (cov : Int32) (c : Nat) : Bool := mIn cov c && (sFst (mLg cov c) 81 0).isNone
theorem sFst_ext {p q : Nat → Bool} : ∀ {m i : Nat}, (∀ j, j < i + m → p j = q j) → sFst p m i = sFst q m i
  | 0, _, _ => rfl
  | m + 1, i, h => by
    unfold sFst
    rw [h i (by omega), sFst_ext (m := m) (i := i + 1) (fun j hj => h j (by omega))]
theorem cTr_m {A : Nat → Nat → Int32} (hA : ∀ c, c < 81 → A 15 c = nI (cTn c)) (cov : Int32) {c : Nat} (hc : c < 81) : cTr A cov c = mPr cov c := by
  have h1 : ∀ o, o < 81 → cIns A cov o = mIn cov o := fun o ho => by unfold cIns mIn; rw [hA o ho]
  unfold cTr mPr
  rw [h1 c hc, sFst_ext (p := cLg A cov c) (q := mLg cov c) (fun o ho => ?_)]
  unfold cLg mLg
  rw [h1 o (by omega), hA c hc, hA o (by omega)]
theorem iCnt_ext {p q : Nat → Bool} : ∀ {m i : Nat} {acc : Int32}, (∀ j, j < i + m → p j = q j) → iCnt p m i acc = iCnt q m i acc
  | 0, _, _, _ => rfl
  | m + 1, i, acc, h => by
    unfold iCnt
    rw [h i (by omega), iCnt_ext (m := m) (i := i + 1) (fun j hj => h j (by omega))]
theorem iNth_ext {p q : Nat → Bool} {x : Int32} : ∀ {m i : Nat} {b : Int32}, (∀ j, j < i + m → p j = q j) → iNth p x m i b = iNth q x m i b
  | 0, _, _, _ => rfl
  | m + 1, i, b, h => by
    unfold iNth
    rw [h i (by omega), iNth_ext (m := m) (i := i + 1) (b := b + 1) (fun j hj => h j (by omega)), iNth_ext (m := m) (i := i + 1) (b := b) (fun j hj => h j (by omega))]
theorem iNth_lt {p : Nat → Bool} {x : Int32} : ∀ {m i : Nat} {b : Int32} {j : Nat}, iNth p x m i b = some j → j < i + m
  | 0, _, _, _, h => by cases h
  | m + 1, i, b, j, h => by
    unfold iNth at h
    split at h
    · split at h
      · cases h; omega
      · have := iNth_lt h; omega
    · have := iNth_lt h; omega
section X
variable {nw nx : Nat} {LO : Nat → Int64} {DO : Nat → UInt64} {d : Nat} {A : Nat → Nat → Int32} {F : Nat → Int32} {rows : List (Int32 × Int32 × Int32)} {sp : Nat → List Int32}
theorem s_cube7 {c : Nat} (hc : c < 81) : gm_Sp gm_MT (d + 2) 8041 [.int (nI c)] (gw A F nw nx LO DO) (.inl (some (.int (nI (cTn c))))) (gw A F nw nx LO DO) 0 0 := by
  rw [← mCub_T c hc]
  refine gm_mk gm_mX7_cube rfl ⟨Or.inr rfl, rfl, rfl, trivial⟩ (fun G X hC hX => ?_)
  have loop : ∀ (k : Nat) (x acc : Int32) (o : Option Value), (o = none ∨ ∃ u, o = some (.int u)) → k ≤ 4 → X (.inl (some (.int (mCub k x acc)))) (gw A F nw nx LO DO) 0 0 → G 7 [some (.int (nI c)), some (.int acc), some (.int x), some (.int (nI k - 1)), o] [] (gw A F nw nx LO DO) 0 0 := by
    intro k
    induction k with
    | zero =>
      intro x acc o ho hk hY
      have h1 : nI 0 - 1 < 0 := by decide
      rcases ho with rfl | ⟨u, rfl⟩
      all_goals
        refine gm_run1 hC [7] 200 7 ?_
        exact gx_t h1 (gx_i hY rfl rfl)
    | succ k ih =>
      intro x acc o ho hk hY
      have h9 := ih (x / 3) _ (some (.int (x - x / 3 * 3))) (Or.inr ⟨_, rfl⟩) (by omega) hY
      rw [← nI_m1] at h9
      clear ih hY
      rw [nI_pred]
      have h1 : ¬ nI k < 0 := nI_pos (by omega)
      have hl := s_letterCover (A := A) (F := F) (nw := nw) (nx := nx) (LO := LO) (DO := DO) (d := d) (nI k)
      by_cases c0 : x - x / 3 * 3 = 0
      · rw [if_pos c0] at h9
        rcases ho with rfl | ⟨u, rfl⟩
        all_goals
          refine gm_run1 hC [7] 200 7 ?_
          exact gx_f h1 (And.intro (by decide) (And.intro (by decide) (gx_f (show ¬ ¬ x - x / 3 * 3 = 0 from fun z => z c0) h9)))
      · rw [if_neg c0] at h9
        by_cases c1 : x - x / 3 * 3 = 1
        · rw [if_pos c1] at h9
          rcases ho with rfl | ⟨u, rfl⟩
          all_goals
            refine gm_run1 hC [7] 200 7 ?_
            exact gx_f h1 (And.intro (by decide) (And.intro (by decide) (gx_t c0 (gx_f (show ¬ ¬ x - x / 3 * 3 = 1 from fun z => z c1) (Or.inl ⟨_, _, _, _, hl, h9⟩)))))
        · rw [if_neg c1] at h9
          rcases ho with rfl | ⟨u, rfl⟩
          all_goals
            refine gm_run1 hC [7] 200 7 ?_
            exact gx_f h1 (And.intro (by decide) (And.intro (by decide) (gx_t c0 (gx_t c1 (Or.inl ⟨_, _, _, _, hl, h9⟩)))))
  refine gm_runs hC [7] 200 _ _ _ _ _ _ ?_
  exact loop 4 (nI c) 65535 none (Or.inl rfl) (by omega) hX
theorem s_isImplicant (cov : Int32) {c : Nat} (hc : c < 81) : gm_Sp gm_MT (d + 3) 8042 [.int (nI c), .int cov] (gw A F nw nx LO DO) (.inl (some (.int (gB (mIn cov c))))) (gw A F nw nx LO DO) 0 0 := by
  refine gm_mk gm_mX7_isImplicant rfl ⟨Or.inr rfl, rfl, rfl, trivial⟩ (fun G X hC hX => ?_)
  have hq := s_cube7 (A := A) (F := F) (nw := nw) (nx := nx) (LO := LO) (DO := DO) (d := d) hc
  unfold mIn at hX
  refine gm_runs hC [] 200 _ _ _ _ _ _ ?_
  by_cases c1 : nI (cTn c) &&& (cov ^^^ (-1)) = 0
  · rw [decide_eq_true c1] at hX
    exact Or.inl ⟨_, _, _, _, hq, gx_f (show ¬ ¬ nI (cTn c) &&& (cov ^^^ (-1)) = 0 from fun z => z c1) (gx_z hX (Or.inr rfl) rfl rfl)⟩
  · rw [decide_eq_false c1] at hX
    exact Or.inl ⟨_, _, _, _, hq, gx_t c1 (gx_z hX (Or.inl rfl) rfl rfl)⟩
theorem s_isPrime (cov : Int32) {c : Nat} (hc : c < 81) : gm_Sp gm_MT (d + 4) 8043 [.int (nI c), .int cov] (gw A F nw nx LO DO) (.inl (some (.int (gB (mPr cov c))))) (gw A F nw nx LO DO) 0 0 := by
  refine gm_mk gm_mX7_isPrime rfl ⟨Or.inr rfl, rfl, rfl, trivial⟩ (fun G X hC hX => ?_)
  have hi := s_isImplicant (A := A) (F := F) (nw := nw) (nx := nx) (LO := LO) (DO := DO) (d := d) cov hc
  have hcu := s_cube7 (A := A) (F := F) (nw := nw) (nx := nx) (LO := LO) (DO := DO) (d := d + 1) hc
  have loop : ∀ (m i : Nat), i + m = 81 → X (.inl (some (.int (gB (sFst (mLg cov c) m i).isNone)))) (gw A F nw nx LO DO) 0 0 → G 17 [some (.int (nI c)), some (.int cov), some (.int (nI (cTn c))), some (.int (nI i))] [] (gw A F nw nx LO DO) 0 0 := by
    intro m
    induction m with
    | zero =>
      intro i hi hY
      have hi : i = 81 := by omega
      subst hi
      have hY : X (.inl (some (.int 1))) (gw A F nw nx LO DO) 0 0 := hY
      refine gm_run1 hC [17] 200 17 ?_
      exact gx_t (show (81 : Int32) ≤ nI 81 from by decide) (gx_z hY (Or.inr rfl) rfl rfl)
    | succ m ih =>
      intro i hi hY
      have n1 : ¬ (81 : Int32) ≤ nI i := nI_ge (b := 81) (by omega) (by decide)
      unfold sFst at hY
      have nxt : ¬ mLg cov c i = true → G 17 [some (.int (nI c)), some (.int cov), some (.int (nI (cTn c))), some (.int (nI i + 1))] [] (gw A F nw nx LO DO) 0 0 := fun h => by
        rw [if_neg h] at hY
        rw [nI_1]
        exact ih (i + 1) (by omega) hY
      clear ih
      have h1 := s_isImplicant (A := A) (F := F) (nw := nw) (nx := nx) (LO := LO) (DO := DO) (d := d) cov (c := i) (by omega)
      have h2 := s_cube7 (A := A) (F := F) (nw := nw) (nx := nx) (LO := LO) (DO := DO) (d := d + 1) (c := i) (by omega)
      by_cases c0 : i = c
      · have nxt := nxt (by unfold mLg; rw [decide_eq_false (fun z => z c0), Bool.false_and]; decide)
        refine gm_run1 hC [17] 200 17 ?_
        exact gx_f n1 (gx_t (show nI i = nI c from by rw [c0]) nxt)
      · have c0' : ¬ nI i = nI c := fun z => c0 ((nI_eq (by omega) (by omega)).mp z)
        cases c1 : mIn cov i with
        | false =>
          rw [c1] at h1
          have nxt := nxt (by unfold mLg; rw [c1, Bool.false_and, Bool.and_false]; decide)
          refine gm_run1 hC [17] 200 17 ?_
          exact gx_f n1 (gx_f c0' (Or.inl ⟨_, _, _, _, h1, gx_t (show (0 : Int32) = 0 from rfl) nxt⟩))
        | true =>
          rw [c1] at h1
          by_cases c2 : nI (cTn c) &&& (nI (cTn i) ^^^ (-1)) = 0
          · rw [if_pos (by unfold mLg; rw [decide_eq_true c0, c1, decide_eq_true c2]; rfl)] at hY
            have hY : X (.inl (some (.int 0))) (gw A F nw nx LO DO) 0 0 := hY
            refine gm_run1 hC [17] 200 17 ?_
            exact gx_f n1 (gx_f c0' (Or.inl ⟨_, _, _, _, h1, gx_f (show ¬ (1 : Int32) = 0 from by decide) (Or.inl ⟨_, _, _, _, h2, gx_f (show ¬ ¬ nI (cTn c) &&& (nI (cTn i) ^^^ (-1)) = 0 from fun z => z c2) (gx_z hY (Or.inl rfl) rfl rfl)⟩)⟩))
          · have nxt := nxt (by unfold mLg; rw [decide_eq_false c2, Bool.and_false, Bool.and_false]; decide)
            refine gm_run1 hC [17] 200 17 ?_
            exact gx_f n1 (gx_f c0' (Or.inl ⟨_, _, _, _, h1, gx_f (show ¬ (1 : Int32) = 0 from by decide) (Or.inl ⟨_, _, _, _, h2, gx_t c2 nxt⟩)⟩))
  unfold mPr at hX
  cases c1 : mIn cov c with
  | false =>
    rw [c1] at hi hX
    refine gm_runs hC [17] 200 _ _ _ _ _ _ ?_
    exact Or.inl ⟨_, _, _, _, hi, gx_f (show ¬ ¬ (0 : Int32) = 0 from fun z => z rfl) (gx_z hX (Or.inl rfl) rfl rfl)⟩
  | true =>
    rw [c1, Bool.true_and] at hX
    rw [c1] at hi
    refine gm_runs hC [17] 200 _ _ _ _ _ _ ?_
    exact Or.inl ⟨_, _, _, _, hi, gx_t (show ¬ (1 : Int32) = 0 from by decide) (Or.inl ⟨_, _, _, _, hcu, loop 81 0 rfl hX⟩)⟩
theorem s_primes7 {n t : Nat} (hn : n ≤ 120) (hF : F 21 = nI n) (ht : t < n) : gm_Sp gm_MT (d + 5) 8044 [.ref 24, .int (nI t)] (gw A F nw nx LO DO) (.inl (some (.int (iCnt (mPr (A 29 t)) 81 0 0)))) (gw A (va_up F 20 0) nw nx LO DO) 0 0 := by
  refine gm_mk gm_mX7_primes rfl ⟨Or.inr rfl, rfl, rfl, trivial⟩ (fun G X hC hX => ?_)
  have hnt := s_noTerm1 (A := A) (nw := nw) (nx := nx) (LO := LO) (DO := DO) (d := d + 2) hn hF ht
  have kt := nI_clamp (n := t) (by omega)
  have loop : ∀ (m i : Nat) (acc : Int32), i + m = 81 → X (.inl (some (.int (iCnt (mPr (A 29 t)) m i acc)))) (gw A (va_up F 20 0) nw nx LO DO) 0 0 → G 14 [some (.ref 24), some (.int (nI t)), some (.int acc), some (.int (nI i))] [] (gw A (va_up F 20 0) nw nx LO DO) 0 0 := by
    intro m
    induction m with
    | zero =>
      intro i acc hi hY
      have hi : i = 81 := by omega
      subst hi
      refine gm_run1 hC [14] 200 14 ?_
      exact gx_t (show (81 : Int32) ≤ nI 81 from by decide) (gx_i hY rfl rfl)
    | succ m ih =>
      intro i acc hi hY
      have n1 : ¬ (81 : Int32) ≤ nI i := nI_ge (b := 81) (by omega) (by decide)
      have h9 := ih (i + 1) _ (by omega) hY
      rw [← nI_1] at h9
      clear ih hY
      have hp := s_isPrime (A := A) (F := va_up F 20 0) (nw := nw) (nx := nx) (LO := LO) (DO := DO) (d := d) (A 29 t) (c := i) (by omega)
      cases c1 : mPr (A 29 t) i with
      | false =>
        rw [c1] at hp
        rw [if_neg (by rw [c1]; decide), ← Int32.add_zero acc] at h9
        refine gm_run1 hC [14] 200 14 ?_
        refine gx_f n1 (And.intro (nI_in (by omega) (by decide)) ?_)
        rw [kt]
        exact Or.inl ⟨_, _, _, _, hp, gx_t (show (0 : Int32) = 0 from rfl) h9⟩
      | true =>
        rw [c1] at hp
        rw [if_pos c1] at h9
        refine gm_run1 hC [14] 200 14 ?_
        refine gx_f n1 (And.intro (nI_in (by omega) (by decide)) ?_)
        rw [kt]
        exact Or.inl ⟨_, _, _, _, hp, gx_f (show ¬ (1 : Int32) = 0 from by decide) h9⟩
  refine gm_runs hC [14] 200 _ _ _ _ _ _ ?_
  exact Or.inl ⟨_, _, _, _, hnt, gx_t (show (0 : Int32) = 0 from rfl) (loop 81 0 0 rfl hX)⟩
end X