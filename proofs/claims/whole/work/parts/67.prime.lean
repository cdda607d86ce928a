/-! PRIME IMPLICANTS, the face of both sides -/
def chP (c j : Nat) : Int32 := if cDg (nI c) (nI j) = 0 then 45 else if cDg (nI c) (nI j) = 1 then 48 else 49
theorem chP_ch (c j : Nat) : 0 ≤ chP c j ∧ chP c j ≤ 65535 := by
  unfold chP
  repeat' split
  all_goals decide
theorem cD0 : ∀ c, c < 81 → nI c / 3 / 3 / 3 - nI c / 3 / 3 / 3 / 3 * 3 = cDg (nI c) (nI 0) := by decide +kernel
theorem cD1 : ∀ c, c < 81 → nI c / 3 / 3 - nI c / 3 / 3 / 3 * 3 = cDg (nI c) (nI 1) := by decide +kernel
theorem cD2 : ∀ c, c < 81 → nI c / 3 - nI c / 3 / 3 * 3 = cDg (nI c) (nI 2) := by decide +kernel
theorem cD3 : ∀ c, c < 81 → nI c - nI c / 3 * 3 = cDg (nI c) (nI 3) := by decide +kernel
theorem gIn_iff {x : Int32} {n : Nat} (hn : n < 2 ^ 31) : (gIn x 0 (nI n) = true ↔ ∃ j, j < n + 1 ∧ x = nI j) := by
  unfold gIn
  rw [decide_eq_true_iff]
  constructor
  · rintro ⟨h1, h2⟩
    obtain ⟨j, hj, rfl⟩ := nI_of2 (x := x) (M := nI n) (n := n) (nI_toInt hn) (i_lt_ge.mpr h1) h2
    exact ⟨j, by omega, rfl⟩
  · rintro ⟨j, hj, rfl⟩
    exact ⟨nI_pos' (by omega), nI_le (by omega) hn⟩
section X
variable {nw nx : Nat} {LO : Nat → Int64} {DO : Nat → UInt64} {d : Nat} {A : Nat → Nat → Int32} {F : Nat → Int32} {rows : List (Int32 × Int32 × Int32)} {sp : Nat → List Int32}
/-- the reference's search for a prime implicant, to its end at 68 -/
theorem s_prime7_loop {n t : Nat} (ht : t < 120) {x y : Int32} (G : pG) (X : pX) (hC : gm_cl gm_mX7_prime gm_tyf none (gm_Sp gm_MT (d + 4)) G X) : ∀ (m i : Nat) (b : Int32), i + m = 81 → (∀ s u, G 68 [some (.ref 24), some (.int (nI t)), some (.int x), some (.int y), some (.int s), some (.int (gOI (iNth (mPr (A 29 t)) x m i b))), some (.int u), none] [] (gw A F nw nx LO DO) 0 0) → G 20 [some (.ref 24), some (.int (nI t)), some (.int x), some (.int y), some (.int b), some (.int (-1)), some (.int (nI i)), none] [] (gw A F nw nx LO DO) 0 0 := by
  have kt := nI_clamp (n := t) (by omega)
  intro m
  induction m with
  | zero =>
    intro i b hi hY
    have hi : i = 81 := by omega
    subst hi
    have hY := hY b (nI 81)
    refine gm_run1 hC [20, 68] 200 20 ?_
    exact gx_t (show (81 : Int32) ≤ nI 81 from by decide) hY
  | succ m ih =>
    intro i b hi hY
    have n1 : ¬ (81 : Int32) ≤ nI i := nI_ge (b := 81) (by omega) (by decide)
    have hp := s_isPrime (A := A) (F := F) (nw := nw) (nx := nx) (LO := LO) (DO := DO) (d := d) (A 29 t) (c := i) (by omega)
    unfold iNth at hY
    cases c1 : mPr (A 29 t) i with
    | false =>
      rw [c1] at hp hY
      have h9 := ih (i + 1) b (by omega) hY
      rw [← nI_1] at h9
      refine gm_run1 hC [20, 68] 200 20 ?_
      refine gx_f n1 (gx_f (show ¬ (0 : Int32) ≤ -1 from by decide) (And.intro (nI_in (by omega) (by decide)) ?_))
      rw [kt]
      exact Or.inl ⟨_, _, _, _, hp, gx_f (show ¬ ¬ (0 : Int32) = 0 from fun z => z rfl) h9⟩
    | true =>
      rw [c1] at hp hY
      by_cases c2 : b = x
      · have hY : ∀ s u, G 68 [some (.ref 24), some (.int (nI t)), some (.int x), some (.int y), some (.int s), some (.int (nI i)), some (.int u), none] [] (gw A F nw nx LO DO) 0 0 := by
          intro s u
          have := hY s u
          rw [if_pos rfl, if_pos c2] at this
          exact this
        have h20 : G 20 [some (.ref 24), some (.int (nI t)), some (.int x), some (.int y), some (.int (b + 1)), some (.int (nI i)), some (.int (nI i + 1)), none] [] (gw A F nw nx LO DO) 0 0 := by
          have hY := hY (b + 1) (nI i + 1)
          have p1 : (0 : Int32) ≤ nI i := nI_pos' (by omega)
          refine gm_run1 hC [20, 68] 200 20 ?_
          exact And.intro (fun _ => hY) (fun _ => gx_t p1 hY)
        refine gm_run1 hC [20, 68] 200 20 ?_
        refine gx_f n1 (gx_f (show ¬ (0 : Int32) ≤ -1 from by decide) (And.intro (nI_in (by omega) (by decide)) ?_))
        rw [kt]
        exact Or.inl ⟨_, _, _, _, hp, gx_t (show ¬ (1 : Int32) = 0 from by decide) (gx_f (show ¬ ¬ b = x from fun z => z c2) h20)⟩
      · have hY : ∀ s u, G 68 [some (.ref 24), some (.int (nI t)), some (.int x), some (.int y), some (.int s), some (.int (gOI (iNth (mPr (A 29 t)) x m (i + 1) (b + 1)))), some (.int u), none] [] (gw A F nw nx LO DO) 0 0 := by
          intro s u
          have := hY s u
          rw [if_pos rfl, if_neg c2] at this
          exact this
        have h9 := ih (i + 1) (b + 1) (by omega) hY
        rw [← nI_1] at h9
        refine gm_run1 hC [20, 68] 200 20 ?_
        refine gx_f n1 (gx_f (show ¬ (0 : Int32) ≤ -1 from by decide) (And.intro (nI_in (by omega) (by decide)) ?_))
        rw [kt]
        exact Or.inl ⟨_, _, _, _, hp, gx_t (show ¬ (1 : Int32) = 0 from by decide) (gx_t c2 h9)⟩
/-- the search alone: no such prime implicant, no such letter, or the sign -/
theorem s_prime7 {n t : Nat} (hn : n ≤ 120) (hF : F 21 = nI n) (ht : t < n) (x y : Int32) : (iNth (mPr (A 29 t)) x 81 0 0 = none → gm_Sp gm_MT (d + 5) 8046 [.ref 24, .int (nI t), .int x, .int y] (gw A F nw nx LO DO) (.inl (some (.int 45))) (gw A (va_up (va_up F 20 0) 20 2) nw nx LO DO) 0 0) ∧ (∀ c, iNth (mPr (A 29 t)) x 81 0 0 = some c → (gIn y 0 3 = false → gm_Sp gm_MT (d + 5) 8046 [.ref 24, .int (nI t), .int x, .int y] (gw A F nw nx LO DO) (.inl (some (.int 45))) (gw A (va_up (va_up F 20 0) 20 3) nw nx LO DO) 0 0) ∧ (∀ j, j < 4 → y = nI j → gm_Sp gm_MT (d + 5) 8046 [.ref 24, .int (nI t), .int x, .int y] (gw A F nw nx LO DO) (.inl (some (.int (chP c j)))) (gw A (va_up (va_up F 20 0) 20 0) nw nx LO DO) 0 0)) := by
  have hnt := s_noTerm1 (A := A) (nw := nw) (nx := nx) (LO := LO) (DO := DO) (d := d + 2) hn hF ht
  have hi := s_isIn3 (A := A) (F := va_up F 20 0) (nw := nw) (nx := nx) (LO := LO) (DO := DO) (d := d + 3) y 0 3
  refine ⟨fun hq => gm_mk gm_mX7_prime rfl ⟨Or.inr rfl, rfl, rfl, trivial⟩ (fun G X hC hX => ?_), fun c hq => ⟨fun hy => gm_mk gm_mX7_prime rfl ⟨Or.inr rfl, rfl, rfl, trivial⟩ (fun G X hC hX => ?_), fun j hj hy => gm_mk gm_mX7_prime rfl ⟨Or.inr rfl, rfl, rfl, trivial⟩ (fun G X hC hX => ?_)⟩⟩
  · have h9 := s_prime7_loop (n := n) (show t < 120 by omega) (A := A) (F := va_up F 20 0) (nw := nw) (nx := nx) (LO := LO) (DO := DO) (d := d) (x := x) (y := y) G X hC 81 0 0 rfl (by
      intro s u
      rw [hq]
      refine gm_runs hC [20] 200 _ _ _ _ _ _ ?_
      exact gx_f (show ¬ (0 : Int32) ≤ -1 from by decide) (gx_f (show ¬ (2 : Int32) = 0 from by decide) (gx_c (r := 45) hX (by decide) rfl rfl)))
    refine gm_runs hC [20] 200 _ _ _ _ _ _ ?_
    exact Or.inl ⟨_, _, _, _, hnt, gx_t (show (0 : Int32) = 0 from rfl) h9⟩
  · have hc := iNth_lt hq
    have p1 : (0 : Int32) ≤ nI c := nI_pos' (by omega)
    rw [hy] at hi
    have h9 := s_prime7_loop (n := n) (show t < 120 by omega) (A := A) (F := va_up F 20 0) (nw := nw) (nx := nx) (LO := LO) (DO := DO) (d := d) (x := x) (y := y) G X hC 81 0 0 rfl (by
      intro s u
      rw [hq]
      refine gm_runs hC [20] 200 _ _ _ _ _ _ ?_
      exact gx_t p1 (Or.inl ⟨_, _, _, _, hi, gx_f (show ¬ ¬ (0 : Int32) = 0 from fun z => z rfl) (gx_f (show ¬ (3 : Int32) = 0 from by decide) (gx_c (r := 45) hX (by decide) rfl rfl))⟩))
    refine gm_runs hC [20] 200 _ _ _ _ _ _ ?_
    exact Or.inl ⟨_, _, _, _, hnt, gx_t (show (0 : Int32) = 0 from rfl) h9⟩
  · have hc := iNth_lt hq
    have hc : c < 81 := by omega
    have p1 : (0 : Int32) ≤ nI c := nI_pos' (by omega)
    have hyt : gIn y 0 3 = true := (gIn_iff (x := y) (n := 3) (by decide)).mpr ⟨j, hj, hy⟩
    rw [hyt] at hi
    have fin : ∀ (v a b e f : Int32), v - v / 3 * 3 = cDg (nI c) (nI j) → G 130 [some (.ref 24), some (.int (nI t)), some (.int x), some (.int y), some (.int a), some (.int b), some (.int v), some (.int f)] [] (gw A (va_up (va_up F 20 0) 20 0) nw nx LO DO) 0 0 := by
      intro v a b e f hv
      unfold chP at hX
      rw [← hv] at hX
      refine gm_runs hC [] 200 _ _ _ _ _ _ ?_
      by_cases c0 : v - v / 3 * 3 = 0
      · rw [if_pos c0] at hX
        exact And.intro (by decide) (gx_f (show ¬ ¬ v - v / 3 * 3 = 0 from fun z => z c0) (gx_c (r := 45) hX (by decide) rfl rfl))
      · rw [if_neg c0] at hX
        by_cases c1 : v - v / 3 * 3 = 1
        · rw [if_pos c1] at hX
          exact And.intro (by decide) (gx_t c0 (And.intro (by decide) (gx_f (show ¬ ¬ v - v / 3 * 3 = 1 from fun z => z c1) (gx_c (r := 48) hX (by decide) rfl rfl))))
        · rw [if_neg c1] at hX
          exact And.intro (by decide) (gx_t c0 (And.intro (by decide) (gx_t c1 (gx_c (r := 49) hX (by decide) rfl rfl))))
    have d3 : ¬ (3 : Int32) = 0 := by decide
    have h9 := s_prime7_loop (n := n) (show t < 120 by omega) (A := A) (F := va_up F 20 0) (nw := nw) (nx := nx) (LO := LO) (DO := DO) (d := d) (x := x) (y := y) G X hC 81 0 0 rfl (by
      intro s u
      rw [hq]
      have hj4 : j = 0 ∨ j = 1 ∨ j = 2 ∨ j = 3 := by omega
      rcases hj4 with rfl | rfl | rfl | rfl
      · have f9 := fin (nI c / 3 / 3 / 3) s (nI c) 0 0 (cD0 c hc)
        rw [hy] at f9 hi ⊢
        refine gm_runs hC [20, 130] 200 _ _ _ _ _ _ ?_
        exact gx_t p1 (Or.inl ⟨_, _, _, _, hi, gx_t (show ¬ (1 : Int32) = 0 from by decide) (gx_t (show (0 : Int32) = 0 from rfl) (gx_f (show ¬ (3 : Int32) ≤ nI 0 from by decide) (And.intro d3 (gx_f (show ¬ (2 : Int32) ≤ nI 0 from by decide) (And.intro d3 (gx_f (show ¬ (1 : Int32) ≤ nI 0 from by decide) (And.intro d3 (gx_t (show (0 : Int32) ≤ nI 0 from by decide) f9))))))))⟩)
      · have f9 := fin (nI c / 3 / 3) s (nI c) 0 1 (cD1 c hc)
        rw [hy] at f9 hi ⊢
        refine gm_runs hC [20, 130] 200 _ _ _ _ _ _ ?_
        exact gx_t p1 (Or.inl ⟨_, _, _, _, hi, gx_t (show ¬ (1 : Int32) = 0 from by decide) (gx_t (show (0 : Int32) = 0 from rfl) (gx_f (show ¬ (3 : Int32) ≤ nI 1 from by decide) (And.intro d3 (gx_f (show ¬ (2 : Int32) ≤ nI 1 from by decide) (And.intro d3 (gx_t (show (1 : Int32) ≤ nI 1 from by decide) f9))))))⟩)
      · have f9 := fin (nI c / 3) s (nI c) 0 2 (cD2 c hc)
        rw [hy] at f9 hi ⊢
        refine gm_runs hC [20, 130] 200 _ _ _ _ _ _ ?_
        exact gx_t p1 (Or.inl ⟨_, _, _, _, hi, gx_t (show ¬ (1 : Int32) = 0 from by decide) (gx_t (show (0 : Int32) = 0 from rfl) (gx_f (show ¬ (3 : Int32) ≤ nI 2 from by decide) (And.intro d3 (gx_t (show (2 : Int32) ≤ nI 2 from by decide) f9))))⟩)
      · have f9 := fin (nI c) s (nI c) 0 3 (cD3 c hc)
        rw [hy] at f9 hi ⊢
        refine gm_runs hC [20, 130] 200 _ _ _ _ _ _ ?_
        exact gx_t p1 (Or.inl ⟨_, _, _, _, hi, gx_t (show ¬ (1 : Int32) = 0 from by decide) (gx_t (show (0 : Int32) = 0 from rfl) (gx_t (show (3 : Int32) ≤ nI 3 from by decide) f9))⟩))
    refine gm_runs hC [20] 200 _ _ _ _ _ _ ?_
    exact Or.inl ⟨_, _, _, _, hnt, gx_t (show (0 : Int32) = 0 from rfl) h9⟩
theorem s_primes6 (hR : gRp A rows sp) (hF : F 0 = nI rows.length) (hA : ∀ c, c < 81 → A 15 c = nI (cTn c)) {t : Nat} (ht : t < rows.length) : gm_Sp gm_MT (d + 4) 7026 [.ref 0, .int (nI t)] (gw A F nw nx LO DO) (.inl (some (.int (iCnt (mPr (A 6 t)) 81 0 0)))) (gw (cjC (A 6 t) 81 A) F nw nx LO DO) 0 0 := by
  have hc := s_checkTerm1 (A := A) (F := F) (nw := nw) (nx := nx) (LO := LO) (DO := DO) (d := d + 1) hR.1.1 hF ht
  have hv := s_coverOf (A := A) (F := F) (nw := nw) (nx := nx) (LO := LO) (DO := DO) (d := d + 1) (nI t) hR.1.1 hF
  rw [gT_nI ht hR.1.1] at hv
  have hj := s_join (A := A) (F := F) (nw := nw) (nx := nx) (LO := LO) (DO := DO) (d := d) (A 6 t)
  have hp := s_countPrimes (A := cjC (A 6 t) 81 A) (F := F) (nw := nw) (nx := nx) (LO := LO) (DO := DO) (d := d + 2)
  obtain ⟨m1, -⟩ := cjC_prime (cov := A 6 t) hA
  rw [iCnt_ext (q := mPr (A 6 t)) (fun j hj => (m1 j (by omega)).trans (cTr_m hA _ (by omega)))] at hp
  generalize cjC (A 6 t) 81 A = A2 at hj hp
  refine gm_mk gm_mX6_primes rfl ⟨Or.inr rfl, rfl, rfl, trivial⟩ (fun G X hC hX => ?_)
  refine gm_runs hC [] 200 _ _ _ _ _ _ ?_
  exact Or.inl ⟨_, _, _, _, hc, Or.inl ⟨_, _, _, _, hv, Or.inl ⟨_, _, _, _, hj, Or.inl ⟨_, _, _, _, hp, hX⟩⟩⟩⟩
theorem s_primesTry6 (hR : gRp A rows sp) (hF : F 0 = nI rows.length) (hA : ∀ c, c < 81 → A 15 c = nI (cTn c)) {t : Nat} (ht : t < rows.length) : gm_Sp gm_MT (d + 4) 7027 [.ref 0, .int (nI t)] (gw A F nw nx LO DO) (.inl (some (.int (iCnt (mPr (A 6 t)) 81 0 0)))) (gw A F nw nx LO DO) 0 0 := by
  have hc := s_checkTerm1 (A := A) (F := F) (nw := nw) (nx := nx) (LO := LO) (DO := DO) (d := d + 1) hR.1.1 hF ht
  have hv := s_coverOf (A := A) (F := F) (nw := nw) (nx := nx) (LO := LO) (DO := DO) (d := d + 1) (nI t) hR.1.1 hF
  rw [gT_nI ht hR.1.1] at hv
  have hp := s_countTrying (A := A) (F := F) (nw := nw) (nx := nx) (LO := LO) (DO := DO) (d := d) (A 6 t)
  rw [iCnt_ext (q := mPr (A 6 t)) (fun j hj => cTr_m hA _ (by omega))] at hp
  refine gm_mk gm_mX6_primesByTrying rfl ⟨Or.inr rfl, rfl, rfl, trivial⟩ (fun G X hC hX => ?_)
  refine gm_runs hC [] 200 _ _ _ _ _ _ ?_
  exact Or.inl ⟨_, _, _, _, hc, Or.inl ⟨_, _, _, _, hv, Or.inl ⟨_, _, _, _, hp, hX⟩⟩⟩
theorem s_prime6 (hR : gRp A rows sp) (hF : F 0 = nI rows.length) (hA : ∀ c, c < 81 → A 15 c = nI (cTn c)) {t : Nat} (ht : t < rows.length) (x y : Int32) : (iNth (mPr (A 6 t)) x 81 0 0 = none → gm_Sp gm_MT (d + 4) 7028 [.ref 0, .int (nI t), .int x, .int y] (gw A F nw nx LO DO) (.inr "java/util/NoSuchElementException") (gw (cjC (A 6 t) 81 A) F nw nx LO DO) 1 6) ∧ (∀ c, iNth (mPr (A 6 t)) x 81 0 0 = some c → (¬ (0 ≤ y ∧ y < 4) → gm_Sp gm_MT (d + 4) 7028 [.ref 0, .int (nI t), .int x, .int y] (gw A F nw nx LO DO) (.inr "java/lang/IllegalArgumentException") (gw (cjC (A 6 t) 81 A) F nw nx LO DO) 1 6) ∧ (∀ j, j < 4 → y = nI j → gm_Sp gm_MT (d + 4) 7028 [.ref 0, .int (nI t), .int x, .int y] (gw A F nw nx LO DO) (.inl (some (.int (chP c j)))) (gw (cjC (A 6 t) 81 A) F nw nx LO DO) 0 0)) := by
  have hc := s_checkTerm1 (A := A) (F := F) (nw := nw) (nx := nx) (LO := LO) (DO := DO) (d := d + 1) hR.1.1 hF ht
  have hv := s_coverOf (A := A) (F := F) (nw := nw) (nx := nx) (LO := LO) (DO := DO) (d := d + 1) (nI t) hR.1.1 hF
  rw [gT_nI ht hR.1.1] at hv
  have hj := s_join (A := A) (F := F) (nw := nw) (nx := nx) (LO := LO) (DO := DO) (d := d) (A 6 t)
  have hp := s_primeAt (A := cjC (A 6 t) 81 A) (F := F) (nw := nw) (nx := nx) (LO := LO) (DO := DO) (d := d + 2) x
  obtain ⟨m1, -⟩ := cjC_prime (cov := A 6 t) hA
  rw [iNth_ext (q := mPr (A 6 t)) (fun j hj => (m1 j (by omega)).trans (cTr_m hA _ (by omega)))] at hp
  generalize cjC (A 6 t) 81 A = A2 at hj hp
  refine ⟨fun hq => gm_mk gm_mX6_prime rfl ⟨Or.inr rfl, rfl, rfl, rfl, rfl, gm_plain⟩ (fun G X hC hX => ?_), fun c hq => ⟨fun hy => gm_mk gm_mX6_prime rfl ⟨Or.inr rfl, rfl, rfl, rfl, rfl, gm_plain⟩ (fun G X hC hX => ?_), fun j hj4 hy => gm_mk gm_mX6_prime rfl ⟨Or.inr rfl, rfl, rfl, trivial⟩ (fun G X hC hX => ?_)⟩⟩
  · rw [hq] at hp
    refine gm_runs hC [] 200 _ _ _ _ _ _ ?_
    exact Or.inl ⟨_, _, _, _, hc, Or.inl ⟨_, _, _, _, hv, Or.inl ⟨_, _, _, _, hj, Or.inl ⟨_, _, _, _, hp, gx_f (show ¬ ¬ (-1 : Int32) = gm_lit (-1) from by decide) hX⟩⟩⟩⟩
  · rw [hq] at hp
    have hlt := iNth_lt hq
    have na : ¬ nI c = gm_lit (-1) := fun z => nI_pos (n := c) (by omega) (by rw [z]; decide)
    have hl := s_checkLetter2 (A := A2) (F := F) (nw := nw) (nx := nx) (LO := LO) (DO := DO) (d := d + 2) hy
    refine gm_runs hC [] 200 _ _ _ _ _ _ ?_
    exact Or.inl ⟨_, _, _, _, hc, Or.inl ⟨_, _, _, _, hv, Or.inl ⟨_, _, _, _, hj, Or.inl ⟨_, _, _, _, hp, gx_t na (Or.inr ⟨_, _, _, _, hl, hX⟩)⟩⟩⟩⟩
  · rw [hq] at hp
    have hlt := iNth_lt hq
    have na : ¬ nI c = gm_lit (-1) := fun z => nI_pos (n := c) (by omega) (by rw [z]; decide)
    rw [hy]
    have hl := s_checkLetter1 (A := A2) (F := F) (nw := nw) (nx := nx) (LO := LO) (DO := DO) (d := d + 2) (x := nI j) (nI_pos' (by omega)) (nI_lt (b := 4) hj4 (by decide))
    have hte := s_tells (A := A2) (F := F) (nw := nw) (nx := nx) (LO := LO) (DO := DO) (d := d + 1) (nI c) (nI j)
    refine gm_runs hC [] 200 _ _ _ _ _ _ ?_
    exact Or.inl ⟨_, _, _, _, hc, Or.inl ⟨_, _, _, _, hv, Or.inl ⟨_, _, _, _, hj, Or.inl ⟨_, _, _, _, hp, gx_t na (Or.inl ⟨_, _, _, _, hl, Or.inl ⟨_, _, _, _, hte, gx_c hX (chP_ch c j) rfl rfl⟩⟩)⟩⟩⟩⟩
end X