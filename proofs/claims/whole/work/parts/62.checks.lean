/-! THE PROVER'S FACE: what it checks -/
theorem i_lt_ge {x y : Int32} : ¬ x < y ↔ y ≤ x := by
  rw [Int32.lt_iff_toInt_lt, Int32.le_iff_toInt_le]; omega
theorem i_le_gt {x y : Int32} : ¬ x ≤ y ↔ y < x := by
  rw [Int32.lt_iff_toInt_lt, Int32.le_iff_toInt_le]; omega
theorem gm_plain : plainName "Gimlet" = true := by decide +kernel
section X
variable {nw nx : Nat} {LO : Nat → Int64} {DO : Nat → UInt64} {d n : Nat} {A : Nat → Nat → Int32} {F : Nat → Int32} {rows : List (Int32 × Int32 × Int32)} {sp : Nat → List Int32}
theorem s_checkTerm1 {j : Nat} (hn : n ≤ 120) (hF : F 0 = nI n) (hj : j < n) : gm_Sp gm_MT (d + 2) 7014 [.ref 0, .int (nI j)] (gw A F nw nx LO DO) (.inl none) (gw A F nw nx LO DO) 0 0 := by
  refine gm_mk gm_mX6_checkTerm rfl ⟨Or.inr rfl, rfl, rfl, trivial⟩ (fun G X hC hX => ?_)
  have hk := s_isKnown (A := A) (F := F) (nw := nw) (nx := nx) (LO := LO) (DO := DO) (d := d) (nI j) hn hF
  rw [gT_nI hj hn] at hk
  refine gm_runs hC [] 200 _ _ _ _ _ _ ?_
  exact Or.inl ⟨_, _, _, _, hk, gx_t (show ¬ (1 : Int32) = 0 from by decide) hX⟩
theorem s_checkTerm2 {t : Int32} (hn : n ≤ 120) (hF : F 0 = nI n) (ht : gT n t = none) : gm_Sp gm_MT (d + 2) 7014 [.ref 0, .int t] (gw A F nw nx LO DO) (.inr "java/lang/IndexOutOfBoundsException") (gw A F nw nx LO DO) 1 6 := by
  refine gm_mk gm_mX6_checkTerm rfl ⟨Or.inr rfl, rfl, rfl, rfl, rfl, gm_plain⟩ (fun G X hC hX => ?_)
  have hk := s_isKnown (A := A) (F := F) (nw := nw) (nx := nx) (LO := LO) (DO := DO) (d := d) t hn hF
  rw [ht] at hk
  refine gm_runs hC [] 200 _ _ _ _ _ _ ?_
  exact Or.inl ⟨_, _, _, _, hk, gx_f (show ¬ ¬ (0 : Int32) = 0 from fun z => z rfl) hX⟩
theorem s_made1 {j : Nat} (hj : j < 2 ^ 31) : gm_Sp gm_MT (d + 1) 7013 [.ref 0, .int (nI j)] (gw A F nw nx LO DO) (.inl (some (.int (nI j)))) (gw A F nw nx LO DO) 0 0 := by
  refine gm_mk gm_mX6_madeOrThrow rfl ⟨Or.inr rfl, rfl, rfl, trivial⟩ (fun G X hC hX => ?_)
  refine gm_runs hC [] 200 _ _ _ _ _ _ ?_
  exact gx_t (show ¬ nI j = gm_lit (-1) from fun z => nI_pos hj (by rw [z]; decide)) hX
theorem s_made2 : gm_Sp gm_MT (d + 1) 7013 [.ref 0, .int (-1)] (gw A F nw nx LO DO) (.inr "java/lang/IllegalStateException") (gw A F nw nx LO DO) 1 6 := by
  refine gm_mk gm_mX6_madeOrThrow rfl ⟨Or.inr rfl, rfl, rfl, rfl, rfl, gm_plain⟩ (fun G X hC hX => ?_)
  refine gm_runs hC [] 200 _ _ _ _ _ _ ?_
  exact gx_f (show ¬ ¬ (-1 : Int32) = gm_lit (-1) from by decide) hX
theorem s_least1 {j : Nat} (hj : j < 2 ^ 31) : gm_Sp gm_MT (d + 1) 7051 [.ref 0, .int (nI j)] (gw A F nw nx LO DO) (.inl (some (.int (nI j)))) (gw A F nw nx LO DO) 0 0 := by
  refine gm_mk gm_mX6_leastOrThrow rfl ⟨Or.inr rfl, rfl, rfl, trivial⟩ (fun G X hC hX => ?_)
  refine gm_runs hC [] 200 _ _ _ _ _ _ ?_
  exact gx_t (show ¬ nI j = gm_lit (-1) from fun z => nI_pos hj (by rw [z]; decide)) hX
theorem s_least2 : gm_Sp gm_MT (d + 1) 7051 [.ref 0, .int (-1)] (gw A F nw nx LO DO) (.inr "java/util/NoSuchElementException") (gw A F nw nx LO DO) 1 6 := by
  refine gm_mk gm_mX6_leastOrThrow rfl ⟨Or.inr rfl, rfl, rfl, rfl, rfl, gm_plain⟩ (fun G X hC hX => ?_)
  refine gm_runs hC [] 200 _ _ _ _ _ _ ?_
  exact gx_f (show ¬ ¬ (-1 : Int32) = gm_lit (-1) from by decide) hX

theorem s_checkLetter1 {x : Int32} (h0 : 0 ≤ x) (h1 : x < 4) : gm_Sp gm_MT (d + 1) 7015 [.ref 0, .int x] (gw A F nw nx LO DO) (.inl none) (gw A F nw nx LO DO) 0 0 := by
  refine gm_mk gm_mX6_checkLetter rfl ⟨Or.inr rfl, rfl, rfl, trivial⟩ (fun G X hC hX => ?_)
  refine gm_runs hC [] 200 _ _ _ _ _ _ ?_
  exact gx_f (show ¬ x < 0 from i_lt_ge.mpr h0) (gx_t (show x < 4 from h1) hX)
theorem s_checkLetter2 {x : Int32} (h : ¬ (0 ≤ x ∧ x < 4)) : gm_Sp gm_MT (d + 1) 7015 [.ref 0, .int x] (gw A F nw nx LO DO) (.inr "java/lang/IllegalArgumentException") (gw A F nw nx LO DO) 1 6 := by
  refine gm_mk gm_mX6_checkLetter rfl ⟨Or.inr rfl, rfl, rfl, rfl, rfl, gm_plain⟩ (fun G X hC hX => ?_)
  refine gm_runs hC [] 200 _ _ _ _ _ _ ?_
  by_cases c : x < 0
  · exact gx_t c hX
  · exact gx_f c (gx_f (show ¬ x < 4 from fun z => h ⟨i_lt_ge.mp c, z⟩) hX)
theorem s_checkRegion1 {x : Int32} (h0 : 0 ≤ x) (h1 : x < 16) : gm_Sp gm_MT (d + 1) 7016 [.ref 0, .int x] (gw A F nw nx LO DO) (.inl none) (gw A F nw nx LO DO) 0 0 := by
  refine gm_mk gm_mX6_checkRegion rfl ⟨Or.inr rfl, rfl, rfl, trivial⟩ (fun G X hC hX => ?_)
  refine gm_runs hC [] 200 _ _ _ _ _ _ ?_
  exact gx_f (show ¬ x < 0 from i_lt_ge.mpr h0) (gx_t (show x < 16 from h1) hX)
theorem s_checkRegion2 {x : Int32} (h : ¬ (0 ≤ x ∧ x < 16)) : gm_Sp gm_MT (d + 1) 7016 [.ref 0, .int x] (gw A F nw nx LO DO) (.inr "java/lang/IllegalArgumentException") (gw A F nw nx LO DO) 1 6 := by
  refine gm_mk gm_mX6_checkRegion rfl ⟨Or.inr rfl, rfl, rfl, rfl, rfl, gm_plain⟩ (fun G X hC hX => ?_)
  refine gm_runs hC [] 200 _ _ _ _ _ _ ?_
  by_cases c : x < 0
  · exact gx_t c hX
  · exact gx_f c (gx_f (show ¬ x < 16 from fun z => h ⟨i_lt_ge.mp c, z⟩) hX)
theorem s_checkEl1 {x hi : Int32} (h0 : 0 ≤ x) (h1 : x ≤ hi) : gm_Sp gm_MT (d + 1) 7052 [.ref 0, .int x, .int hi] (gw A F nw nx LO DO) (.inl none) (gw A F nw nx LO DO) 0 0 := by
  refine gm_mk gm_mX6_checkElements rfl ⟨Or.inr rfl, rfl, rfl, trivial⟩ (fun G X hC hX => ?_)
  refine gm_runs hC [] 200 _ _ _ _ _ _ ?_
  exact gx_f (show ¬ x < 0 from i_lt_ge.mpr h0) (gx_t h1 hX)
theorem s_checkEl2 {x hi : Int32} (h : ¬ (0 ≤ x ∧ x ≤ hi)) : gm_Sp gm_MT (d + 1) 7052 [.ref 0, .int x, .int hi] (gw A F nw nx LO DO) (.inr "java/lang/IllegalArgumentException") (gw A F nw nx LO DO) 1 6 := by
  refine gm_mk gm_mX6_checkElements rfl ⟨Or.inr rfl, rfl, rfl, rfl, rfl, gm_plain⟩ (fun G X hC hX => ?_)
  refine gm_runs hC [] 200 _ _ _ _ _ _ ?_
  by_cases c : x < 0
  · exact gx_t c hX
  · exact gx_f c (gx_f (show ¬ x ≤ hi from fun z => h ⟨i_lt_ge.mp c, z⟩) hX)
theorem s_checkGoal1 (h : F 8 = 1) : gm_Sp gm_MT (d + 2) 7041 [.ref 0] (gw A F nw nx LO DO) (.inl none) (gw A F nw nx LO DO) 0 0 := by
  refine gm_mk gm_mX6_checkGoal rfl ⟨Or.inr rfl, rfl, rfl, trivial⟩ (fun G X hC hX => ?_)
  have hg := s_hasGoal (A := A) (F := F) (nw := nw) (nx := nx) (LO := LO) (DO := DO) (d := d) (Or.inr h)
  refine gm_runs hC [] 200 _ _ _ _ _ _ ?_
  exact Or.inl ⟨_, _, _, _, hg, gx_t (show ¬ F 8 = 0 from by rw [h]; decide) hX⟩
theorem s_checkGoal2 (h : F 8 = 0) : gm_Sp gm_MT (d + 2) 7041 [.ref 0] (gw A F nw nx LO DO) (.inr "java/lang/IllegalStateException") (gw A F nw nx LO DO) 1 6 := by
  refine gm_mk gm_mX6_checkGoal rfl ⟨Or.inr rfl, rfl, rfl, rfl, rfl, gm_plain⟩ (fun G X hC hX => ?_)
  have hg := s_hasGoal (A := A) (F := F) (nw := nw) (nx := nx) (LO := LO) (DO := DO) (d := d) (Or.inl h)
  refine gm_runs hC [] 200 _ _ _ _ _ _ ?_
  exact Or.inl ⟨_, _, _, _, hg, gx_f (show ¬ ¬ F 8 = 0 from fun z => z h) hX⟩
/-- a statement's kind and terms -/
theorem s_checkSt1 {k : Int32} {a b : Nat} (hk : (sDen k || sDem k) = true) (hn : n ≤ 120) (hF : F 0 = nI n) (ha : a < n) (hb : b < n) : gm_Sp gm_MT (d + 3) 7040 [.ref 0, .int k, .int (nI a), .int (nI b)] (gw A F nw nx LO DO) (.inl none) (gw A F nw nx LO DO) 0 0 := by
  refine gm_mk gm_mX6_checkStatement rfl ⟨Or.inr rfl, rfl, rfl, trivial⟩ (fun G X hC hX => ?_)
  have h1 := s_isDenial6 (A := A) (F := F) (nw := nw) (nx := nx) (LO := LO) (DO := DO) (d := d + 1) k
  have h2 := s_isDemand6 (A := A) (F := F) (nw := nw) (nx := nx) (LO := LO) (DO := DO) (d := d + 1) k
  have ca := s_checkTerm1 (A := A) (F := F) (nw := nw) (nx := nx) (LO := LO) (DO := DO) (d := d) hn hF ha
  have cb := s_checkTerm1 (A := A) (F := F) (nw := nw) (nx := nx) (LO := LO) (DO := DO) (d := d) hn hF hb
  cases e : sDen k with
  | true =>
    rw [e] at h1
    refine gm_runs hC [] 200 _ _ _ _ _ _ ?_
    exact Or.inl ⟨_, _, _, _, h1, gx_t (show ¬ (1 : Int32) = 0 from by decide) (Or.inl ⟨_, _, _, _, ca, Or.inl ⟨_, _, _, _, cb, hX⟩⟩)⟩
  | false =>
    rw [e, Bool.false_or] at hk
    rw [e] at h1
    rw [hk] at h2
    refine gm_runs hC [] 200 _ _ _ _ _ _ ?_
    exact Or.inl ⟨_, _, _, _, h1, gx_f (show ¬ ¬ (0 : Int32) = 0 from fun z => z rfl) (Or.inl ⟨_, _, _, _, h2, gx_t (show ¬ (1 : Int32) = 0 from by decide) (Or.inl ⟨_, _, _, _, ca, Or.inl ⟨_, _, _, _, cb, hX⟩⟩)⟩)⟩
theorem s_checkSt2 {k x y : Int32} (hk : (sDen k || sDem k) = false) : gm_Sp gm_MT (d + 3) 7040 [.ref 0, .int k, .int x, .int y] (gw A F nw nx LO DO) (.inr "java/lang/IllegalArgumentException") (gw A F nw nx LO DO) 1 6 := by
  refine gm_mk gm_mX6_checkStatement rfl ⟨Or.inr rfl, rfl, rfl, rfl, rfl, gm_plain⟩ (fun G X hC hX => ?_)
  have h1 := s_isDenial6 (A := A) (F := F) (nw := nw) (nx := nx) (LO := LO) (DO := DO) (d := d + 1) k
  have h2 := s_isDemand6 (A := A) (F := F) (nw := nw) (nx := nx) (LO := LO) (DO := DO) (d := d + 1) k
  rw [Bool.or_eq_false_iff] at hk
  rw [hk.1] at h1
  rw [hk.2] at h2
  refine gm_runs hC [] 200 _ _ _ _ _ _ ?_
  exact Or.inl ⟨_, _, _, _, h1, gx_f (show ¬ ¬ (0 : Int32) = 0 from fun z => z rfl) (Or.inl ⟨_, _, _, _, h2, gx_f (show ¬ ¬ (0 : Int32) = 0 from fun z => z rfl) hX⟩)⟩
theorem s_checkSt3 {k x y : Int32} (hk : (sDen k || sDem k) = true) (hn : n ≤ 120) (hF : F 0 = nI n) (hxy : gT n x = none ∨ gT n y = none) : gm_Sp gm_MT (d + 3) 7040 [.ref 0, .int k, .int x, .int y] (gw A F nw nx LO DO) (.inr "java/lang/IndexOutOfBoundsException") (gw A F nw nx LO DO) 1 6 := by
  refine gm_mk gm_mX6_checkStatement rfl ⟨Or.inr rfl, rfl, rfl, rfl, rfl, gm_plain⟩ (fun G X hC hX => ?_)
  have h1 := s_isDenial6 (A := A) (F := F) (nw := nw) (nx := nx) (LO := LO) (DO := DO) (d := d + 1) k
  have h2 := s_isDemand6 (A := A) (F := F) (nw := nw) (nx := nx) (LO := LO) (DO := DO) (d := d + 1) k
  have tail : G 24 [some (.ref 0), some (.int k), some (.int x), some (.int y)] [] (gw A F nw nx LO DO) 0 0 := by
    rcases gT_cases x hn with ⟨a, ha, rfl, -⟩ | ⟨hx, -⟩
    · have ca := s_checkTerm1 (A := A) (F := F) (nw := nw) (nx := nx) (LO := LO) (DO := DO) (d := d) hn hF ha
      have hy : gT n y = none := hxy.elim (fun z => by rw [gT_nI ha hn] at z; cases z) id
      have cb := s_checkTerm2 (A := A) (F := F) (nw := nw) (nx := nx) (LO := LO) (DO := DO) (d := d) hn hF hy
      refine gm_runs hC [] 200 _ _ _ _ _ _ ?_
      exact Or.inl ⟨_, _, _, _, ca, Or.inr ⟨_, _, _, _, cb, hX⟩⟩
    · have ca := s_checkTerm2 (A := A) (F := F) (nw := nw) (nx := nx) (LO := LO) (DO := DO) (d := d) hn hF hx
      refine gm_runs hC [] 200 _ _ _ _ _ _ ?_
      exact Or.inr ⟨_, _, _, _, ca, hX⟩
  cases e : sDen k with
  | true =>
    rw [e] at h1
    refine gm_runs hC [24] 200 _ _ _ _ _ _ ?_
    exact Or.inl ⟨_, _, _, _, h1, gx_t (show ¬ (1 : Int32) = 0 from by decide) tail⟩
  | false =>
    rw [e, Bool.false_or] at hk
    rw [e] at h1
    rw [hk] at h2
    refine gm_runs hC [24] 200 _ _ _ _ _ _ ?_
    exact Or.inl ⟨_, _, _, _, h1, gx_f (show ¬ ¬ (0 : Int32) = 0 from fun z => z rfl) (Or.inl ⟨_, _, _, _, h2, gx_t (show ¬ (1 : Int32) = 0 from by decide) tail⟩)⟩
end X