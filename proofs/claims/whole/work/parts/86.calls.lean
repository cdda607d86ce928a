/-! THE CALLS: terms -/
section X
variable {nw nx : Nat} {LO : Nat → Int64} {DO : Nat → UInt64} {d n hid mid : Nat} {ha ma : List Value} {A : Nat → Nat → Int32} {F : Nat → Int32} {rows : List (Int32 × Int32 × Int32)} {sp : Nat → List Int32}
theorem c_badB {k : Int32} (h : gI2 rows sp n A F nw nx) (hk : ¬ k = 0) (h6 : gm_Sp gm_MT (d + 61) hid ha (gw A F nw nx LO DO) (.inl (some (.int k))) (gw A F nw nx LO DO) 1 6) (h7 : ∃ F2 b, gKz A F A F2 ∧ F2 20 = k ∧ gm_Sp gm_MT (d + 61) mid ma (gw A F nw nx LO DO) (.inl (some (.int b))) (gw A F2 nw nx LO DO) 0 0) : gClB d hid ha mid ma A F nw nx LO DO := by
  obtain ⟨F2, b, k2, t2, s2⟩ := h7
  exact gClB.th hk h6 s2 t2 (gI.same h k2.a h.2.2.2.2.1)
theorem c_bad {k : Int32} (h : gI2 rows sp n A F nw nx) (hk : ¬ k = 0) (h6 : gm_Sp gm_MT (d + 61) hid ha (gw A F nw nx LO DO) (.inl (some (.int k))) (gw A F nw nx LO DO) 1 6) (h7 : ∃ F2 b, gKz A F A F2 ∧ F2 20 = k ∧ gm_Sp gm_MT (d + 61) mid ma (gw A F nw nx LO DO) (.inl (some (.int b))) (gw A F2 nw nx LO DO) 0 0) : gCl d hid ha mid ma A F nw nx LO DO := (c_badB h hk h6 h7).cl
theorem c_make {k l r kE : Int32} (hk : ¬ kE = 0) (h : gI2 rows sp n A F nw nx)
    (p : ∃ A' F' sp', gRp A' (rMk rows sp k l r).2 sp' ∧ F' 0 = nI (rMk rows sp k l r).2.length ∧ gML rows sp k l r sp' ∧ gKt A F A' F' ∧ (∀ j, (rMk rows sp k l r).1 = some j → gm_Sp gm_MT (d + 61) hid ha (gw A F nw nx LO DO) (.inl (some (.int 0))) (gw A' F' nw nx (vp_updL LO 0 (nI j).toInt64) DO) 0 0) ∧ ((rMk rows sp k l r).1 = none → gm_Sp gm_MT (d + 61) hid ha (gw A F nw nx LO DO) (.inl (some (.int kE))) (gw A' F' nw nx LO DO) 1 6))
    (q : ∀ A1 F1 LO1, gRm A1 rows sp → F1 21 = nI rows.length → ∃ A' F' sp', gRm A' (rMk rows sp k l r).2 sp' ∧ F' 21 = nI (rMk rows sp k l r).2.length ∧ gML rows sp k l r sp' ∧ gKf A1 F1 A' F' ∧ F' 20 = (if (rMk rows sp k l r).1.isSome = true then 0 else kE) ∧ gm_Sp gm_MT (d + 61) mid ma (gw A1 F1 nw nx LO1 DO) (.inl (some (.int (gOz (rMk rows sp k l r).1)))) (gw A' F' nw nx LO1 DO) 0 0) : gCl d hid ha mid ma A F nw nx LO DO := by
  obtain ⟨A1, F1, sp1, a1, a2, a3, a4, a5, a6⟩ := p
  have h' := h
  obtain ⟨r1, r2, r3, r4, r5, r6, r7⟩ := h'
  have m1 : gRm A1 rows sp := by
    unfold gRm at r3 ⊢
    rw [a4.1 25 (by omega), a4.1 26 (by omega), a4.1 27 (by omega), a4.1 28 (by omega), a4.1 29 (by omega)]
    exact r3
  have m2 : F1 21 = nI rows.length := by rw [a4.2 21 (by decide)]; exact r4
  have fin : ∀ (A2 : Nat → Nat → Int32) (F2 : Nat → Int32) (sp2 : Nat → List Int32), gRm A2 (rMk rows sp k l r).2 sp2 → F2 21 = nI (rMk rows sp k l r).2.length → gKf A1 F1 A2 F2 → gI A2 F2 nw nx := fun A2 F2 sp2 b1 b2 b4 => by
    have p2 : gRp A2 (rMk rows sp k l r).2 sp1 := by
      unfold gRp at a1 ⊢
      rw [b4.1 2 (by omega), b4.1 3 (by omega), b4.1 4 (by omega), b4.1 5 (by omega), b4.1 6 (by omega)]
      exact a1
    exact gI.next h (a4.e.trans b4.e) a3.2.1 p2 (by rw [b4.2 0 (by decide) (by decide)]; exact a2) b1 b2 r5
  cases ho : (rMk rows sp k l r).1 with
  | some j =>
    obtain ⟨A2, F2, sp2, b1, b2, b3, b4, b5, b6⟩ := q A1 F1 (vp_updL LO 0 (nI j).toInt64) m1 m2
    rw [ho] at b5 b6
    exact gCl.ok (a5 j ho) b6 (by rw [b5]; rfl) (fin A2 F2 sp2 b1 b2 b4)
  | none =>
    obtain ⟨A2, F2, sp2, b1, b2, b3, b4, b5, b6⟩ := q A1 F1 LO m1 m2
    rw [ho] at b5 b6
    exact gCl.th hk (a6 ho) b6 (by rw [b5]; rfl) (fin A2 F2 sp2 b1 b2 b4)
theorem c_letter (hI : gI A F nw nx) (x : Int32) : gCl d 10000 [.ref 0, .int x, .ref 37] 8010 [.ref 24, .int x] A F nw nx LO DO := by
  obtain ⟨rows, sp, n, h⟩ := hI
  have h' := h
  obtain ⟨r1, r2, r3, r4, r5, r6, r7⟩ := h'
  cases hx : gIn x 0 3 with
  | false =>
    have hx2 : ¬ (0 ≤ x ∧ x < 4) := fun z => by
      unfold gIn at hx
      refine of_decide_eq_false hx ⟨z.1, ?_⟩
      have z2 := z.2
      rw [Int32.lt_iff_toInt_lt] at z2
      rw [Int32.le_iff_toInt_le]
      have e1 : (4 : Int32).toInt = 4 := by decide
      have e2 : (3 : Int32).toInt = 3 := by decide
      omega
    exact c_bad h (by decide) (h_letter_IAE (f_letter2 (d := d + 55) hx2)) ⟨_, _, gKz.th A F 1, g_upe, m_letter2 (d := d + 56) hx⟩
  | true =>
    obtain ⟨i, hi, rfl⟩ := (gIn_iff (x := x) (n := 3) (by decide)).mp hx
    refine c_make (kE := 2) (by decide) h ?_ (fun A1 F1 LO1 q1 q2 => m_letter1 (d := d + 56) q1 q2 hi)
    obtain ⟨A', F', sp', a1, a2, a3, a4, a5, a6⟩ := f_letter1 (A := A) (F := F) (nw := nw) (nx := nx) (LO := LO) (DO := DO) (d := d + 55) r1 r2 hi
    exact ⟨A', F', sp', a1, a2, a3, a4, fun j hj => h_letter (a5 j hj), fun hj => h_letter_ISE (a6 hj)⟩
theorem c_empty (hI : gI A F nw nx) : gCl d 10001 [.ref 0, .ref 37] 8011 [.ref 24] A F nw nx LO DO := by
  obtain ⟨rows, sp, n, h⟩ := hI
  refine c_make (kE := 1) (by decide) h ?_ (fun A1 F1 LO1 q1 q2 => m_empty (d := d + 56) q1 q2)
  obtain ⟨A', F', sp', a1, a2, a3, a4, a5, a6⟩ := f_empty (A := A) (F := F) (nw := nw) (nx := nx) (LO := LO) (DO := DO) (d := d + 55) h.1 h.2.1
  exact ⟨A', F', sp', a1, a2, a3, a4, fun j hj => h_empty (a5 j hj), fun hj => h_empty_ISE (a6 hj)⟩
theorem c_universe (hI : gI A F nw nx) : gCl d 10002 [.ref 0, .ref 37] 8012 [.ref 24] A F nw nx LO DO := by
  obtain ⟨rows, sp, n, h⟩ := hI
  refine c_make (kE := 1) (by decide) h ?_ (fun A1 F1 LO1 q1 q2 => m_universe (d := d + 56) q1 q2)
  obtain ⟨A', F', sp', a1, a2, a3, a4, a5, a6⟩ := f_universe (A := A) (F := F) (nw := nw) (nx := nx) (LO := LO) (DO := DO) (d := d + 55) h.1 h.2.1
  exact ⟨A', F', sp', a1, a2, a3, a4, fun j hj => h_universe (a5 j hj), fun hj => h_universe_ISE (a6 hj)⟩
theorem c_complement (hI : gI A F nw nx) (x : Int32) : gCl d 10003 [.ref 0, .int x, .ref 37] 8013 [.ref 24, .int x] A F nw nx LO DO := by
  obtain ⟨rows, sp, n, h⟩ := hI
  have hN := h.n120
  rcases gT_cases x hN with ⟨t, ht, rfl, -⟩ | ⟨hg, -⟩
  · refine c_make (kE := 2) (by decide) h ?_ (fun A1 F1 LO1 q1 q2 => m_complement1 (d := d + 56) q1 q2 ht)
    obtain ⟨A', F', sp', a1, a2, a3, a4, a5, a6⟩ := f_complement1 (A := A) (F := F) (nw := nw) (nx := nx) (LO := LO) (DO := DO) (d := d + 55) h.1 h.2.1 ht
    exact ⟨A', F', sp', a1, a2, a3, a4, fun j hj => h_complement (a5 j hj), fun hj => h_complement_ISE (a6 hj)⟩
  · exact c_bad h (by decide) (h_complement_IOB (f_complement_b (d := d + 55) hN h.2.1 hg)) ⟨_, _, gKz.th A F 1, g_upe, m_complement_b (d := d + 56) hN h.2.2.2.1 hg⟩
theorem gT_two {N : Nat} (hN : N ≤ 120) (x y : Int32) : (∃ a b, a < N ∧ b < N ∧ x = nI a ∧ y = nI b) ∨ (gT N x = none ∨ gT N y = none) := by
  rcases gT_cases x hN with ⟨a, ha, e1, -⟩ | ⟨hg, -⟩
  · rcases gT_cases y hN with ⟨b, hb, e2, -⟩ | ⟨hg, -⟩
    · exact Or.inl ⟨a, b, ha, hb, e1, e2⟩
    · exact Or.inr (Or.inr hg)
  · exact Or.inr (Or.inl hg)

theorem c_union (hI : gI A F nw nx) (x y : Int32) : gCl d 10004 [.ref 0, .int x, .int y, .ref 37] 8015 [.ref 24, .int x, .int y] A F nw nx LO DO := by
  obtain ⟨rows, sp, n, h⟩ := hI
  have hN := h.n120
  rcases gT_two hN x y with ⟨a, b, ha, hb, rfl, rfl⟩ | hxy
  · refine c_make (k := 85) (l := nI a) (r := nI b) (kE := 2) (by decide) h ?_ (fun A1 F1 LO1 q1 q2 => ?_)
    · obtain ⟨A', F', sp', a1, a2, a3, a4, a5, a6⟩ := f_pair1 (A := A) (F := F) (nw := nw) (nx := nx) (LO := LO) (DO := DO) (d := d + 54) h.1 h.2.1 (k := 85) (by simp [gSg]) (by decide) ha hb
      exact ⟨A', F', sp', a1, a2, a3, a4, fun j hj => h_union (f_union (a5 j hj) rfl), fun hj => h_union_ISE (f_union_x (a6 hj) rfl)⟩
    · obtain ⟨A', F', sp', a1, a2, a3, a4, a5, a6⟩ := m_pair1 (A := A1) (F := F1) (nw := nw) (nx := nx) (LO := LO1) (DO := DO) (d := d + 55) q1 q2 (k := 85) (by simp [gSg]) (by decide) ha hb
      exact ⟨A', F', sp', a1, a2, a3, a4, a5, m_union a6 rfl⟩
  · obtain ⟨F2, k2, t2, s2⟩ := m_pair2 (A := A) (F := F) (nw := nw) (nx := nx) (LO := LO) (DO := DO) (d := d + 55) (k := 85) hN h.2.2.2.1 hxy
    exact c_bad h (by decide) (h_union_IOB (f_union_x (f_pair2 (d := d + 54) hN h.2.1 hxy) rfl)) ⟨F2, _, k2, t2, m_union s2 rfl⟩
theorem c_intersection (hI : gI A F nw nx) (x y : Int32) : gCl d 10005 [.ref 0, .int x, .int y, .ref 37] 8016 [.ref 24, .int x, .int y] A F nw nx LO DO := by
  obtain ⟨rows, sp, n, h⟩ := hI
  have hN := h.n120
  rcases gT_two hN x y with ⟨a, b, ha, hb, rfl, rfl⟩ | hxy
  · refine c_make (k := 73) (l := nI a) (r := nI b) (kE := 2) (by decide) h ?_ (fun A1 F1 LO1 q1 q2 => ?_)
    · obtain ⟨A', F', sp', a1, a2, a3, a4, a5, a6⟩ := f_pair1 (A := A) (F := F) (nw := nw) (nx := nx) (LO := LO) (DO := DO) (d := d + 54) h.1 h.2.1 (k := 73) (by simp [gSg]) (by decide) ha hb
      exact ⟨A', F', sp', a1, a2, a3, a4, fun j hj => h_intersection (f_intersection (a5 j hj) rfl), fun hj => h_intersection_ISE (f_intersection_x (a6 hj) rfl)⟩
    · obtain ⟨A', F', sp', a1, a2, a3, a4, a5, a6⟩ := m_pair1 (A := A1) (F := F1) (nw := nw) (nx := nx) (LO := LO1) (DO := DO) (d := d + 55) q1 q2 (k := 73) (by simp [gSg]) (by decide) ha hb
      exact ⟨A', F', sp', a1, a2, a3, a4, a5, m_intersection a6 rfl⟩
  · obtain ⟨F2, k2, t2, s2⟩ := m_pair2 (A := A) (F := F) (nw := nw) (nx := nx) (LO := LO) (DO := DO) (d := d + 55) (k := 73) hN h.2.2.2.1 hxy
    exact c_bad h (by decide) (h_intersection_IOB (f_intersection_x (f_pair2 (d := d + 54) hN h.2.1 hxy) rfl)) ⟨F2, _, k2, t2, m_intersection s2 rfl⟩
theorem c_difference (hI : gI A F nw nx) (x y : Int32) : gCl d 10006 [.ref 0, .int x, .int y, .ref 37] 8017 [.ref 24, .int x, .int y] A F nw nx LO DO := by
  obtain ⟨rows, sp, n, h⟩ := hI
  have hN := h.n120
  rcases gT_two hN x y with ⟨a, b, ha, hb, rfl, rfl⟩ | hxy
  · refine c_make (k := 68) (l := nI a) (r := nI b) (kE := 2) (by decide) h ?_ (fun A1 F1 LO1 q1 q2 => ?_)
    · obtain ⟨A', F', sp', a1, a2, a3, a4, a5, a6⟩ := f_pair1 (A := A) (F := F) (nw := nw) (nx := nx) (LO := LO) (DO := DO) (d := d + 54) h.1 h.2.1 (k := 68) (by simp [gSg]) (by decide) ha hb
      exact ⟨A', F', sp', a1, a2, a3, a4, fun j hj => h_difference (f_difference (a5 j hj) rfl), fun hj => h_difference_ISE (f_difference_x (a6 hj) rfl)⟩
    · obtain ⟨A', F', sp', a1, a2, a3, a4, a5, a6⟩ := m_pair1 (A := A1) (F := F1) (nw := nw) (nx := nx) (LO := LO1) (DO := DO) (d := d + 55) q1 q2 (k := 68) (by simp [gSg]) (by decide) ha hb
      exact ⟨A', F', sp', a1, a2, a3, a4, a5, m_difference a6 rfl⟩
  · obtain ⟨F2, k2, t2, s2⟩ := m_pair2 (A := A) (F := F) (nw := nw) (nx := nx) (LO := LO) (DO := DO) (d := d + 55) (k := 68) hN h.2.2.2.1 hxy
    exact c_bad h (by decide) (h_difference_IOB (f_difference_x (f_pair2 (d := d + 54) hN h.2.1 hxy) rfl)) ⟨F2, _, k2, t2, m_difference s2 rfl⟩
theorem c_symmetric (hI : gI A F nw nx) (x y : Int32) : gCl d 10007 [.ref 0, .int x, .int y, .ref 37] 8018 [.ref 24, .int x, .int y] A F nw nx LO DO := by
  obtain ⟨rows, sp, n, h⟩ := hI
  have hN := h.n120
  rcases gT_two hN x y with ⟨a, b, ha, hb, rfl, rfl⟩ | hxy
  · refine c_make (k := 83) (l := nI a) (r := nI b) (kE := 2) (by decide) h ?_ (fun A1 F1 LO1 q1 q2 => ?_)
    · obtain ⟨A', F', sp', a1, a2, a3, a4, a5, a6⟩ := f_pair1 (A := A) (F := F) (nw := nw) (nx := nx) (LO := LO) (DO := DO) (d := d + 54) h.1 h.2.1 (k := 83) (by simp [gSg]) (by decide) ha hb
      exact ⟨A', F', sp', a1, a2, a3, a4, fun j hj => h_symmetric (f_symmetric (a5 j hj) rfl), fun hj => h_symmetric_ISE (f_symmetric_x (a6 hj) rfl)⟩
    · obtain ⟨A', F', sp', a1, a2, a3, a4, a5, a6⟩ := m_pair1 (A := A1) (F := F1) (nw := nw) (nx := nx) (LO := LO1) (DO := DO) (d := d + 55) q1 q2 (k := 83) (by simp [gSg]) (by decide) ha hb
      exact ⟨A', F', sp', a1, a2, a3, a4, a5, m_symmetric a6 rfl⟩
  · obtain ⟨F2, k2, t2, s2⟩ := m_pair2 (A := A) (F := F) (nw := nw) (nx := nx) (LO := LO) (DO := DO) (d := d + 55) (k := 83) hN h.2.2.2.1 hxy
    exact c_bad h (by decide) (h_symmetric_IOB (f_symmetric_x (f_pair2 (d := d + 54) hN h.2.1 hxy) rfl)) ⟨F2, _, k2, t2, m_symmetric s2 rfl⟩
theorem c_size (hI : gI A F nw nx) (x : Int32) : gCl d 10008 [.ref 0, .int x, .ref 37] 8020 [.ref 24, .int x] A F nw nx LO DO := by
  obtain ⟨rows, sp, n, h⟩ := hI
  have hN := h.n120
  rcases gT_cases x hN with ⟨t, ht, rfl, -⟩ | ⟨hg, -⟩
  · exact gCl.ok (h_size (f_size (d := d + 57) h.1 h.2.1 ht)) (m_size (d := d + 58) h.2.2.1 h.2.2.2.1 ht) g_upe (gI.same h (gKz.th A F 0).a h.2.2.2.2.1)
  · exact c_bad h (by decide) (h_size_IOB (f_size_b (d := d + 55) hN h.2.1 hg)) ⟨_, _, gKz.th A F 1, g_upe, m_size_b (d := d + 56) hN h.2.2.2.1 hg⟩
theorem c_symbol (hI : gI A F nw nx) (x y : Int32) : gCl d 10009 [.ref 0, .int x, .int y, .ref 37] 8023 [.ref 24, .int x, .int y] A F nw nx LO DO := by
  obtain ⟨rows, sp, n, h⟩ := hI
  have hN := h.n120
  rcases gT_cases x hN with ⟨t, ht, rfl, -⟩ | ⟨hg, -⟩
  · by_cases hk : ∃ k, k < (sp t).length ∧ y = nI k
    · obtain ⟨k, hk, rfl⟩ := hk
      obtain ⟨A2, F2, k2, t2, s2⟩ := m_symbol1 (A := A) (F := F) (nw := nw) (nx := nx) (LO := vp_updL LO 0 ((sp t).getD k 32).toInt64) (DO := DO) (d := d + 19) h.2.2.1 h.2.2.2.1 ht hk
      exact gCl.ok (h_symbol (f_symbol1 (d := d + 56) h.1 h.2.1 ht hk)) s2 t2 (gI.same h k2.a h.2.2.2.2.1)
    · have hy : ∀ k, k < (sp t).length → ¬ y = nI k := fun k h1 h2 => hk ⟨k, h1, h2⟩
      exact c_bad h (by decide) (h_symbol_NSE (f_symbol2 (d := d + 56) h.1 h.2.1 ht hy)) ⟨_, _, (gKz.th A F 0).trans (gKz.th A _ 2), g_upe, m_symbol2 (d := d + 57) h.2.2.1 h.2.2.2.1 ht hy⟩
  · exact c_bad h (by decide) (h_symbol_IOB (f_symbol_b (d := d + 55) hN h.2.1 hg)) ⟨_, _, gKz.th A F 1, g_upe, m_symbol_b (d := d + 56) hN h.2.2.2.1 hg⟩
theorem c_regions (hI : gI A F nw nx) (x : Int32) : gCl d 10010 [.ref 0, .int x, .ref 37] 8024 [.ref 24, .int x] A F nw nx LO DO := by
  obtain ⟨rows, sp, n, h⟩ := hI
  have hN := h.n120
  rcases gT_cases x hN with ⟨t, ht, rfl, -⟩ | ⟨hg, -⟩
  · have s7 := m_regions (A := A) (F := F) (nw := nw) (nx := nx) (LO := vp_updL LO 0 (bcF (A 6 t)).toInt64) (DO := DO) (d := d + 58) h.2.2.1 h.2.2.2.1 ht
    rw [h.cov ht] at s7
    exact gCl.ok (h_regions (f_regions (d := d + 57) h.1 h.2.1 ht)) s7 g_upe (gI.same h (gKz.th A F 0).a h.2.2.2.2.1)
  · exact c_bad h (by decide) (h_regions_IOB (f_regions_b (d := d + 55) hN h.2.1 hg)) ⟨_, _, gKz.th A F 1, g_upe, m_regions_b (d := d + 56) hN h.2.2.2.1 hg⟩
theorem c_covers (hI : gI A F nw nx) (x y : Int32) : gClB d 10011 [.ref 0, .int x, .int y, .ref 37] 8025 [.ref 24, .int x, .int y] A F nw nx LO DO := by
  obtain ⟨rows, sp, n, h⟩ := hI
  have hN := h.n120
  rcases gT_cases x hN with ⟨t, ht, rfl, -⟩ | ⟨hg, -⟩
  · rcases in_16 y with ⟨r, hr, rfl⟩ | ⟨hy1, hy2⟩
    · have s7 := m_covers1 (A := A) (F := F) (nw := nw) (nx := nx) (LO := vp_updL LO 0 (gB (sIn (nI r) (A 6 t))).toInt64) (DO := DO) (d := d + 58) h.2.2.1 h.2.2.2.1 ht hr
      rw [h.cov ht] at s7
      exact gClB.ok (h_covers (f_covers1 (d := d + 57) h.1 h.2.1 ht hr)) s7 g_upe (gI.same h ((gKz.th A F 0).trans (gKz.th A _ 0)).a h.2.2.2.2.1)
    · exact c_badB h (by decide) (h_covers_IAE (f_covers2 (d := d + 57) hN h.2.1 ht hy2)) ⟨_, _, (gKz.th A F 0).trans (gKz.th A _ 2), g_upe, m_covers2 (d := d + 58) hN h.2.2.2.1 ht hy1⟩
  · exact c_badB h (by decide) (h_covers_IOB (f_covers_b (d := d + 55) hN h.2.1 hg)) ⟨_, _, gKz.th A F 1, g_upe, m_covers_b (d := d + 56) hN h.2.2.2.1 hg⟩
theorem c_coversByTerm (hI : gI A F nw nx) (x y : Int32) : gClB d 10012 [.ref 0, .int x, .int y, .ref 37] 8026 [.ref 24, .int x, .int y] A F nw nx LO DO := by
  obtain ⟨rows, sp, n, h⟩ := hI
  have hN := h.n120
  rcases gT_cases x hN with ⟨t, ht, rfl, -⟩ | ⟨hg, -⟩
  · rcases in_16 y with ⟨r, hr, rfl⟩ | ⟨hy1, hy2⟩
    · have s7 := m_covers1 (A := A) (F := F) (nw := nw) (nx := nx) (LO := vp_updL LO 0 (gB (sIn (nI r) (A 6 t))).toInt64) (DO := DO) (d := d + 57) h.2.2.1 h.2.2.2.1 ht hr
      rw [h.cov ht] at s7
      exact gClB.ok (h_coversByTerm (f_coversBy1 (d := d + 16) h.1 h.2.1 ht hr)) (m_coversBy s7 rfl (gB_01 _)) g_upe (gI.same h ((gKz.th A F 0).trans (gKz.th A _ 0)).a h.2.2.2.2.1)
    · exact c_badB h (by decide) (h_coversByTerm_IAE (f_coversByTerm2 (d := d + 57) hN h.2.1 ht hy2)) ⟨_, _, (gKz.th A F 0).trans (gKz.th A _ 2), g_upe, m_coversBy (m_covers2 (d := d + 57) hN h.2.2.2.1 ht hy1) rfl (Or.inl rfl)⟩
  · exact c_badB h (by decide) (h_coversByTerm_IOB (f_coversByTerm_b (d := d + 55) hN h.2.1 hg)) ⟨_, _, gKz.th A F 1, g_upe, m_coversBy (m_covers_b (d := d + 55) hN h.2.2.2.1 hg) rfl (Or.inl rfl)⟩
theorem c_isEqual (hI : gI A F nw nx) (x y : Int32) : gClB d 10013 [.ref 0, .int x, .int y, .ref 37] 8027 [.ref 24, .int x, .int y] A F nw nx LO DO := by
  obtain ⟨rows, sp, n, h⟩ := hI
  have hN := h.n120
  rcases gT_two hN x y with ⟨a, b, ha, hb, rfl, rfl⟩ | hxy
  · have s7 := m_isEqual1 (A := A) (F := F) (nw := nw) (nx := nx) (LO := vp_updL LO 0 (gB (decide (A 6 a = A 6 b))).toInt64) (DO := DO) (d := d + 58) h.2.2.1 h.2.2.2.1 ha hb
    rw [h.cov ha, h.cov hb] at s7
    exact gClB.ok (h_isEqual (f_isEqual1 (d := d + 57) h.1 h.2.1 ha hb)) s7 g_upe (gI.same h ((gKz.th A F 0).trans (gKz.th A _ 0)).a h.2.2.2.2.1)
  · obtain ⟨F2, k2, t2, s2⟩ := m_isEqual2 (A := A) (F := F) (nw := nw) (nx := nx) (LO := LO) (DO := DO) (d := d + 58) hN h.2.2.2.1 hxy
    exact c_badB h (by decide) (h_isEqual_IOB (f_isEqual2 (d := d + 57) hN h.2.1 hxy)) ⟨F2, _, k2, t2, s2⟩
theorem c_rule (hI : gI A F nw nx) (x : Int32) : gCl d 10014 [.ref 0, .int x, .ref 37] 8037 [.ref 24, .int x] A F nw nx LO DO := by
  obtain ⟨rows, sp, n, h⟩ := hI
  have hN := h.n120
  rcases gT_cases x hN with ⟨t, ht, rfl, -⟩ | ⟨hg, -⟩
  · obtain ⟨A1, F1, k1, p1, p2⟩ := s_rule6 (A := A) (F := F) (nw := nw) (nx := nx) (LO := LO) (DO := DO) (d := d + 50) h.1 h.2.1 h.2.2.2.2.1 ht
    obtain ⟨q1, q2, q3, q4⟩ := k1.a.tabs h
    cases ho : tPlace (sp t) with
    | none =>
      obtain ⟨A2, F2, k2, t2, s2⟩ := s_rule7 (A := A1) (F := F1) (nw := nw) (nx := nx) (LO := LO) (DO := DO) (d := d + 19) q3 q4 ht
      rw [ho] at t2 s2
      exact gCl.th (by decide) (h_rule_NSE (p1 ho)) s2 t2 (gI.same h (k1.a.trans k2.a) h.2.2.2.2.1)
    | some i =>
      obtain ⟨A2, F2, k2, t2, s2⟩ := s_rule7 (A := A1) (F := F1) (nw := nw) (nx := nx) (LO := vp_updL LO 0 (tRule (sp t) i).toInt64) (DO := DO) (d := d + 19) q3 q4 ht
      rw [ho] at t2 s2
      exact gCl.ok (h_rule (p2 i ho)) s2 t2 (gI.same h (k1.a.trans k2.a) h.2.2.2.2.1)
  · exact c_bad h (by decide) (h_rule_IOB (f_rule_b (d := d + 55) hN h.2.1 hg)) ⟨_, _, gKz.th A F 1, g_upe, m_rule_b (d := d + 56) hN h.2.2.2.1 hg⟩
theorem rStp_code (rows : List (Int32 × Int32 × Int32)) (l : List Int32) : (∀ j, (rStp rows l).2.1 = some j → (rStp rows l).1 = 0) ∧ ((rStp rows l).2.1 = none → (rStp rows l).1 = 2 ∨ (rStp rows l).1 = 3 ∨ (rStp rows l).1 = 4) := by
  unfold rStp
  cases tPlace l with
  | none => exact ⟨fun j hj => (by cases hj), fun _ => (by simp)⟩
  | some i =>
    show (∀ j, (if (tRew l i).length ≤ 40 then (if (rAll (tRew l i) rows).1.isSome then (0 : Int32) else 4, rAll (tRew l i) rows) else (3, none, rows)).2.1 = some j → (if (tRew l i).length ≤ 40 then (if (rAll (tRew l i) rows).1.isSome then (0 : Int32) else 4, rAll (tRew l i) rows) else (3, none, rows)).1 = 0) ∧ _
    by_cases h40 : (tRew l i).length ≤ 40
    · simp only [if_pos h40]
      cases ho : (rAll (tRew l i) rows).1 with
      | none => exact ⟨fun j hj => (by cases hj), fun _ => Or.inr (Or.inr rfl)⟩
      | some j => exact ⟨fun _ _ => rfl, fun z => (by cases z)⟩
    · simp only [if_neg h40]
      exact ⟨fun j hj => (by cases hj), fun _ => (by simp)⟩
theorem rNf_code (rows : List (Int32 × Int32 × Int32)) (l : List Int32) : (∀ j, (rNf rows l).2.1 = some j → (rNf rows l).1 = 0) ∧ ((rNf rows l).2.1 = none → (rNf rows l).1 = 2 ∨ (rNf rows l).1 = 3) := by
  unfold rNf
  by_cases hb : (tGo (mQ l + 1) l).2.2 = true
  · simp only [if_pos hb]
    exact ⟨fun j hj => (by cases hj), fun _ => (by simp)⟩
  · simp only [if_neg hb]
    cases ho : (rAll (tGo (mQ l + 1) l).2.1 rows).1 with
    | none => exact ⟨fun j hj => (by cases hj), fun _ => Or.inr rfl⟩
    | some j => exact ⟨fun _ _ => rfl, fun z => (by cases z)⟩
theorem gKc.rm {A1 : Nat → Nat → Int32} {F1 : Nat → Int32} (k : gKc A F A1 F1) (hR : gRm A rows sp) (hF : F 21 = nI rows.length) : gRm A1 rows sp ∧ F1 21 = nI rows.length := by
  unfold gRm at hR ⊢
  rw [k.1 25 (by omega), k.1 26 (by omega), k.1 27 (by omega), k.1 28 (by omega), k.1 29 (by omega)]
  exact ⟨hR, by rw [k.2 21 (by omega)]; exact hF⟩
theorem gMr.fin {A1 A2 : Nat → Nat → Int32} {F1 F2 : Nat → Int32} {sp1 sp2 : Nat → List Int32} {nw1 nx1 : Nat} {r : Int32 × Option Nat × List (Int32 × Int32 × Int32)} (h : gI2 rows sp n A F nw nx) (p : gMp A F rows sp r A1 F1 nw1 nx1 sp1) (q : gMr A1 F1 rows sp r A2 F2 sp2) : gI A2 F2 nw1 nx1 := by
  obtain ⟨a1, a2, a3, a4, a5, a6⟩ := p
  obtain ⟨b1, b2, b3, b4, b5, b6⟩ := q
  have p2 : gRp A2 r.2.2 sp1 := by
    unfold gRp at a1 ⊢
    rw [b5.1 2 (by omega), b5.1 3 (by omega), b5.1 4 (by omega), b5.1 5 (by omega), b5.1 6 (by omega)]
    exact a1
  exact gI.next h (a5.e.trans b5.e) a4 p2 (by rw [b5.2 0 (by decide) (by decide) (by decide) (by decide) (by decide)]; exact a2) b1 b2 a6
theorem c_step (hI : gI A F nw nx) (x : Int32) : gCl d 10015 [.ref 0, .int x, .ref 37] 8038 [.ref 24, .int x] A F nw nx LO DO := by
  obtain ⟨rows, sp, n, h⟩ := hI
  have hN := h.n120
  rcases gT_cases x hN with ⟨t, ht, rfl, -⟩ | ⟨hg, -⟩
  · obtain ⟨A1, F1, nw1, nx1, sp1, p0, p1, p2⟩ := s_step6 (A := A) (F := F) (nw := nw) (nx := nx) (LO := LO) (DO := DO) (d := d + 13) h.1 h.2.1 h.2.2.2.2.1 ht
    obtain ⟨q3, q4⟩ := gKc.rm p0.2.2.2.2.1 h.2.2.1 h.2.2.2.1
    obtain ⟨c1, c2⟩ := rStp_code rows (sp t)
    cases ho : (rStp rows (sp t)).2.1 with
    | some j =>
      obtain ⟨A2, F2, sp2, q, s2⟩ := s_step7 (A := A1) (F := F1) (nw := nw1) (nx := nx1) (LO := vp_updL LO 0 (nI j).toInt64) (DO := DO) (d := d + 15) q3 q4 ht
      have hfin := gMr.fin h p0 q
      rw [ho] at s2
      exact gCl.ok (h_step (p1 j ho)) s2 (by rw [q.2.2.2.2.2]; exact c1 j ho) hfin
    | none =>
      obtain ⟨A2, F2, sp2, q, s2⟩ := s_step7 (A := A1) (F := F1) (nw := nw1) (nx := nx1) (LO := LO) (DO := DO) (d := d + 15) q3 q4 ht
      have hfin := gMr.fin h p0 q
      rw [ho] at s2
      have p2 := p2 ho
      have q6 := q.2.2.2.2.2
      rcases c2 ho with e | e | e
      · rw [e] at p2 q6
        exact gCl.th (by decide) (h_step_NSE p2) s2 q6 hfin
      · rw [e] at p2 q6
        exact gCl.th (by decide) (h_step_UOE p2) s2 q6 hfin
      · rw [e] at p2 q6
        exact gCl.th (by decide) (h_step_ISE p2) s2 q6 hfin
  · exact c_bad h (by decide) (h_step_IOB (f_step_b (d := d + 55) hN h.2.1 hg)) ⟨_, _, gKz.th A F 1, g_upe, m_step_b (d := d + 56) hN h.2.2.2.1 hg⟩
theorem c_normalForm (hI : gI A F nw nx) (x : Int32) : gCl d 10017 [.ref 0, .int x, .ref 37] 8040 [.ref 24, .int x] A F nw nx LO DO := by
  obtain ⟨rows, sp, n, h⟩ := hI
  have hN := h.n120
  rcases gT_cases x hN with ⟨t, ht, rfl, -⟩ | ⟨hg, -⟩
  · obtain ⟨A1, F1, nw1, nx1, sp1, p0, p1, p2⟩ := s_normal6 (A := A) (F := F) (nw := nw) (nx := nx) (LO := LO) (DO := DO) (d := d + 13) h.1 h.2.1 h.2.2.2.2.1 ht
    obtain ⟨q3, q4⟩ := gKc.rm p0.2.2.2.2.1 h.2.2.1 h.2.2.2.1
    obtain ⟨c1, c2⟩ := rNf_code rows (sp t)
    cases ho : (rNf rows (sp t)).2.1 with
    | some j =>
      obtain ⟨A2, F2, sp2, q, s2⟩ := s_normal7 (A := A1) (F := F1) (nw := nw1) (nx := nx1) (LO := vp_updL LO 0 (nI j).toInt64) (DO := DO) (d := d + 15) q3 q4 ht
      have hfin := gMr.fin h p0 q
      rw [ho] at s2
      exact gCl.ok (h_normalForm (p1 j ho)) s2 (by rw [q.2.2.2.2.2]; exact c1 j ho) hfin
    | none =>
      obtain ⟨A2, F2, sp2, q, s2⟩ := s_normal7 (A := A1) (F := F1) (nw := nw1) (nx := nx1) (LO := LO) (DO := DO) (d := d + 15) q3 q4 ht
      have hfin := gMr.fin h p0 q
      rw [ho] at s2
      have p2 := p2 ho
      have q6 := q.2.2.2.2.2
      rcases c2 ho with e | e
      · rw [e] at p2 q6
        exact gCl.th (by decide) (h_normalForm_UOE p2) s2 q6 hfin
      · rw [e] at p2 q6
        exact gCl.th (by decide) (h_normalForm_ISE p2) s2 q6 hfin
  · exact c_bad h (by decide) (h_normalForm_IOB (f_normalForm_b (d := d + 55) hN h.2.1 hg)) ⟨_, _, gKz.th A F 1, g_upe, m_normalForm_b (d := d + 56) hN h.2.2.2.1 hg⟩
theorem c_steps (hI : gI A F nw nx) (x : Int32) : gCl d 10016 [.ref 0, .int x, .ref 37] 8039 [.ref 24, .int x] A F nw nx LO DO := by
  obtain ⟨rows, sp, n, h⟩ := hI
  have hN := h.n120
  rcases gT_cases x hN with ⟨t, ht, rfl, -⟩ | ⟨hg, -⟩
  · obtain ⟨A1, F1, nw1, nx1, k1, x1, s1⟩ := s_steps6 (A := A) (F := F) (nw := nw) (nx := nx) (LO := LO) (DO := DO) (d := d + 52) h.1 h.2.1 h.2.2.2.2.1 ht
    obtain ⟨q1, q2, q3, q4⟩ := k1.a.tabs h
    obtain ⟨A2, F2, k2, t2, s2⟩ := s_steps7 (A := A1) (F := F1) (nw := nw1) (nx := nx1) (LO := vp_updL LO 0 (nI (tGo (mQ (sp t) + 1) (sp t)).1).toInt64) (DO := DO) (d := d + 19) q3 q4 ht
    exact gCl.ok (h_steps s1) s2 t2 (gI.same h (k1.a.trans k2.a) x1)
  · exact c_bad h (by decide) (h_steps_IOB (f_steps_b (d := d + 55) hN h.2.1 hg)) ⟨_, _, gKz.th A F 1, g_upe, m_steps_b (d := d + 56) hN h.2.2.2.1 hg⟩
theorem cjC_ka (cov : Int32) (hA : ∀ c, c < 81 → A 15 c = nI (cTn c)) : gKa A F (cjC cov 81 A) F := ⟨fun j hj => (cjC_prime (cov := cov) hA).2 j (by omega) (by omega), fun _ _ => rfl⟩
theorem c_primes (hI : gI A F nw nx) (x : Int32) : gCl d 10018 [.ref 0, .int x, .ref 37] 8044 [.ref 24, .int x] A F nw nx LO DO := by
  obtain ⟨rows, sp, n, h⟩ := hI
  have hN := h.n120
  rcases gT_cases x hN with ⟨t, ht, rfl, -⟩ | ⟨hg, -⟩
  · have k1 := cjC_ka (F := F) (A 6 t) h.2.2.2.2.2.1
    have s1 := s_primes6 (A := A) (F := F) (nw := nw) (nx := nx) (LO := LO) (DO := DO) (d := d + 56) h.1 h.2.1 h.2.2.2.2.2.1 ht
    obtain ⟨q1, q2, q3, q4⟩ := k1.tabs h
    have e29 : cjC (A 6 t) 81 A 29 = A 29 := k1.1 29 (by omega)
    have s7 := s_primes7 (A := cjC (A 6 t) 81 A) (F := F) (nw := nw) (nx := nx) (LO := vp_updL LO 0 (iCnt (mPr (A 6 t)) 81 0 0).toInt64) (DO := DO) (d := d + 56) hN q4 ht
    rw [e29, h.cov ht] at s7
    exact gCl.ok (h_primes s1) s7 g_upe (gI.same h (k1.trans (gKz.th _ F 0).a) h.2.2.2.2.1)
  · exact c_bad h (by decide) (h_primes_IOB (f_primes_b (d := d + 55) hN h.2.1 hg)) ⟨_, _, gKz.th A F 1, g_upe, m_primes_b (d := d + 56) hN h.2.2.2.1 hg⟩
theorem c_primesByTrying (hI : gI A F nw nx) (x : Int32) : gCl d 10019 [.ref 0, .int x, .ref 37] 8045 [.ref 24, .int x] A F nw nx LO DO := by
  obtain ⟨rows, sp, n, h⟩ := hI
  have hN := h.n120
  rcases gT_cases x hN with ⟨t, ht, rfl, -⟩ | ⟨hg, -⟩
  · have s1 := s_primesTry6 (A := A) (F := F) (nw := nw) (nx := nx) (LO := LO) (DO := DO) (d := d + 56) h.1 h.2.1 h.2.2.2.2.2.1 ht
    have s7 := s_primes7 (A := A) (F := F) (nw := nw) (nx := nx) (LO := vp_updL LO 0 (iCnt (mPr (A 6 t)) 81 0 0).toInt64) (DO := DO) (d := d + 55) hN h.2.2.2.1 ht
    rw [h.cov ht] at s7
    exact gCl.ok (h_primesByTrying s1) (m_primesBy s7 rfl) g_upe (gI.same h (gKz.th _ F 0).a h.2.2.2.2.1)
  · exact c_bad h (by decide) (h_primesByTrying_IOB (f_primesByTrying_b (d := d + 55) hN h.2.1 hg)) ⟨_, _, gKz.th A F 1, g_upe, m_primesBy (m_primes_b (d := d + 55) hN h.2.2.2.1 hg) rfl⟩
theorem c_prime (hI : gI A F nw nx) (x y z : Int32) : gCl d 10020 [.ref 0, .int x, .int y, .int z, .ref 37] 8046 [.ref 24, .int x, .int y, .int z] A F nw nx LO DO := by
  obtain ⟨rows, sp, n, h⟩ := hI
  have hN := h.n120
  rcases gT_cases x hN with ⟨t, ht, rfl, -⟩ | ⟨hg, -⟩
  · have k1 := cjC_ka (F := F) (A 6 t) h.2.2.2.2.2.1
    obtain ⟨p1, p2⟩ := s_prime6 (A := A) (F := F) (nw := nw) (nx := nx) (LO := LO) (DO := DO) (d := d + 56) h.1 h.2.1 h.2.2.2.2.2.1 ht y z
    obtain ⟨q1, q2, q3, q4⟩ := k1.tabs h
    have e29 : cjC (A 6 t) 81 A 29 = A 29 := k1.1 29 (by omega)
    have fin : ∀ v, gI (cjC (A 6 t) 81 A) (va_up (va_up F 20 0) 20 v) nw nx := fun v => gI.same h (k1.trans ((gKz.th _ F 0).trans (gKz.th _ _ v)).a) h.2.2.2.2.1
    have s7 : ∀ LO, _ := fun (LO : Nat → Int64) => s_prime7 (A := cjC (A 6 t) 81 A) (F := F) (nw := nw) (nx := nx) (LO := LO) (DO := DO) (d := d + 56) hN q4 ht y z
    rw [e29, h.cov ht] at s7
    cases ho : iNth (mPr (A 6 t)) y 81 0 0 with
    | none => exact gCl.th (by decide) (h_prime_NSE (p1 ho)) ((s7 LO).1 ho) g_upe (fin 2)
    | some c =>
      cases hz : gIn z 0 3 with
      | false =>
        have hz2 : ¬ (0 ≤ z ∧ z < 4) := fun w => by
          unfold gIn at hz
          refine of_decide_eq_false hz ⟨w.1, ?_⟩
          have w2 := w.2
          rw [Int32.lt_iff_toInt_lt] at w2
          rw [Int32.le_iff_toInt_le]
          have e1 : (4 : Int32).toInt = 4 := by decide
          have e2 : (3 : Int32).toInt = 3 := by decide
          omega
        exact gCl.th (by decide) (h_prime_IAE ((p2 c ho).1 hz2)) (((s7 LO).2 c ho).1 hz) g_upe (fin 3)
      | true =>
        obtain ⟨j, hj, e⟩ := (gIn_iff (x := z) (n := 3) (by decide)).mp hz
        exact gCl.ok (h_prime ((p2 c ho).2 j hj e)) (((s7 _).2 c ho).2 j hj e) g_upe (fin 0)
  · exact c_bad h (by decide) (h_prime_IOB (f_prime_b (d := d + 55) hN h.2.1 hg)) ⟨_, _, gKz.th A F 1, g_upe, m_prime_b (d := d + 56) hN h.2.2.2.1 hg⟩
end X