/-! THE FACES: terms and regions, both sides -/
theorem nI_97 {j : Nat} (hj : j < 4) : (((97 : Int32) + nI j).toUInt32 % 65536).toInt32 = nI (97 + j) ∧ (97 : Int32) + nI j = nI (97 + j) := by
  have h : ∀ j, j < 4 → (((97 : Int32) + nI j).toUInt32 % 65536).toInt32 = nI (97 + j) ∧ (97 : Int32) + nI j = nI (97 + j) := by decide +kernel
  exact h j hj
theorem gSh_lt {n j : Nat} (hj : j < 4) : gSh n (nI (97 + j)) (-1) (-1) := by
  have h : ∀ j, j < 4 → gSg (nI (97 + j)) ∧ tAr (nI (97 + j)) = 0 := by
    intro j hj
    have : j = 0 ∨ j = 1 ∨ j = 2 ∨ j = 3 := by omega
    rcases this with rfl | rfl | rfl | rfl
    · exact ⟨Or.inr (Or.inr (Or.inl rfl)), by decide⟩
    · exact ⟨Or.inr (Or.inr (Or.inr (Or.inl rfl))), by decide⟩
    · exact ⟨Or.inr (Or.inr (Or.inr (Or.inr (Or.inl rfl)))), by decide⟩
    · exact ⟨Or.inr (Or.inr (Or.inr (Or.inr (Or.inr (Or.inl rfl))))), by decide⟩
  exact ⟨(h j hj).1, Or.inl ⟨(h j hj).2, rfl, rfl⟩⟩
section X
variable {nw nx : Nat} {LO : Nat → Int64} {DO : Nat → UInt64} {d : Nat} {A : Nat → Nat → Int32} {F : Nat → Int32} {rows : List (Int32 × Int32 × Int32)} {sp : Nat → List Int32}
/-- the answer of a call that makes a term -/
def gOut (o : Option Nat) (E : String) : pO := match o with
  | some j => .inl (some (.int (nI j)))
  | none => .inr E

theorem f_empty (hR : gRp A rows sp) (hF : F 0 = nI rows.length) : ∃ A' F' sp', gRp A' (rMk rows sp 48 (-1) (-1)).2 sp' ∧ F' 0 = nI (rMk rows sp 48 (-1) (-1)).2.length ∧ gML rows sp 48 (-1) (-1) sp' ∧ gKt A F A' F' ∧ (∀ j, (rMk rows sp 48 (-1) (-1)).1 = some j → gm_Sp gm_MT (d + 5) 7002 [.ref 0] (gw A F nw nx LO DO) (.inl (some (.int (nI j)))) (gw A' F' nw nx LO DO) 0 0) ∧ ((rMk rows sp 48 (-1) (-1)).1 = none → gm_Sp gm_MT (d + 5) 7002 [.ref 0] (gw A F nw nx LO DO) (.inr "java/lang/IllegalStateException") (gw A' F' nw nx LO DO) 1 6) := by
  obtain ⟨A', F', sp', a1, a2, a3, a4, a5⟩ := s_makeM (nw := nw) (nx := nx) (LO := LO) (DO := DO) (d := d) hR hF (k := 48) (l := -1) (r := -1) ⟨by simp [gSg], Or.inl ⟨by decide, rfl, rfl⟩⟩
  have hn := a1.1.1
  refine ⟨A', F', sp', a1, a2, a3, a4, fun j hj => ?_, fun hj => ?_⟩
  · rw [hj] at a5
    have hlt := a3.2.2 j hj
    have hm := s_made1 (A := A') (F := F') (nw := nw) (nx := nx) (LO := LO) (DO := DO) (d := d + 3) (j := j) (by omega)
    refine gm_mk gm_mX6_empty rfl ⟨Or.inr rfl, rfl, rfl, trivial⟩ (fun G X hC hX => ?_)
    refine gm_runs hC [] 200 _ _ _ _ _ _ ?_
    exact Or.inl ⟨_, _, _, _, a5, Or.inl ⟨_, _, _, _, hm, hX⟩⟩
  · rw [hj] at a5
    have hm := s_made2 (A := A') (F := F') (nw := nw) (nx := nx) (LO := LO) (DO := DO) (d := d + 3)
    refine gm_mk gm_mX6_empty rfl ⟨Or.inr rfl, rfl, rfl, rfl, rfl, gm_plain⟩ (fun G X hC hX => ?_)
    refine gm_runs hC [] 200 _ _ _ _ _ _ ?_
    exact Or.inl ⟨_, _, _, _, a5, Or.inr ⟨_, _, _, _, hm, hX⟩⟩
theorem f_universe (hR : gRp A rows sp) (hF : F 0 = nI rows.length) : ∃ A' F' sp', gRp A' (rMk rows sp 49 (-1) (-1)).2 sp' ∧ F' 0 = nI (rMk rows sp 49 (-1) (-1)).2.length ∧ gML rows sp 49 (-1) (-1) sp' ∧ gKt A F A' F' ∧ (∀ j, (rMk rows sp 49 (-1) (-1)).1 = some j → gm_Sp gm_MT (d + 5) 7003 [.ref 0] (gw A F nw nx LO DO) (.inl (some (.int (nI j)))) (gw A' F' nw nx LO DO) 0 0) ∧ ((rMk rows sp 49 (-1) (-1)).1 = none → gm_Sp gm_MT (d + 5) 7003 [.ref 0] (gw A F nw nx LO DO) (.inr "java/lang/IllegalStateException") (gw A' F' nw nx LO DO) 1 6) := by
  obtain ⟨A', F', sp', a1, a2, a3, a4, a5⟩ := s_makeM (nw := nw) (nx := nx) (LO := LO) (DO := DO) (d := d) hR hF (k := 49) (l := -1) (r := -1) ⟨by simp [gSg], Or.inl ⟨by decide, rfl, rfl⟩⟩
  have hn := a1.1.1
  refine ⟨A', F', sp', a1, a2, a3, a4, fun j hj => ?_, fun hj => ?_⟩
  · rw [hj] at a5
    have hlt := a3.2.2 j hj
    have hm := s_made1 (A := A') (F := F') (nw := nw) (nx := nx) (LO := LO) (DO := DO) (d := d + 3) (j := j) (by omega)
    refine gm_mk gm_mX6_universe rfl ⟨Or.inr rfl, rfl, rfl, trivial⟩ (fun G X hC hX => ?_)
    refine gm_runs hC [] 200 _ _ _ _ _ _ ?_
    exact Or.inl ⟨_, _, _, _, a5, Or.inl ⟨_, _, _, _, hm, hX⟩⟩
  · rw [hj] at a5
    have hm := s_made2 (A := A') (F := F') (nw := nw) (nx := nx) (LO := LO) (DO := DO) (d := d + 3)
    refine gm_mk gm_mX6_universe rfl ⟨Or.inr rfl, rfl, rfl, rfl, rfl, gm_plain⟩ (fun G X hC hX => ?_)
    refine gm_runs hC [] 200 _ _ _ _ _ _ ?_
    exact Or.inl ⟨_, _, _, _, a5, Or.inr ⟨_, _, _, _, hm, hX⟩⟩
theorem f_letter1 (hR : gRp A rows sp) (hF : F 0 = nI rows.length) {i : Nat} (hi : i < 4) : ∃ A' F' sp', gRp A' (rMk rows sp (nI (97 + i)) (-1) (-1)).2 sp' ∧ F' 0 = nI (rMk rows sp (nI (97 + i)) (-1) (-1)).2.length ∧ gML rows sp (nI (97 + i)) (-1) (-1) sp' ∧ gKt A F A' F' ∧ (∀ j, (rMk rows sp (nI (97 + i)) (-1) (-1)).1 = some j → gm_Sp gm_MT (d + 5) 7001 [.ref 0, .int (nI i)] (gw A F nw nx LO DO) (.inl (some (.int (nI j)))) (gw A' F' nw nx LO DO) 0 0) ∧ ((rMk rows sp (nI (97 + i)) (-1) (-1)).1 = none → gm_Sp gm_MT (d + 5) 7001 [.ref 0, .int (nI i)] (gw A F nw nx LO DO) (.inr "java/lang/IllegalStateException") (gw A' F' nw nx LO DO) 1 6) := by
  obtain ⟨A', F', sp', a1, a2, a3, a4, a5⟩ := s_makeM (nw := nw) (nx := nx) (LO := LO) (DO := DO) (d := d) hR hF (gSh_lt (n := rows.length) hi)
  have hn := a1.1.1
  have hc := s_checkLetter1 (A := A) (F := F) (nw := nw) (nx := nx) (LO := LO) (DO := DO) (d := d + 3) (x := nI i) (nI_pos' (by omega)) (nI_lt (b := 4) hi (by decide))
  rw [← (nI_97 hi).1] at a5
  refine ⟨A', F', sp', a1, a2, a3, a4, fun j hj => ?_, fun hj => ?_⟩
  · rw [← (nI_97 hi).1] at hj
    rw [hj] at a5
    rw [(nI_97 hi).1] at hj
    have hlt := a3.2.2 j hj
    have hm := s_made1 (A := A') (F := F') (nw := nw) (nx := nx) (LO := LO) (DO := DO) (d := d + 3) (j := j) (by omega)
    refine gm_mk gm_mX6_letter rfl ⟨Or.inr rfl, rfl, rfl, trivial⟩ (fun G X hC hX => ?_)
    refine gm_runs hC [] 200 _ _ _ _ _ _ ?_
    exact Or.inl ⟨_, _, _, _, hc, Or.inl ⟨_, _, _, _, a5, Or.inl ⟨_, _, _, _, hm, hX⟩⟩⟩
  · rw [← (nI_97 hi).1] at hj
    rw [hj] at a5
    have hm := s_made2 (A := A') (F := F') (nw := nw) (nx := nx) (LO := LO) (DO := DO) (d := d + 3)
    refine gm_mk gm_mX6_letter rfl ⟨Or.inr rfl, rfl, rfl, rfl, rfl, gm_plain⟩ (fun G X hC hX => ?_)
    refine gm_runs hC [] 200 _ _ _ _ _ _ ?_
    exact Or.inl ⟨_, _, _, _, hc, Or.inl ⟨_, _, _, _, a5, Or.inr ⟨_, _, _, _, hm, hX⟩⟩⟩
theorem f_letter2 {x : Int32} (h : ¬ (0 ≤ x ∧ x < 4)) : gm_Sp gm_MT (d + 5) 7001 [.ref 0, .int x] (gw A F nw nx LO DO) (.inr "java/lang/IllegalArgumentException") (gw A F nw nx LO DO) 1 6 := by
  have hc := s_checkLetter2 (A := A) (F := F) (nw := nw) (nx := nx) (LO := LO) (DO := DO) (d := d + 3) h
  refine gm_mk gm_mX6_letter rfl ⟨Or.inr rfl, rfl, rfl, rfl, rfl, gm_plain⟩ (fun G X hC hX => ?_)
  refine gm_runs hC [] 200 _ _ _ _ _ _ ?_
  exact Or.inr ⟨_, _, _, _, hc, hX⟩
theorem f_complement1 (hR : gRp A rows sp) (hF : F 0 = nI rows.length) {t : Nat} (ht : t < rows.length) : ∃ A' F' sp', gRp A' (rMk rows sp 67 (nI t) (-1)).2 sp' ∧ F' 0 = nI (rMk rows sp 67 (nI t) (-1)).2.length ∧ gML rows sp 67 (nI t) (-1) sp' ∧ gKt A F A' F' ∧ (∀ j, (rMk rows sp 67 (nI t) (-1)).1 = some j → gm_Sp gm_MT (d + 5) 7004 [.ref 0, .int (nI t)] (gw A F nw nx LO DO) (.inl (some (.int (nI j)))) (gw A' F' nw nx LO DO) 0 0) ∧ ((rMk rows sp 67 (nI t) (-1)).1 = none → gm_Sp gm_MT (d + 5) 7004 [.ref 0, .int (nI t)] (gw A F nw nx LO DO) (.inr "java/lang/IllegalStateException") (gw A' F' nw nx LO DO) 1 6) := by
  obtain ⟨A', F', sp', a1, a2, a3, a4, a5⟩ := s_makeM (nw := nw) (nx := nx) (LO := LO) (DO := DO) (d := d) hR hF (k := 67) (l := nI t) (r := -1) ⟨gSg_67, Or.inr (Or.inl ⟨by decide, rfl, t, ht, rfl⟩)⟩
  have hn := a1.1.1
  have hc := s_checkTerm1 (A := A) (F := F) (nw := nw) (nx := nx) (LO := LO) (DO := DO) (d := d + 2) hR.1.1 hF ht
  refine ⟨A', F', sp', a1, a2, a3, a4, fun j hj => ?_, fun hj => ?_⟩
  · rw [hj] at a5
    have hlt := a3.2.2 j hj
    have hm := s_made1 (A := A') (F := F') (nw := nw) (nx := nx) (LO := LO) (DO := DO) (d := d + 3) (j := j) (by omega)
    refine gm_mk gm_mX6_complement rfl ⟨Or.inr rfl, rfl, rfl, trivial⟩ (fun G X hC hX => ?_)
    refine gm_runs hC [] 200 _ _ _ _ _ _ ?_
    exact Or.inl ⟨_, _, _, _, hc, Or.inl ⟨_, _, _, _, a5, Or.inl ⟨_, _, _, _, hm, hX⟩⟩⟩
  · rw [hj] at a5
    have hm := s_made2 (A := A') (F := F') (nw := nw) (nx := nx) (LO := LO) (DO := DO) (d := d + 3)
    refine gm_mk gm_mX6_complement rfl ⟨Or.inr rfl, rfl, rfl, rfl, rfl, gm_plain⟩ (fun G X hC hX => ?_)
    refine gm_runs hC [] 200 _ _ _ _ _ _ ?_
    exact Or.inl ⟨_, _, _, _, hc, Or.inl ⟨_, _, _, _, a5, Or.inr ⟨_, _, _, _, hm, hX⟩⟩⟩
theorem f_pair1 (hR : gRp A rows sp) (hF : F 0 = nI rows.length) {k : Int32} (hk : gSg k) (hk2 : tAr k = 2) {a b : Nat} (ha : a < rows.length) (hb : b < rows.length) : ∃ A' F' sp', gRp A' (rMk rows sp k (nI a) (nI b)).2 sp' ∧ F' 0 = nI (rMk rows sp k (nI a) (nI b)).2.length ∧ gML rows sp k (nI a) (nI b) sp' ∧ gKt A F A' F' ∧ (∀ j, (rMk rows sp k (nI a) (nI b)).1 = some j → gm_Sp gm_MT (d + 5) 7012 [.ref 0, .int k, .int (nI a), .int (nI b)] (gw A F nw nx LO DO) (.inl (some (.int (nI j)))) (gw A' F' nw nx LO DO) 0 0) ∧ ((rMk rows sp k (nI a) (nI b)).1 = none → gm_Sp gm_MT (d + 5) 7012 [.ref 0, .int k, .int (nI a), .int (nI b)] (gw A F nw nx LO DO) (.inr "java/lang/IllegalStateException") (gw A' F' nw nx LO DO) 1 6) := by
  obtain ⟨A', F', sp', a1, a2, a3, a4, a5⟩ := s_makeM (nw := nw) (nx := nx) (LO := LO) (DO := DO) (d := d) hR hF (k := k) (l := nI a) (r := nI b) ⟨hk, Or.inr (Or.inr ⟨hk2, a, b, ha, hb, rfl, rfl⟩)⟩
  have hn := a1.1.1
  have hc := s_checkTerm1 (A := A) (F := F) (nw := nw) (nx := nx) (LO := LO) (DO := DO) (d := d + 2) hR.1.1 hF ha
  have hc2 := s_checkTerm1 (A := A) (F := F) (nw := nw) (nx := nx) (LO := LO) (DO := DO) (d := d + 2) hR.1.1 hF hb
  refine ⟨A', F', sp', a1, a2, a3, a4, fun j hj => ?_, fun hj => ?_⟩
  · rw [hj] at a5
    have hlt := a3.2.2 j hj
    have hm := s_made1 (A := A') (F := F') (nw := nw) (nx := nx) (LO := LO) (DO := DO) (d := d + 3) (j := j) (by omega)
    refine gm_mk gm_mX6_makePair rfl ⟨Or.inr rfl, rfl, rfl, trivial⟩ (fun G X hC hX => ?_)
    refine gm_runs hC [] 200 _ _ _ _ _ _ ?_
    exact Or.inl ⟨_, _, _, _, hc, Or.inl ⟨_, _, _, _, hc2, Or.inl ⟨_, _, _, _, a5, Or.inl ⟨_, _, _, _, hm, hX⟩⟩⟩⟩
  · rw [hj] at a5
    have hm := s_made2 (A := A') (F := F') (nw := nw) (nx := nx) (LO := LO) (DO := DO) (d := d + 3)
    refine gm_mk gm_mX6_makePair rfl ⟨Or.inr rfl, rfl, rfl, rfl, rfl, gm_plain⟩ (fun G X hC hX => ?_)
    refine gm_runs hC [] 200 _ _ _ _ _ _ ?_
    exact Or.inl ⟨_, _, _, _, hc, Or.inl ⟨_, _, _, _, hc2, Or.inl ⟨_, _, _, _, a5, Or.inr ⟨_, _, _, _, hm, hX⟩⟩⟩⟩
theorem f_pair2 {k x y : Int32} {n : Nat} (hn : n ≤ 120) (hF : F 0 = nI n) (hxy : gT n x = none ∨ gT n y = none) : gm_Sp gm_MT (d + 5) 7012 [.ref 0, .int k, .int x, .int y] (gw A F nw nx LO DO) (.inr "java/lang/IndexOutOfBoundsException") (gw A F nw nx LO DO) 1 6 := by
  refine gm_mk gm_mX6_makePair rfl ⟨Or.inr rfl, rfl, rfl, rfl, rfl, gm_plain⟩ (fun G X hC hX => ?_)
  rcases gT_cases x hn with ⟨a, ha, rfl, -⟩ | ⟨hx, -⟩
  · have ca := s_checkTerm1 (A := A) (F := F) (nw := nw) (nx := nx) (LO := LO) (DO := DO) (d := d + 2) hn hF ha
    have hy : gT n y = none := hxy.elim (fun z => by rw [gT_nI ha hn] at z; cases z) id
    have cb := s_checkTerm2 (A := A) (F := F) (nw := nw) (nx := nx) (LO := LO) (DO := DO) (d := d + 2) hn hF hy
    refine gm_runs hC [] 200 _ _ _ _ _ _ ?_
    exact Or.inl ⟨_, _, _, _, ca, Or.inr ⟨_, _, _, _, cb, hX⟩⟩
  · have ca := s_checkTerm2 (A := A) (F := F) (nw := nw) (nx := nx) (LO := LO) (DO := DO) (d := d + 2) hn hF hx
    refine gm_runs hC [] 200 _ _ _ _ _ _ ?_
    exact Or.inr ⟨_, _, _, _, ca, hX⟩
theorem f_union {x y v : Int32} {h1 : pH} (h : gm_Sp gm_MT (d + 5) 7012 [.ref 0, .int 85, .int x, .int y] (gw A F nw nx LO DO) (.inl (some (.int v))) h1 0 0) (hl : (gw A F nw nx LO DO).length = h1.length) : gm_Sp gm_MT (d + 6) 7005 [.ref 0, .int x, .int y] (gw A F nw nx LO DO) (.inl (some (.int v))) h1 0 0 := by
  refine gm_mk gm_mX6_union rfl ⟨Or.inr hl.symm, rfl, rfl, trivial⟩ (fun G X hC hX => ?_)
  refine gm_runs hC [] 200 _ _ _ _ _ _ ?_
  exact Or.inl ⟨_, _, _, _, h, hX⟩
theorem f_union_x {x y : Int32} {E : String} {h1 : pH} (h : gm_Sp gm_MT (d + 5) 7012 [.ref 0, .int 85, .int x, .int y] (gw A F nw nx LO DO) (.inr E) h1 1 6) (hl : (gw A F nw nx LO DO).length = h1.length) : gm_Sp gm_MT (d + 6) 7005 [.ref 0, .int x, .int y] (gw A F nw nx LO DO) (.inr E) h1 1 6 := by
  refine gm_mk gm_mX6_union rfl ⟨Or.inr hl.symm, rfl, rfl, rfl, hl.symm, gm_plain⟩ (fun G X hC hX => ?_)
  refine gm_runs hC [] 200 _ _ _ _ _ _ ?_
  exact Or.inr ⟨_, _, _, _, h, hX⟩
theorem f_intersection {x y v : Int32} {h1 : pH} (h : gm_Sp gm_MT (d + 5) 7012 [.ref 0, .int 73, .int x, .int y] (gw A F nw nx LO DO) (.inl (some (.int v))) h1 0 0) (hl : (gw A F nw nx LO DO).length = h1.length) : gm_Sp gm_MT (d + 6) 7006 [.ref 0, .int x, .int y] (gw A F nw nx LO DO) (.inl (some (.int v))) h1 0 0 := by
  refine gm_mk gm_mX6_intersection rfl ⟨Or.inr hl.symm, rfl, rfl, trivial⟩ (fun G X hC hX => ?_)
  refine gm_runs hC [] 200 _ _ _ _ _ _ ?_
  exact Or.inl ⟨_, _, _, _, h, hX⟩
theorem f_intersection_x {x y : Int32} {E : String} {h1 : pH} (h : gm_Sp gm_MT (d + 5) 7012 [.ref 0, .int 73, .int x, .int y] (gw A F nw nx LO DO) (.inr E) h1 1 6) (hl : (gw A F nw nx LO DO).length = h1.length) : gm_Sp gm_MT (d + 6) 7006 [.ref 0, .int x, .int y] (gw A F nw nx LO DO) (.inr E) h1 1 6 := by
  refine gm_mk gm_mX6_intersection rfl ⟨Or.inr hl.symm, rfl, rfl, rfl, hl.symm, gm_plain⟩ (fun G X hC hX => ?_)
  refine gm_runs hC [] 200 _ _ _ _ _ _ ?_
  exact Or.inr ⟨_, _, _, _, h, hX⟩
theorem f_difference {x y v : Int32} {h1 : pH} (h : gm_Sp gm_MT (d + 5) 7012 [.ref 0, .int 68, .int x, .int y] (gw A F nw nx LO DO) (.inl (some (.int v))) h1 0 0) (hl : (gw A F nw nx LO DO).length = h1.length) : gm_Sp gm_MT (d + 6) 7007 [.ref 0, .int x, .int y] (gw A F nw nx LO DO) (.inl (some (.int v))) h1 0 0 := by
  refine gm_mk gm_mX6_difference rfl ⟨Or.inr hl.symm, rfl, rfl, trivial⟩ (fun G X hC hX => ?_)
  refine gm_runs hC [] 200 _ _ _ _ _ _ ?_
  exact Or.inl ⟨_, _, _, _, h, hX⟩
theorem f_difference_x {x y : Int32} {E : String} {h1 : pH} (h : gm_Sp gm_MT (d + 5) 7012 [.ref 0, .int 68, .int x, .int y] (gw A F nw nx LO DO) (.inr E) h1 1 6) (hl : (gw A F nw nx LO DO).length = h1.length) : gm_Sp gm_MT (d + 6) 7007 [.ref 0, .int x, .int y] (gw A F nw nx LO DO) (.inr E) h1 1 6 := by
  refine gm_mk gm_mX6_difference rfl ⟨Or.inr hl.symm, rfl, rfl, rfl, hl.symm, gm_plain⟩ (fun G X hC hX => ?_)
  refine gm_runs hC [] 200 _ _ _ _ _ _ ?_
  exact Or.inr ⟨_, _, _, _, h, hX⟩
theorem f_symmetric {x y v : Int32} {h1 : pH} (h : gm_Sp gm_MT (d + 5) 7012 [.ref 0, .int 83, .int x, .int y] (gw A F nw nx LO DO) (.inl (some (.int v))) h1 0 0) (hl : (gw A F nw nx LO DO).length = h1.length) : gm_Sp gm_MT (d + 6) 7008 [.ref 0, .int x, .int y] (gw A F nw nx LO DO) (.inl (some (.int v))) h1 0 0 := by
  refine gm_mk gm_mX6_symmetric rfl ⟨Or.inr hl.symm, rfl, rfl, trivial⟩ (fun G X hC hX => ?_)
  refine gm_runs hC [] 200 _ _ _ _ _ _ ?_
  exact Or.inl ⟨_, _, _, _, h, hX⟩
theorem f_symmetric_x {x y : Int32} {E : String} {h1 : pH} (h : gm_Sp gm_MT (d + 5) 7012 [.ref 0, .int 83, .int x, .int y] (gw A F nw nx LO DO) (.inr E) h1 1 6) (hl : (gw A F nw nx LO DO).length = h1.length) : gm_Sp gm_MT (d + 6) 7008 [.ref 0, .int x, .int y] (gw A F nw nx LO DO) (.inr E) h1 1 6 := by
  refine gm_mk gm_mX6_symmetric rfl ⟨Or.inr hl.symm, rfl, rfl, rfl, hl.symm, gm_plain⟩ (fun G X hC hX => ?_)
  refine gm_runs hC [] 200 _ _ _ _ _ _ ?_
  exact Or.inr ⟨_, _, _, _, h, hX⟩
theorem f_complement_b {x : Int32} {n : Nat} (hn : n ≤ 120) (hF : F 0 = nI n) (hx : gT n x = none) : gm_Sp gm_MT (d + 5) 7004 [.ref 0, .int x] (gw A F nw nx LO DO) (.inr "java/lang/IndexOutOfBoundsException") (gw A F nw nx LO DO) 1 6 := by
  have ca := s_checkTerm2 (A := A) (F := F) (nw := nw) (nx := nx) (LO := LO) (DO := DO) (d := d + 2) hn hF hx
  refine gm_mk gm_mX6_complement rfl ⟨Or.inr rfl, rfl, rfl, rfl, rfl, gm_plain⟩ (fun G X hC hX => ?_)
  refine gm_runs hC [] 200 _ _ _ _ _ _ ?_
  exact Or.inr ⟨_, _, _, _, ca, hX⟩
theorem f_size_b {x : Int32} {n : Nat} (hn : n ≤ 120) (hF : F 0 = nI n) (hx : gT n x = none) : gm_Sp gm_MT (d + 5) 7010 [.ref 0, .int x] (gw A F nw nx LO DO) (.inr "java/lang/IndexOutOfBoundsException") (gw A F nw nx LO DO) 1 6 := by
  have ca := s_checkTerm2 (A := A) (F := F) (nw := nw) (nx := nx) (LO := LO) (DO := DO) (d := d + 2) hn hF hx
  refine gm_mk gm_mX6_size rfl ⟨Or.inr rfl, rfl, rfl, rfl, rfl, gm_plain⟩ (fun G X hC hX => ?_)
  refine gm_runs hC [] 200 _ _ _ _ _ _ ?_
  exact Or.inr ⟨_, _, _, _, ca, hX⟩
theorem f_symbol_b {x : Int32} {y : Int32} {n : Nat} (hn : n ≤ 120) (hF : F 0 = nI n) (hx : gT n x = none) : gm_Sp gm_MT (d + 5) 7011 [.ref 0, .int x, .int y] (gw A F nw nx LO DO) (.inr "java/lang/IndexOutOfBoundsException") (gw A F nw nx LO DO) 1 6 := by
  have ca := s_checkTerm2 (A := A) (F := F) (nw := nw) (nx := nx) (LO := LO) (DO := DO) (d := d + 2) hn hF hx
  refine gm_mk gm_mX6_symbol rfl ⟨Or.inr rfl, rfl, rfl, rfl, rfl, gm_plain⟩ (fun G X hC hX => ?_)
  refine gm_runs hC [] 200 _ _ _ _ _ _ ?_
  exact Or.inr ⟨_, _, _, _, ca, hX⟩
theorem f_regions_b {x : Int32} {n : Nat} (hn : n ≤ 120) (hF : F 0 = nI n) (hx : gT n x = none) : gm_Sp gm_MT (d + 5) 7017 [.ref 0, .int x] (gw A F nw nx LO DO) (.inr "java/lang/IndexOutOfBoundsException") (gw A F nw nx LO DO) 1 6 := by
  have ca := s_checkTerm2 (A := A) (F := F) (nw := nw) (nx := nx) (LO := LO) (DO := DO) (d := d + 2) hn hF hx
  refine gm_mk gm_mX6_regions rfl ⟨Or.inr rfl, rfl, rfl, rfl, rfl, gm_plain⟩ (fun G X hC hX => ?_)
  refine gm_runs hC [] 200 _ _ _ _ _ _ ?_
  exact Or.inr ⟨_, _, _, _, ca, hX⟩
theorem f_covers_b {x : Int32} {y : Int32} {n : Nat} (hn : n ≤ 120) (hF : F 0 = nI n) (hx : gT n x = none) : gm_Sp gm_MT (d + 5) 7018 [.ref 0, .int x, .int y] (gw A F nw nx LO DO) (.inr "java/lang/IndexOutOfBoundsException") (gw A F nw nx LO DO) 1 6 := by
  have ca := s_checkTerm2 (A := A) (F := F) (nw := nw) (nx := nx) (LO := LO) (DO := DO) (d := d + 2) hn hF hx
  refine gm_mk gm_mX6_covers rfl ⟨Or.inr rfl, rfl, rfl, rfl, rfl, gm_plain⟩ (fun G X hC hX => ?_)
  refine gm_runs hC [] 200 _ _ _ _ _ _ ?_
  exact Or.inr ⟨_, _, _, _, ca, hX⟩
theorem f_coversByTerm_b {x : Int32} {y : Int32} {n : Nat} (hn : n ≤ 120) (hF : F 0 = nI n) (hx : gT n x = none) : gm_Sp gm_MT (d + 5) 7019 [.ref 0, .int x, .int y] (gw A F nw nx LO DO) (.inr "java/lang/IndexOutOfBoundsException") (gw A F nw nx LO DO) 1 6 := by
  have ca := s_checkTerm2 (A := A) (F := F) (nw := nw) (nx := nx) (LO := LO) (DO := DO) (d := d + 2) hn hF hx
  refine gm_mk gm_mX6_coversByTerm rfl ⟨Or.inr rfl, rfl, rfl, rfl, rfl, gm_plain⟩ (fun G X hC hX => ?_)
  refine gm_runs hC [] 200 _ _ _ _ _ _ ?_
  exact Or.inr ⟨_, _, _, _, ca, hX⟩
theorem f_rule_b {x : Int32} {n : Nat} (hn : n ≤ 120) (hF : F 0 = nI n) (hx : gT n x = none) : gm_Sp gm_MT (d + 5) 7022 [.ref 0, .int x] (gw A F nw nx LO DO) (.inr "java/lang/IndexOutOfBoundsException") (gw A F nw nx LO DO) 1 6 := by
  have ca := s_checkTerm2 (A := A) (F := F) (nw := nw) (nx := nx) (LO := LO) (DO := DO) (d := d + 2) hn hF hx
  refine gm_mk gm_mX6_rule rfl ⟨Or.inr rfl, rfl, rfl, rfl, rfl, gm_plain⟩ (fun G X hC hX => ?_)
  refine gm_runs hC [] 200 _ _ _ _ _ _ ?_
  exact Or.inr ⟨_, _, _, _, ca, hX⟩
theorem f_step_b {x : Int32} {n : Nat} (hn : n ≤ 120) (hF : F 0 = nI n) (hx : gT n x = none) : gm_Sp gm_MT (d + 5) 7023 [.ref 0, .int x] (gw A F nw nx LO DO) (.inr "java/lang/IndexOutOfBoundsException") (gw A F nw nx LO DO) 1 6 := by
  have ca := s_checkTerm2 (A := A) (F := F) (nw := nw) (nx := nx) (LO := LO) (DO := DO) (d := d + 2) hn hF hx
  refine gm_mk gm_mX6_step rfl ⟨Or.inr rfl, rfl, rfl, rfl, rfl, gm_plain⟩ (fun G X hC hX => ?_)
  refine gm_runs hC [] 200 _ _ _ _ _ _ ?_
  exact Or.inr ⟨_, _, _, _, ca, hX⟩
theorem f_steps_b {x : Int32} {n : Nat} (hn : n ≤ 120) (hF : F 0 = nI n) (hx : gT n x = none) : gm_Sp gm_MT (d + 5) 7024 [.ref 0, .int x] (gw A F nw nx LO DO) (.inr "java/lang/IndexOutOfBoundsException") (gw A F nw nx LO DO) 1 6 := by
  have ca := s_checkTerm2 (A := A) (F := F) (nw := nw) (nx := nx) (LO := LO) (DO := DO) (d := d + 2) hn hF hx
  refine gm_mk gm_mX6_steps rfl ⟨Or.inr rfl, rfl, rfl, rfl, rfl, gm_plain⟩ (fun G X hC hX => ?_)
  refine gm_runs hC [] 200 _ _ _ _ _ _ ?_
  exact Or.inr ⟨_, _, _, _, ca, hX⟩
theorem f_normalForm_b {x : Int32} {n : Nat} (hn : n ≤ 120) (hF : F 0 = nI n) (hx : gT n x = none) : gm_Sp gm_MT (d + 5) 7025 [.ref 0, .int x] (gw A F nw nx LO DO) (.inr "java/lang/IndexOutOfBoundsException") (gw A F nw nx LO DO) 1 6 := by
  have ca := s_checkTerm2 (A := A) (F := F) (nw := nw) (nx := nx) (LO := LO) (DO := DO) (d := d + 2) hn hF hx
  refine gm_mk gm_mX6_normalForm rfl ⟨Or.inr rfl, rfl, rfl, rfl, rfl, gm_plain⟩ (fun G X hC hX => ?_)
  refine gm_runs hC [] 200 _ _ _ _ _ _ ?_
  exact Or.inr ⟨_, _, _, _, ca, hX⟩
theorem f_primes_b {x : Int32} {n : Nat} (hn : n ≤ 120) (hF : F 0 = nI n) (hx : gT n x = none) : gm_Sp gm_MT (d + 5) 7026 [.ref 0, .int x] (gw A F nw nx LO DO) (.inr "java/lang/IndexOutOfBoundsException") (gw A F nw nx LO DO) 1 6 := by
  have ca := s_checkTerm2 (A := A) (F := F) (nw := nw) (nx := nx) (LO := LO) (DO := DO) (d := d + 2) hn hF hx
  refine gm_mk gm_mX6_primes rfl ⟨Or.inr rfl, rfl, rfl, rfl, rfl, gm_plain⟩ (fun G X hC hX => ?_)
  refine gm_runs hC [] 200 _ _ _ _ _ _ ?_
  exact Or.inr ⟨_, _, _, _, ca, hX⟩
theorem f_primesByTrying_b {x : Int32} {n : Nat} (hn : n ≤ 120) (hF : F 0 = nI n) (hx : gT n x = none) : gm_Sp gm_MT (d + 5) 7027 [.ref 0, .int x] (gw A F nw nx LO DO) (.inr "java/lang/IndexOutOfBoundsException") (gw A F nw nx LO DO) 1 6 := by
  have ca := s_checkTerm2 (A := A) (F := F) (nw := nw) (nx := nx) (LO := LO) (DO := DO) (d := d + 2) hn hF hx
  refine gm_mk gm_mX6_primesByTrying rfl ⟨Or.inr rfl, rfl, rfl, rfl, rfl, gm_plain⟩ (fun G X hC hX => ?_)
  refine gm_runs hC [] 200 _ _ _ _ _ _ ?_
  exact Or.inr ⟨_, _, _, _, ca, hX⟩
theorem f_prime_b {x : Int32} {y z : Int32} {n : Nat} (hn : n ≤ 120) (hF : F 0 = nI n) (hx : gT n x = none) : gm_Sp gm_MT (d + 5) 7028 [.ref 0, .int x, .int y, .int z] (gw A F nw nx LO DO) (.inr "java/lang/IndexOutOfBoundsException") (gw A F nw nx LO DO) 1 6 := by
  have ca := s_checkTerm2 (A := A) (F := F) (nw := nw) (nx := nx) (LO := LO) (DO := DO) (d := d + 2) hn hF hx
  refine gm_mk gm_mX6_prime rfl ⟨Or.inr rfl, rfl, rfl, rfl, rfl, gm_plain⟩ (fun G X hC hX => ?_)
  refine gm_runs hC [] 200 _ _ _ _ _ _ ?_
  exact Or.inr ⟨_, _, _, _, ca, hX⟩
theorem f_density_b {x : Int32} {n : Nat} (hn : n ≤ 120) (hF : F 0 = nI n) (hx : gT n x = none) : gm_Sp gm_MT (d + 5) 7050 [.ref 0, .int x] (gw A F nw nx LO DO) (.inr "java/lang/IndexOutOfBoundsException") (gw A F nw nx LO DO) 1 6 := by
  have ca := s_checkTerm2 (A := A) (F := F) (nw := nw) (nx := nx) (LO := LO) (DO := DO) (d := d + 2) hn hF hx
  refine gm_mk gm_mX6_density rfl ⟨Or.inr rfl, rfl, rfl, rfl, rfl, gm_plain⟩ (fun G X hC hX => ?_)
  refine gm_runs hC [] 200 _ _ _ _ _ _ ?_
  exact Or.inr ⟨_, _, _, _, ca, hX⟩
theorem m_complement_b {x : Int32} {n : Nat} (hn : n ≤ 120) (hF : F 21 = nI n) (hx : gT n x = none) : gm_Sp gm_MT (d + 5) 8013 [.ref 24, .int x] (gw A F nw nx LO DO) (.inl (some (.int 0))) (gw A (va_up F 20 1) nw nx LO DO) 0 0 := by
  have ca := s_noTerm2 (A := A) (F := F) (nw := nw) (nx := nx) (LO := LO) (DO := DO) (d := d + 2) hn hF hx
  refine gm_mk gm_mX7_complement rfl ⟨Or.inr rfl, rfl, rfl, trivial⟩ (fun G X hC hX => ?_)
  refine gm_runs hC [] 200 _ _ _ _ _ _ ?_
  exact Or.inl ⟨_, _, _, _, ca, gx_f (show ¬ (1 : Int32) = 0 from by decide) hX⟩
theorem m_size_b {x : Int32} {n : Nat} (hn : n ≤ 120) (hF : F 21 = nI n) (hx : gT n x = none) : gm_Sp gm_MT (d + 5) 8020 [.ref 24, .int x] (gw A F nw nx LO DO) (.inl (some (.int 0))) (gw A (va_up F 20 1) nw nx LO DO) 0 0 := by
  have ca := s_noTerm2 (A := A) (F := F) (nw := nw) (nx := nx) (LO := LO) (DO := DO) (d := d + 2) hn hF hx
  refine gm_mk gm_mX7_size rfl ⟨Or.inr rfl, rfl, rfl, trivial⟩ (fun G X hC hX => ?_)
  refine gm_runs hC [] 200 _ _ _ _ _ _ ?_
  exact Or.inl ⟨_, _, _, _, ca, gx_f (show ¬ (1 : Int32) = 0 from by decide) hX⟩
theorem m_symbol_b {x : Int32} {y : Int32} {n : Nat} (hn : n ≤ 120) (hF : F 21 = nI n) (hx : gT n x = none) : gm_Sp gm_MT (d + 5) 8023 [.ref 24, .int x, .int y] (gw A F nw nx LO DO) (.inl (some (.int 97))) (gw A (va_up F 20 1) nw nx LO DO) 0 0 := by
  have ca := s_noTerm2 (A := A) (F := F) (nw := nw) (nx := nx) (LO := LO) (DO := DO) (d := d + 2) hn hF hx
  refine gm_mk gm_mX7_symbol rfl ⟨Or.inr rfl, rfl, rfl, trivial⟩ (fun G X hC hX => ?_)
  refine gm_runs hC [] 200 _ _ _ _ _ _ ?_
  exact Or.inl ⟨_, _, _, _, ca, gx_f (show ¬ (1 : Int32) = 0 from by decide) (gx_c (r := 97) hX (by decide) rfl rfl)⟩
theorem m_regions_b {x : Int32} {n : Nat} (hn : n ≤ 120) (hF : F 21 = nI n) (hx : gT n x = none) : gm_Sp gm_MT (d + 5) 8024 [.ref 24, .int x] (gw A F nw nx LO DO) (.inl (some (.int 0))) (gw A (va_up F 20 1) nw nx LO DO) 0 0 := by
  have ca := s_noTerm2 (A := A) (F := F) (nw := nw) (nx := nx) (LO := LO) (DO := DO) (d := d + 2) hn hF hx
  refine gm_mk gm_mX7_regions rfl ⟨Or.inr rfl, rfl, rfl, trivial⟩ (fun G X hC hX => ?_)
  refine gm_runs hC [] 200 _ _ _ _ _ _ ?_
  exact Or.inl ⟨_, _, _, _, ca, gx_f (show ¬ (1 : Int32) = 0 from by decide) hX⟩
theorem m_covers_b {x : Int32} {y : Int32} {n : Nat} (hn : n ≤ 120) (hF : F 21 = nI n) (hx : gT n x = none) : gm_Sp gm_MT (d + 5) 8025 [.ref 24, .int x, .int y] (gw A F nw nx LO DO) (.inl (some (.int 0))) (gw A (va_up F 20 1) nw nx LO DO) 0 0 := by
  have ca := s_noTerm2 (A := A) (F := F) (nw := nw) (nx := nx) (LO := LO) (DO := DO) (d := d + 2) hn hF hx
  refine gm_mk gm_mX7_covers rfl ⟨Or.inr rfl, rfl, rfl, trivial⟩ (fun G X hC hX => ?_)
  refine gm_runs hC [] 200 _ _ _ _ _ _ ?_
  exact Or.inl ⟨_, _, _, _, ca, gx_f (show ¬ (1 : Int32) = 0 from by decide) (gx_z hX (Or.inl rfl) rfl rfl)⟩
theorem m_rule_b {x : Int32} {n : Nat} (hn : n ≤ 120) (hF : F 21 = nI n) (hx : gT n x = none) : gm_Sp gm_MT (d + 5) 8037 [.ref 24, .int x] (gw A F nw nx LO DO) (.inl (some (.int 110))) (gw A (va_up F 20 1) nw nx LO DO) 0 0 := by
  have ca := s_noTerm2 (A := A) (F := F) (nw := nw) (nx := nx) (LO := LO) (DO := DO) (d := d + 2) hn hF hx
  refine gm_mk gm_mX7_rule rfl ⟨Or.inr rfl, rfl, rfl, trivial⟩ (fun G X hC hX => ?_)
  refine gm_runs hC [] 200 _ _ _ _ _ _ ?_
  exact Or.inl ⟨_, _, _, _, ca, gx_f (show ¬ (1 : Int32) = 0 from by decide) (gx_c (r := 110) hX (by decide) rfl rfl)⟩
theorem m_step_b {x : Int32} {n : Nat} (hn : n ≤ 120) (hF : F 21 = nI n) (hx : gT n x = none) : gm_Sp gm_MT (d + 5) 8038 [.ref 24, .int x] (gw A F nw nx LO DO) (.inl (some (.int 0))) (gw A (va_up F 20 1) nw nx LO DO) 0 0 := by
  have ca := s_noTerm2 (A := A) (F := F) (nw := nw) (nx := nx) (LO := LO) (DO := DO) (d := d + 2) hn hF hx
  refine gm_mk gm_mX7_step rfl ⟨Or.inr rfl, rfl, rfl, trivial⟩ (fun G X hC hX => ?_)
  refine gm_runs hC [] 200 _ _ _ _ _ _ ?_
  exact Or.inl ⟨_, _, _, _, ca, gx_f (show ¬ (1 : Int32) = 0 from by decide) hX⟩
theorem m_steps_b {x : Int32} {n : Nat} (hn : n ≤ 120) (hF : F 21 = nI n) (hx : gT n x = none) : gm_Sp gm_MT (d + 5) 8039 [.ref 24, .int x] (gw A F nw nx LO DO) (.inl (some (.int 0))) (gw A (va_up F 20 1) nw nx LO DO) 0 0 := by
  have ca := s_noTerm2 (A := A) (F := F) (nw := nw) (nx := nx) (LO := LO) (DO := DO) (d := d + 2) hn hF hx
  refine gm_mk gm_mX7_steps rfl ⟨Or.inr rfl, rfl, rfl, trivial⟩ (fun G X hC hX => ?_)
  refine gm_runs hC [] 200 _ _ _ _ _ _ ?_
  exact Or.inl ⟨_, _, _, _, ca, gx_f (show ¬ (1 : Int32) = 0 from by decide) hX⟩
theorem m_normalForm_b {x : Int32} {n : Nat} (hn : n ≤ 120) (hF : F 21 = nI n) (hx : gT n x = none) : gm_Sp gm_MT (d + 5) 8040 [.ref 24, .int x] (gw A F nw nx LO DO) (.inl (some (.int 0))) (gw A (va_up F 20 1) nw nx LO DO) 0 0 := by
  have ca := s_noTerm2 (A := A) (F := F) (nw := nw) (nx := nx) (LO := LO) (DO := DO) (d := d + 2) hn hF hx
  refine gm_mk gm_mX7_normalForm rfl ⟨Or.inr rfl, rfl, rfl, trivial⟩ (fun G X hC hX => ?_)
  refine gm_runs hC [] 200 _ _ _ _ _ _ ?_
  exact Or.inl ⟨_, _, _, _, ca, gx_f (show ¬ (1 : Int32) = 0 from by decide) hX⟩
theorem m_primes_b {x : Int32} {n : Nat} (hn : n ≤ 120) (hF : F 21 = nI n) (hx : gT n x = none) : gm_Sp gm_MT (d + 5) 8044 [.ref 24, .int x] (gw A F nw nx LO DO) (.inl (some (.int 0))) (gw A (va_up F 20 1) nw nx LO DO) 0 0 := by
  have ca := s_noTerm2 (A := A) (F := F) (nw := nw) (nx := nx) (LO := LO) (DO := DO) (d := d + 2) hn hF hx
  refine gm_mk gm_mX7_primes rfl ⟨Or.inr rfl, rfl, rfl, trivial⟩ (fun G X hC hX => ?_)
  refine gm_runs hC [] 200 _ _ _ _ _ _ ?_
  exact Or.inl ⟨_, _, _, _, ca, gx_f (show ¬ (1 : Int32) = 0 from by decide) hX⟩
theorem m_prime_b {x : Int32} {y z : Int32} {n : Nat} (hn : n ≤ 120) (hF : F 21 = nI n) (hx : gT n x = none) : gm_Sp gm_MT (d + 5) 8046 [.ref 24, .int x, .int y, .int z] (gw A F nw nx LO DO) (.inl (some (.int 45))) (gw A (va_up F 20 1) nw nx LO DO) 0 0 := by
  have ca := s_noTerm2 (A := A) (F := F) (nw := nw) (nx := nx) (LO := LO) (DO := DO) (d := d + 2) hn hF hx
  refine gm_mk gm_mX7_prime rfl ⟨Or.inr rfl, rfl, rfl, trivial⟩ (fun G X hC hX => ?_)
  refine gm_runs hC [] 200 _ _ _ _ _ _ ?_
  exact Or.inl ⟨_, _, _, _, ca, gx_f (show ¬ (1 : Int32) = 0 from by decide) (gx_c (r := 45) hX (by decide) rfl rfl)⟩
theorem m_density_b {x : Int32} {n : Nat} (hn : n ≤ 120) (hF : F 21 = nI n) (hx : gT n x = none) : gm_Sp gm_MT (d + 5) 8077 [.ref 24, .int x] (gw A F nw nx LO DO) (.inl (some (.float FP.fconst0))) (gw A (va_up F 20 1) nw nx LO DO) 0 0 := by
  have ca := s_noTerm2 (A := A) (F := F) (nw := nw) (nx := nx) (LO := LO) (DO := DO) (d := d + 2) hn hF hx
  refine gm_mk gm_mX7_density rfl ⟨Or.inr rfl, rfl, rfl, trivial⟩ (fun G X hC hX => ?_)
  refine gm_runs hC [] 200 _ _ _ _ _ _ ?_
  exact Or.inl ⟨_, _, _, _, ca, gx_f (show ¬ (1 : Int32) = 0 from by decide) hX⟩
end X