/-! THE PROVER'S FACE: statements, what follows, counterexamples, models -/
section X
variable {nw nx : Nat} {LO : Nat → Int64} {DO : Nat → UInt64} {d n : Nat} {A : Nat → Nat → Int32} {F : Nat → Int32}
theorem f_assume1 {k : Int32} {a b N : Nat} (hk : (sDen k || sDem k) = true) (hN : N ≤ 120) (hF0 : F 0 = nI N) (ha : a < N) (hb : b < N) (hF : F 7 = nI n) (hn : n < 6) : gm_Sp gm_MT (d + 4) 7031 [.ref 0, .int k, .int (nI a), .int (nI b)] (gw A F nw nx LO DO) (.inl (some (.int (nI n)))) (gw (va_up (va_up A 19 (upd (A 19) n (gB (sDem k)))) 20 (upd (A 20) n (sReg k (A 6 a) (A 6 b)))) (va_up F 7 (nI (n + 1))) nw nx LO DO) 0 0 := by
  have hc := s_checkSt1 (A := A) (F := F) (nw := nw) (nx := nx) (LO := LO) (DO := DO) (d := d) hk hN hF0 ha hb
  have hm := s_howMany3 (A := A) (F := F) (nw := nw) (nx := nx) (LO := LO) (DO := DO) (d := d + 2)
  have hd := s_isDemand6 (A := A) (F := F) (nw := nw) (nx := nx) (LO := LO) (DO := DO) (d := d + 2) k
  have hp := s_placesOf (A := A) (F := F) (nw := nw) (nx := nx) (LO := LO) (DO := DO) (d := d) k hN hF0 ha hb
  have had := s_add (A := A) (nw := nw) (nx := nx) (LO := LO) (DO := DO) (d := d + 2) hF hn (gB_01 (sDem k)) (sReg k (A 6 a) (A 6 b))
  have hm2 : gm_Sp gm_MT (d + 3) 4001 [.ref 18] (gw (va_up (va_up A 19 (upd (A 19) n (gB (sDem k)))) 20 (upd (A 20) n (sReg k (A 6 a) (A 6 b)))) (va_up F 7 (nI (n + 1))) nw nx LO DO) (.inl (some (.int (nI (n + 1))))) (gw (va_up (va_up A 19 (upd (A 19) n (gB (sDem k)))) 20 (upd (A 20) n (sReg k (A 6 a) (A 6 b)))) (va_up F 7 (nI (n + 1))) nw nx LO DO) 0 0 := s_howMany3 (d := d + 2)
  refine gm_mk gm_mX6_assume rfl ⟨Or.inr rfl, rfl, rfl, trivial⟩ (fun G X hC hX => ?_)
  rw [← nI_pred] at hX
  refine gm_runs hC [] 200 _ _ _ _ _ _ ?_
  exact Or.inl ⟨_, _, _, _, hc, Or.inl ⟨_, _, _, _, hm, gx_t (show F 7 < 6 from by rw [hF]; exact nI_lt (b := 6) hn (by decide)) (Or.inl ⟨_, _, _, _, hd, Or.inl ⟨_, _, _, _, hp, Or.inl ⟨_, _, _, _, had, Or.inl ⟨_, _, _, _, hm2, hX⟩⟩⟩⟩)⟩⟩
theorem f_assume2 {k : Int32} {a b N : Nat} (hk : (sDen k || sDem k) = true) (hN : N ≤ 120) (hF0 : F 0 = nI N) (ha : a < N) (hb : b < N) (hF : F 7 = nI 6) : gm_Sp gm_MT (d + 4) 7031 [.ref 0, .int k, .int (nI a), .int (nI b)] (gw A F nw nx LO DO) (.inr "java/lang/IllegalStateException") (gw A F nw nx LO DO) 1 6 := by
  have hc := s_checkSt1 (A := A) (F := F) (nw := nw) (nx := nx) (LO := LO) (DO := DO) (d := d) hk hN hF0 ha hb
  have hm := s_howMany3 (A := A) (F := F) (nw := nw) (nx := nx) (LO := LO) (DO := DO) (d := d + 2)
  refine gm_mk gm_mX6_assume rfl ⟨Or.inr rfl, rfl, rfl, rfl, rfl, gm_plain⟩ (fun G X hC hX => ?_)
  refine gm_runs hC [] 200 _ _ _ _ _ _ ?_
  exact Or.inl ⟨_, _, _, _, hc, Or.inl ⟨_, _, _, _, hm, gx_f (show ¬ F 7 < 6 from by rw [hF]; decide) hX⟩⟩

theorem f_assume_a {k x y : Int32} (hk : (sDen k || sDem k) = false) : gm_Sp gm_MT (d + 4) 7031 [.ref 0, .int k, .int x, .int y] (gw A F nw nx LO DO) (.inr "java/lang/IllegalArgumentException") (gw A F nw nx LO DO) 1 6 := by
  have hc := s_checkSt2 (A := A) (F := F) (nw := nw) (nx := nx) (LO := LO) (DO := DO) (d := d) (x := x) (y := y) hk
  refine gm_mk gm_mX6_assume rfl ⟨Or.inr rfl, rfl, rfl, rfl, rfl, gm_plain⟩ (fun G X hC hX => ?_)
  refine gm_runs hC [] 200 _ _ _ _ _ _ ?_
  exact Or.inr ⟨_, _, _, _, hc, hX⟩
theorem f_assume_b {k x y : Int32} {N : Nat} (hk : (sDen k || sDem k) = true) (hN : N ≤ 120) (hF0 : F 0 = nI N) (hxy : gT N x = none ∨ gT N y = none) : gm_Sp gm_MT (d + 4) 7031 [.ref 0, .int k, .int x, .int y] (gw A F nw nx LO DO) (.inr "java/lang/IndexOutOfBoundsException") (gw A F nw nx LO DO) 1 6 := by
  have hc := s_checkSt3 (A := A) (F := F) (nw := nw) (nx := nx) (LO := LO) (DO := DO) (d := d) hk hN hF0 hxy
  refine gm_mk gm_mX6_assume rfl ⟨Or.inr rfl, rfl, rfl, rfl, rfl, gm_plain⟩ (fun G X hC hX => ?_)
  refine gm_runs hC [] 200 _ _ _ _ _ _ ?_
  exact Or.inr ⟨_, _, _, _, hc, hX⟩
theorem f_setGoal_a {k x y : Int32} (hk : (sDen k || sDem k) = false) : gm_Sp gm_MT (d + 4) 7034 [.ref 0, .int k, .int x, .int y] (gw A F nw nx LO DO) (.inr "java/lang/IllegalArgumentException") (gw A F nw nx LO DO) 1 6 := by
  have hc := s_checkSt2 (A := A) (F := F) (nw := nw) (nx := nx) (LO := LO) (DO := DO) (d := d) (x := x) (y := y) hk
  refine gm_mk gm_mX6_setGoal rfl ⟨Or.inr rfl, rfl, rfl, rfl, rfl, gm_plain⟩ (fun G X hC hX => ?_)
  refine gm_runs hC [] 200 _ _ _ _ _ _ ?_
  exact Or.inr ⟨_, _, _, _, hc, hX⟩
theorem f_setGoal_b {k x y : Int32} {N : Nat} (hk : (sDen k || sDem k) = true) (hN : N ≤ 120) (hF0 : F 0 = nI N) (hxy : gT N x = none ∨ gT N y = none) : gm_Sp gm_MT (d + 4) 7034 [.ref 0, .int k, .int x, .int y] (gw A F nw nx LO DO) (.inr "java/lang/IndexOutOfBoundsException") (gw A F nw nx LO DO) 1 6 := by
  have hc := s_checkSt3 (A := A) (F := F) (nw := nw) (nx := nx) (LO := LO) (DO := DO) (d := d) hk hN hF0 hxy
  refine gm_mk gm_mX6_setGoal rfl ⟨Or.inr rfl, rfl, rfl, rfl, rfl, gm_plain⟩ (fun G X hC hX => ?_)
  refine gm_runs hC [] 200 _ _ _ _ _ _ ?_
  exact Or.inr ⟨_, _, _, _, hc, hX⟩
theorem f_follows_n (h0 : F 8 = 0) : gm_Sp gm_MT (d + 4) 7037 [.ref 0] (gw A F nw nx LO DO) (.inr "java/lang/IllegalStateException") (gw A F nw nx LO DO) 1 6 := by
  have hc := s_checkGoal2 (A := A) (F := F) (nw := nw) (nx := nx) (LO := LO) (DO := DO) (d := d + 1) h0
  refine gm_mk gm_mX6_follows rfl ⟨Or.inr rfl, rfl, rfl, rfl, rfl, gm_plain⟩ (fun G X hC hX => ?_)
  refine gm_runs hC [] 200 _ _ _ _ _ _ ?_
  exact Or.inr ⟨_, _, _, _, hc, hX⟩
theorem f_why_n (h0 : F 8 = 0) : gm_Sp gm_MT (d + 4) 7038 [.ref 0] (gw A F nw nx LO DO) (.inr "java/lang/IllegalStateException") (gw A F nw nx LO DO) 1 6 := by
  have hc := s_checkGoal2 (A := A) (F := F) (nw := nw) (nx := nx) (LO := LO) (DO := DO) (d := d + 1) h0
  refine gm_mk gm_mX6_why rfl ⟨Or.inr rfl, rfl, rfl, rfl, rfl, gm_plain⟩ (fun G X hC hX => ?_)
  refine gm_runs hC [] 200 _ _ _ _ _ _ ?_
  exact Or.inr ⟨_, _, _, _, hc, hX⟩
theorem f_witness_n (h0 : F 8 = 0) : gm_Sp gm_MT (d + 4) 7039 [.ref 0] (gw A F nw nx LO DO) (.inr "java/lang/IllegalStateException") (gw A F nw nx LO DO) 1 6 := by
  have hc := s_checkGoal2 (A := A) (F := F) (nw := nw) (nx := nx) (LO := LO) (DO := DO) (d := d + 1) h0
  refine gm_mk gm_mX6_witness rfl ⟨Or.inr rfl, rfl, rfl, rfl, rfl, gm_plain⟩ (fun G X hC hX => ?_)
  refine gm_runs hC [] 200 _ _ _ _ _ _ ?_
  exact Or.inr ⟨_, _, _, _, hc, hX⟩
theorem f_elements_n (h0 : F 8 = 0) : gm_Sp gm_MT (d + 4) 7045 [.ref 0] (gw A F nw nx LO DO) (.inr "java/lang/IllegalStateException") (gw A F nw nx LO DO) 1 6 := by
  have hc := s_checkGoal2 (A := A) (F := F) (nw := nw) (nx := nx) (LO := LO) (DO := DO) (d := d + 1) h0
  refine gm_mk gm_mX6_elements rfl ⟨Or.inr rfl, rfl, rfl, rfl, rfl, gm_plain⟩ (fun G X hC hX => ?_)
  refine gm_runs hC [] 200 _ _ _ _ _ _ ?_
  exact Or.inr ⟨_, _, _, _, hc, hX⟩
theorem f_elementsByTrying_n (h0 : F 8 = 0) : gm_Sp gm_MT (d + 4) 7046 [.ref 0] (gw A F nw nx LO DO) (.inr "java/lang/IllegalStateException") (gw A F nw nx LO DO) 1 6 := by
  have hc := s_checkGoal2 (A := A) (F := F) (nw := nw) (nx := nx) (LO := LO) (DO := DO) (d := d + 1) h0
  refine gm_mk gm_mX6_elementsByTrying rfl ⟨Or.inr rfl, rfl, rfl, rfl, rfl, gm_plain⟩ (fun G X hC hX => ?_)
  refine gm_runs hC [] 200 _ _ _ _ _ _ ?_
  exact Or.inr ⟨_, _, _, _, hc, hX⟩
theorem f_region_n {x : Int32} (h0 : F 8 = 0) : gm_Sp gm_MT (d + 4) 7047 [.ref 0, .int x] (gw A F nw nx LO DO) (.inr "java/lang/IllegalStateException") (gw A F nw nx LO DO) 1 6 := by
  have hc := s_checkGoal2 (A := A) (F := F) (nw := nw) (nx := nx) (LO := LO) (DO := DO) (d := d + 1) h0
  refine gm_mk gm_mX6_region rfl ⟨Or.inr rfl, rfl, rfl, rfl, rfl, gm_plain⟩ (fun G X hC hX => ?_)
  refine gm_runs hC [] 200 _ _ _ _ _ _ ?_
  exact Or.inr ⟨_, _, _, _, hc, hX⟩
theorem f_drop1 (hF : F 7 = nI (n + 1)) (hn : n < 6) : gm_Sp gm_MT (d + 2) 7032 [.ref 0] (gw A F nw nx LO DO) (.inl (some (.int (nI n)))) (gw A (va_up F 7 (nI n)) nw nx LO DO) 0 0 := by
  have hm := s_howMany3 (A := A) (F := F) (nw := nw) (nx := nx) (LO := LO) (DO := DO) (d := d)
  have hr := s_removeLast (A := A) (nw := nw) (nx := nx) (LO := LO) (DO := DO) (d := d) hF hn
  have hm2 : gm_Sp gm_MT (d + 1) 4001 [.ref 18] (gw A (va_up F 7 (nI n)) nw nx LO DO) (.inl (some (.int (nI n)))) (gw A (va_up F 7 (nI n)) nw nx LO DO) 0 0 := s_howMany3 (d := d)
  refine gm_mk gm_mX6_drop rfl ⟨Or.inr rfl, rfl, rfl, trivial⟩ (fun G X hC hX => ?_)
  refine gm_runs hC [] 200 _ _ _ _ _ _ ?_
  exact Or.inl ⟨_, _, _, _, hm, gx_t (show ¬ F 7 = 0 from by rw [hF]; exact nI_ne0 (by omega) (by omega)) (Or.inl ⟨_, _, _, _, hr, Or.inl ⟨_, _, _, _, hm2, hX⟩⟩)⟩
theorem f_drop2 (hF : F 7 = 0) : gm_Sp gm_MT (d + 2) 7032 [.ref 0] (gw A F nw nx LO DO) (.inr "java/lang/IllegalStateException") (gw A F nw nx LO DO) 1 6 := by
  have hm := s_howMany3 (A := A) (F := F) (nw := nw) (nx := nx) (LO := LO) (DO := DO) (d := d)
  refine gm_mk gm_mX6_drop rfl ⟨Or.inr rfl, rfl, rfl, rfl, rfl, gm_plain⟩ (fun G X hC hX => ?_)
  refine gm_runs hC [] 200 _ _ _ _ _ _ ?_
  exact Or.inl ⟨_, _, _, _, hm, gx_f (show ¬ ¬ F 7 = 0 from fun z => z hF) hX⟩
theorem f_assumptions : gm_Sp gm_MT (d + 2) 7033 [.ref 0] (gw A F nw nx LO DO) (.inl (some (.int (F 7)))) (gw A F nw nx LO DO) 0 0 := by
  have hm := s_howMany3 (A := A) (F := F) (nw := nw) (nx := nx) (LO := LO) (DO := DO) (d := d)
  refine gm_mk gm_mX6_assumptions rfl ⟨Or.inr rfl, rfl, rfl, trivial⟩ (fun G X hC hX => ?_)
  refine gm_runs hC [] 200 _ _ _ _ _ _ ?_
  exact Or.inl ⟨_, _, _, _, hm, hX⟩
theorem f_setGoal1 {k : Int32} {a b N : Nat} (hk : (sDen k || sDem k) = true) (hN : N ≤ 120) (hF0 : F 0 = nI N) (ha : a < N) (hb : b < N) (h8 : F 8 = 0 ∨ F 8 = 1) : gm_Sp gm_MT (d + 4) 7034 [.ref 0, .int k, .int (nI a), .int (nI b)] (gw A F nw nx LO DO) (.inl (some (.int (F 8)))) (gw A (va_up (va_up (va_up F 8 1) 9 (gB (sDem k))) 10 (sReg k (A 6 a) (A 6 b))) nw nx LO DO) 0 0 := by
  have hc := s_checkSt1 (A := A) (F := F) (nw := nw) (nx := nx) (LO := LO) (DO := DO) (d := d) hk hN hF0 ha hb
  have hg := s_hasGoal (A := A) (F := F) (nw := nw) (nx := nx) (LO := LO) (DO := DO) (d := d + 2) h8
  have hd := s_isDemand6 (A := A) (F := F) (nw := nw) (nx := nx) (LO := LO) (DO := DO) (d := d + 2) k
  have hp := s_placesOf (A := A) (F := F) (nw := nw) (nx := nx) (LO := LO) (DO := DO) (d := d) k hN hF0 ha hb
  have had := s_aimAt (A := A) (F := F) (nw := nw) (nx := nx) (LO := LO) (DO := DO) (d := d + 2) (gB_01 (sDem k)) (sReg k (A 6 a) (A 6 b))
  refine gm_mk gm_mX6_setGoal rfl ⟨Or.inr rfl, rfl, rfl, trivial⟩ (fun G X hC hX => ?_)
  refine gm_runs hC [] 200 _ _ _ _ _ _ ?_
  exact Or.inl ⟨_, _, _, _, hc, Or.inl ⟨_, _, _, _, hg, Or.inl ⟨_, _, _, _, hd, Or.inl ⟨_, _, _, _, hp, Or.inl ⟨_, _, _, _, had, gx_z hX h8 rfl rfl⟩⟩⟩⟩⟩
theorem f_isConsistent (hF : F 7 = nI n) (hn : n ≤ 6) : gm_Sp gm_MT (d + 4) 7035 [.ref 0] (gw A F nw nx LO DO) (.inl (some (.int (gB (sMod (A 19) (A 20) n (sAl (A 19) (A 20) n 0 65535)).isNone)))) (gw A F nw nx LO DO) 0 0 := by
  have h := s_haveModel (A := A) (nw := nw) (nx := nx) (LO := LO) (DO := DO) (d := d) hF hn
  refine gm_mk gm_mX6_isConsistent rfl ⟨Or.inr rfl, rfl, rfl, trivial⟩ (fun G X hC hX => ?_)
  refine gm_runs hC [] 200 _ _ _ _ _ _ ?_
  exact Or.inl ⟨_, _, _, _, h, gx_z hX (gB_01 _) rfl rfl⟩
theorem f_deniedBy1 (hF : F 7 = nI n) (hn : n ≤ 6) {r : Nat} (hr : r < 16) : (∀ j, sFst (fun i => decide (A 19 i = 0 ∧ sIn (nI r) (A 20 i) = true)) n 0 = some j → gm_Sp gm_MT (d + 3) 7036 [.ref 0, .int (nI r)] (gw A F nw nx LO DO) (.inl (some (.int (nI j)))) (gw A F nw nx LO DO) 0 0) ∧ (sFst (fun i => decide (A 19 i = 0 ∧ sIn (nI r) (A 20 i) = true)) n 0 = none → gm_Sp gm_MT (d + 3) 7036 [.ref 0, .int (nI r)] (gw A F nw nx LO DO) (.inr "java/util/NoSuchElementException") (gw A F nw nx LO DO) 1 6) := by
  have hc := s_checkRegion1 (A := A) (F := F) (nw := nw) (nx := nx) (LO := LO) (DO := DO) (d := d + 1) (x := nI r) (nI_pos' (by omega)) (nI_lt (b := 16) hr (by decide))
  have h := s_firstDenial (A := A) (nw := nw) (nx := nx) (LO := LO) (DO := DO) (d := d) hF hn (nI r)
  refine ⟨fun j hj => ?_, fun hj => ?_⟩
  · have hlt := (sFst_lt hj).2.1
    rw [hj] at h
    refine gm_mk gm_mX6_deniedBy rfl ⟨Or.inr rfl, rfl, rfl, trivial⟩ (fun G X hC hX => ?_)
    refine gm_runs hC [] 200 _ _ _ _ _ _ ?_
    exact Or.inl ⟨_, _, _, _, hc, Or.inl ⟨_, _, _, _, h, gx_t (show ¬ nI j = gm_lit (-1) from fun z => nI_pos (n := j) (by omega) (by rw [z]; decide)) hX⟩⟩
  · rw [hj] at h
    refine gm_mk gm_mX6_deniedBy rfl ⟨Or.inr rfl, rfl, rfl, rfl, rfl, gm_plain⟩ (fun G X hC hX => ?_)
    refine gm_runs hC [] 200 _ _ _ _ _ _ ?_
    exact Or.inl ⟨_, _, _, _, hc, Or.inl ⟨_, _, _, _, h, gx_f (show ¬ ¬ (-1 : Int32) = gm_lit (-1) from by decide) hX⟩⟩
theorem f_deniedBy2 {x : Int32} (h : ¬ (0 ≤ x ∧ x < 16)) : gm_Sp gm_MT (d + 3) 7036 [.ref 0, .int x] (gw A F nw nx LO DO) (.inr "java/lang/IllegalArgumentException") (gw A F nw nx LO DO) 1 6 := by
  have hc := s_checkRegion2 (A := A) (F := F) (nw := nw) (nx := nx) (LO := LO) (DO := DO) (d := d + 1) h
  refine gm_mk gm_mX6_deniedBy rfl ⟨Or.inr rfl, rfl, rfl, rfl, rfl, gm_plain⟩ (fun G X hC hX => ?_)
  refine gm_runs hC [] 200 _ _ _ _ _ _ ?_
  exact Or.inr ⟨_, _, _, _, hc, hX⟩
theorem f_follows1 (h8 : F 8 = 1) (hF : F 7 = nI n) (hn : n ≤ 6) : gm_Sp gm_MT (d + 5) 7037 [.ref 0] (gw A F nw nx LO DO) (.inl (some (.int (gB (sPr (A 19) (A 20) n (F 9) (F 10)))))) (gw A F nw nx LO DO) 0 0 := by
  have hc := s_checkGoal1 (A := A) (F := F) (nw := nw) (nx := nx) (LO := LO) (DO := DO) (d := d + 2) h8
  have h := s_proveGoal (A := A) (nw := nw) (nx := nx) (LO := LO) (DO := DO) (d := d) hF hn
  refine gm_mk gm_mX6_follows rfl ⟨Or.inr rfl, rfl, rfl, trivial⟩ (fun G X hC hX => ?_)
  refine gm_runs hC [] 200 _ _ _ _ _ _ ?_
  exact Or.inl ⟨_, _, _, _, hc, Or.inl ⟨_, _, _, _, h, gx_z hX (gB_01 _) rfl rfl⟩⟩
def fWh (A : Nat → Nat → Int32) (F : Nat → Int32) (n : Nat) : Int32 := if (sMod (A 19) (A 20) n (sAl (A 19) (A 20) n 0 65535)).isNone = true then (if F 9 = 0 then 114 else 119) else 109
theorem f_why1 (h8 : F 8 = 1) (hF : F 7 = nI n) (hn : n ≤ 6) (h9 : F 9 = 0 ∨ F 9 = 1) : (sPr (A 19) (A 20) n (F 9) (F 10) = true → gm_Sp gm_MT (d + 5) 7038 [.ref 0] (gw A F nw nx LO DO) (.inl (some (.int (fWh A F n)))) (gw A F nw nx LO DO) 0 0) ∧ (sPr (A 19) (A 20) n (F 9) (F 10) = false → gm_Sp gm_MT (d + 5) 7038 [.ref 0] (gw A F nw nx LO DO) (.inr "java/util/NoSuchElementException") (gw A F nw nx LO DO) 1 6) := by
  have hc := s_checkGoal1 (A := A) (F := F) (nw := nw) (nx := nx) (LO := LO) (DO := DO) (d := d + 2) h8
  have h := s_proveGoal (A := A) (nw := nw) (nx := nx) (LO := LO) (DO := DO) (d := d) hF hn
  have hm := s_haveModel (A := A) (nw := nw) (nx := nx) (LO := LO) (DO := DO) (d := d + 1) hF hn
  have hg := s_goalDemands (A := A) (F := F) (nw := nw) (nx := nx) (LO := LO) (DO := DO) (d := d + 3) h9
  refine ⟨fun hp => ?_, fun hp => ?_⟩
  · rw [hp] at h
    refine gm_mk gm_mX6_why rfl ⟨Or.inr rfl, rfl, rfl, trivial⟩ (fun G X hC hX => ?_)
    unfold fWh at hX
    refine gm_runs hC [] 200 _ _ _ _ _ _ ?_
    cases c : (sMod (A 19) (A 20) n (sAl (A 19) (A 20) n 0 65535)).isNone with
    | false =>
      rw [c] at hm hX
      rw [if_neg (by decide)] at hX
      exact Or.inl ⟨_, _, _, _, hc, Or.inl ⟨_, _, _, _, h, gx_t (show ¬ (1 : Int32) = 0 from by decide) (Or.inl ⟨_, _, _, _, hm, gx_f (show ¬ ¬ (0 : Int32) = 0 from fun z => z rfl) (gx_c (r := 109) hX (by decide) rfl rfl)⟩)⟩⟩
    | true =>
      rw [c] at hm hX
      rw [if_pos rfl] at hX
      by_cases c9 : F 9 = 0
      · rw [if_pos c9] at hX
        exact Or.inl ⟨_, _, _, _, hc, Or.inl ⟨_, _, _, _, h, gx_t (show ¬ (1 : Int32) = 0 from by decide) (Or.inl ⟨_, _, _, _, hm, gx_t (show ¬ (1 : Int32) = 0 from by decide) (Or.inl ⟨_, _, _, _, hg, gx_t c9 (gx_c (r := 114) hX (by decide) rfl rfl)⟩)⟩)⟩⟩
      · rw [if_neg c9] at hX
        exact Or.inl ⟨_, _, _, _, hc, Or.inl ⟨_, _, _, _, h, gx_t (show ¬ (1 : Int32) = 0 from by decide) (Or.inl ⟨_, _, _, _, hm, gx_t (show ¬ (1 : Int32) = 0 from by decide) (Or.inl ⟨_, _, _, _, hg, gx_f c9 (gx_c (r := 119) hX (by decide) rfl rfl)⟩)⟩)⟩⟩
  · rw [hp] at h
    refine gm_mk gm_mX6_why rfl ⟨Or.inr rfl, rfl, rfl, rfl, rfl, gm_plain⟩ (fun G X hC hX => ?_)
    refine gm_runs hC [] 200 _ _ _ _ _ _ ?_
    exact Or.inl ⟨_, _, _, _, hc, Or.inl ⟨_, _, _, _, h, gx_f (show ¬ ¬ (0 : Int32) = 0 from fun z => z rfl) hX⟩⟩
theorem f_witness1 (h8 : F 8 = 1) (h9 : F 9 = 0) : gm_Sp gm_MT (d + 4) 7039 [.ref 0] (gw A F nw nx LO DO) (.inr "java/lang/UnsupportedOperationException") (gw A F nw nx LO DO) 1 6 := by
  have hc := s_checkGoal1 (A := A) (F := F) (nw := nw) (nx := nx) (LO := LO) (DO := DO) (d := d + 1) h8
  have hg := s_goalDemands (A := A) (F := F) (nw := nw) (nx := nx) (LO := LO) (DO := DO) (d := d + 2) (Or.inl h9)
  refine gm_mk gm_mX6_witness rfl ⟨Or.inr rfl, rfl, rfl, rfl, rfl, gm_plain⟩ (fun G X hC hX => ?_)
  refine gm_runs hC [] 200 _ _ _ _ _ _ ?_
  exact Or.inl ⟨_, _, _, _, hc, Or.inl ⟨_, _, _, _, hg, gx_f (show ¬ ¬ F 9 = 0 from fun z => z h9) hX⟩⟩
theorem f_witness2 (h8 : F 8 = 1) (h9 : F 9 = 1) (hF : F 7 = nI n) (hn : n ≤ 6) : (∀ j, sMod (A 19) (A 20) n (sAl (A 19) (A 20) n 0 65535 &&& (F 10 ^^^ (-1))) = some j → gm_Sp gm_MT (d + 4) 7039 [.ref 0] (gw A F nw nx LO DO) (.inl (some (.int (nI j)))) (gw A F nw nx LO DO) 0 0) ∧ (sMod (A 19) (A 20) n (sAl (A 19) (A 20) n 0 65535 &&& (F 10 ^^^ (-1))) = none → gm_Sp gm_MT (d + 4) 7039 [.ref 0] (gw A F nw nx LO DO) (.inr "java/util/NoSuchElementException") (gw A F nw nx LO DO) 1 6) := by
  have hc := s_checkGoal1 (A := A) (F := F) (nw := nw) (nx := nx) (LO := LO) (DO := DO) (d := d + 1) h8
  have hg := s_goalDemands (A := A) (F := F) (nw := nw) (nx := nx) (LO := LO) (DO := DO) (d := d + 2) (Or.inr h9)
  have h := s_firstWitness (A := A) (nw := nw) (nx := nx) (LO := LO) (DO := DO) (d := d) hF hn
  have n9 : ¬ F 9 = 0 := by rw [h9]; decide
  refine ⟨fun j hj => ?_, fun hj => ?_⟩
  · have hlt := (sFst_lt hj).2.1
    rw [hj] at h
    refine gm_mk gm_mX6_witness rfl ⟨Or.inr rfl, rfl, rfl, trivial⟩ (fun G X hC hX => ?_)
    refine gm_runs hC [] 200 _ _ _ _ _ _ ?_
    exact Or.inl ⟨_, _, _, _, hc, Or.inl ⟨_, _, _, _, hg, gx_t n9 (Or.inl ⟨_, _, _, _, h, gx_t (show ¬ nI j = gm_lit (-1) from fun z => nI_pos (n := j) (by omega) (by rw [z]; decide)) hX⟩)⟩⟩
  · rw [hj] at h
    refine gm_mk gm_mX6_witness rfl ⟨Or.inr rfl, rfl, rfl, rfl, rfl, gm_plain⟩ (fun G X hC hX => ?_)
    refine gm_runs hC [] 200 _ _ _ _ _ _ ?_
    exact Or.inl ⟨_, _, _, _, hc, Or.inl ⟨_, _, _, _, hg, gx_t n9 (Or.inl ⟨_, _, _, _, h, gx_f (show ¬ ¬ (-1 : Int32) = gm_lit (-1) from by decide) hX⟩)⟩⟩
theorem f_models1 (hF : F 7 = nI n) (hn : n ≤ 6) {e : Nat} (he : e < 7) : gm_Sp gm_MT (d + 4) 7048 [.ref 0, .int (nI e)] (gw A F nw nx LO DO) (.inl (some (.long (pSm (A 19) (A 20) n e (sAl (A 19) (A 20) n 0 65535))))) (gw A F nw nx LO DO) 0 0 := by
  have hc := s_checkEl1 (A := A) (F := F) (nw := nw) (nx := nx) (LO := LO) (DO := DO) (d := d + 2) (x := nI e) (hi := 6) (nI_pos' (by omega)) (nI_le (b := 6) (by omega) (by decide))
  have h := s_countModels (A := A) (nw := nw) (nx := nx) (LO := LO) (DO := DO) (d := d) hF hn (e := e) (by omega)
  refine gm_mk gm_mX6_models rfl ⟨Or.inr rfl, rfl, rfl, trivial⟩ (fun G X hC hX => ?_)
  unfold pSm at hX
  refine gm_runs hC [] 200 _ _ _ _ _ _ ?_
  exact Or.inl ⟨_, _, _, _, hc, Or.inl ⟨_, _, _, _, h, hX⟩⟩
theorem f_modelsTry1 (hF : F 7 = nI n) (hn : n ≤ 6) {e : Nat} (he : e < 4) : gm_Sp gm_MT (d + 4) 7049 [.ref 0, .int (nI e)] (gw A F nw nx LO DO) (.inl (some (.long (lSum (cbQ (A 19) (A 20) n e) (fun _ => 1) (16 ^ e) 0 0)))) (gw A F nw nx LO DO) 0 0 := by
  have hc := s_checkEl1 (A := A) (F := F) (nw := nw) (nx := nx) (LO := LO) (DO := DO) (d := d + 2) (x := nI e) (hi := 3) (nI_pos' (by omega)) (nI_le (b := 3) (by omega) (by decide))
  have h := s_countByTrying3 (A := A) (nw := nw) (nx := nx) (LO := LO) (DO := DO) (d := d) hF hn he
  refine gm_mk gm_mX6_modelsByTrying rfl ⟨Or.inr rfl, rfl, rfl, trivial⟩ (fun G X hC hX => ?_)
  refine gm_runs hC [] 200 _ _ _ _ _ _ ?_
  exact Or.inl ⟨_, _, _, _, hc, Or.inl ⟨_, _, _, _, h, hX⟩⟩
theorem f_models2 {x : Int32} (h : ¬ (0 ≤ x ∧ x ≤ 6)) : gm_Sp gm_MT (d + 4) 7048 [.ref 0, .int x] (gw A F nw nx LO DO) (.inr "java/lang/IllegalArgumentException") (gw A F nw nx LO DO) 1 6 := by
  have hc := s_checkEl2 (A := A) (F := F) (nw := nw) (nx := nx) (LO := LO) (DO := DO) (d := d + 2) h
  refine gm_mk gm_mX6_models rfl ⟨Or.inr rfl, rfl, rfl, rfl, rfl, gm_plain⟩ (fun G X hC hX => ?_)
  refine gm_runs hC [] 200 _ _ _ _ _ _ ?_
  exact Or.inr ⟨_, _, _, _, hc, hX⟩
theorem f_modelsTry2 {x : Int32} (h : ¬ (0 ≤ x ∧ x ≤ 3)) : gm_Sp gm_MT (d + 4) 7049 [.ref 0, .int x] (gw A F nw nx LO DO) (.inr "java/lang/IllegalArgumentException") (gw A F nw nx LO DO) 1 6 := by
  have hc := s_checkEl2 (A := A) (F := F) (nw := nw) (nx := nx) (LO := LO) (DO := DO) (d := d + 2) h
  refine gm_mk gm_mX6_modelsByTrying rfl ⟨Or.inr rfl, rfl, rfl, rfl, rfl, gm_plain⟩ (fun G X hC hX => ?_)
  refine gm_runs hC [] 200 _ _ _ _ _ _ ?_
  exact Or.inr ⟨_, _, _, _, hc, hX⟩
/-- the search: its rows, and the least number, three calls -/
theorem f_search (h8 : F 8 = 1) (h9 : F 9 = 0 ∨ F 9 = 1) (hF : F 7 = nI n) (hn : n ≤ 6) : ∃ f W, spQ (spPl A F n) (spWd A F n) f W ∧ ∀ w, w < 128 → W = nI w →
    (∃ f3, (fN f 16 W < 100 → gm_Sp gm_MT (d + 4) 7045 [.ref 0] (gw A F nw nx LO DO) (.inl (some (.int (nI (fN f 16 W))))) (gw (va_up (va_up A 22 f) 23 f3) (va_up F 11 W) nw nx LO DO) 0 0) ∧ (¬ fN f 16 W < 100 → gm_Sp gm_MT (d + 4) 7045 [.ref 0] (gw A F nw nx LO DO) (.inr "java/util/NoSuchElementException") (gw (va_up (va_up A 22 f) 23 f3) (va_up F 11 W) nw nx LO DO) 1 6) ∧
      (∀ x, fN f 16 W < 100 → (∀ r, r < 16 → rNth (pkL f 16 W) x 0 = some r → gm_Sp gm_MT (d + 4) 7047 [.ref 0, .int x] (gw A F nw nx LO DO) (.inl (some (.int (nI r)))) (gw (va_up (va_up A 22 f) 23 f3) (va_up F 11 W) nw nx LO DO) 0 0) ∧ (rNth (pkL f 16 W) x 0 = none → gm_Sp gm_MT (d + 4) 7047 [.ref 0, .int x] (gw A F nw nx LO DO) (.inr "java/util/NoSuchElementException") (gw (va_up (va_up A 22 f) 23 f3) (va_up F 11 W) nw nx LO DO) 1 6)) ∧
      (∀ x, ¬ fN f 16 W < 100 → gm_Sp gm_MT (d + 4) 7047 [.ref 0, .int x] (gw A F nw nx LO DO) (.inr "java/util/NoSuchElementException") (gw (va_up (va_up A 22 f) 23 f3) (va_up F 11 W) nw nx LO DO) 1 6)) := by
  obtain ⟨f, W, q1, q2⟩ := s_prepare (A := A) (nw := nw) (nx := nx) (LO := LO) (DO := DO) (d := d) hF hn h9
  have hc := s_checkGoal1 (A := A) (F := F) (nw := nw) (nx := nx) (LO := LO) (DO := DO) (d := d + 1) h8
  refine ⟨f, W, q1, fun w hw hW => ?_⟩
  obtain ⟨f3, b1, b2⟩ := s_bySets (A := va_up A 22 f) (F := va_up F 11 W) (nw := nw) (nx := nx) (LO := LO) (DO := DO) (d := d) hw (by rw [g_upe]; exact hW)
  have e22 : (va_up A 22 f) 22 = f := g_upe
  rw [e22, ← hW] at b2
  have ub := fN_ub f 16 W
  refine ⟨f3, fun hlt => ?_, fun hlt => ?_, fun x hlt => ?_, fun x hlt => ?_⟩
  · rw [if_pos hlt] at b2
    have hm := s_least1 (A := va_up (va_up A 22 f) 23 f3) (F := va_up F 11 W) (nw := nw) (nx := nx) (LO := LO) (DO := DO) (d := d + 2) (j := fN f 16 W) (by omega)
    refine gm_mk gm_mX6_elements rfl ⟨Or.inr rfl, rfl, rfl, trivial⟩ (fun G X hC hX => ?_)
    refine gm_runs hC [] 200 _ _ _ _ _ _ ?_
    exact Or.inl ⟨_, _, _, _, hc, Or.inl ⟨_, _, _, _, q2, Or.inl ⟨_, _, _, _, b2, Or.inl ⟨_, _, _, _, hm, hX⟩⟩⟩⟩
  · rw [if_neg hlt] at b2
    have hm := s_least2 (A := va_up (va_up A 22 f) 23 f3) (F := va_up F 11 W) (nw := nw) (nx := nx) (LO := LO) (DO := DO) (d := d + 2)
    refine gm_mk gm_mX6_elements rfl ⟨Or.inr rfl, rfl, rfl, rfl, rfl, gm_plain⟩ (fun G X hC hX => ?_)
    refine gm_runs hC [] 200 _ _ _ _ _ _ ?_
    exact Or.inl ⟨_, _, _, _, hc, Or.inl ⟨_, _, _, _, q2, Or.inl ⟨_, _, _, _, b2, Or.inr ⟨_, _, _, _, hm, hX⟩⟩⟩⟩
  · rw [if_pos hlt] at b2
    have hm := s_least1 (A := va_up (va_up A 22 f) 23 f3) (F := va_up F 11 W) (nw := nw) (nx := nx) (LO := LO) (DO := DO) (d := d + 2) (j := fN f 16 W) (by omega)
    have hT : tbQ ((va_up (va_up A 22 f) 23 f3) 22) ((va_up (va_up A 22 f) 23 f3) 23) 0 := by
      rw [g_upe, g_upn (by decide), g_upe]
      rw [e22] at b1
      exact b1
    have hr := s_regionOf (A := va_up (va_up A 22 f) 23 f3) (F := va_up F 11 W) (nw := nw) (nx := nx) (LO := LO) (DO := DO) (d := d + 1) hw (by rw [g_upe]; exact hW) hT x
    rw [show (va_up (va_up A 22 f) 23 f3) 22 = f from by rw [g_upn (by decide), g_upe], ← hW] at hr
    refine ⟨fun r hr16 hj => ?_, fun hj => ?_⟩
    · rw [hj] at hr
      refine gm_mk gm_mX6_region rfl ⟨Or.inr rfl, rfl, rfl, trivial⟩ (fun G X hC hX => ?_)
      refine gm_runs hC [] 200 _ _ _ _ _ _ ?_
      exact Or.inl ⟨_, _, _, _, hc, Or.inl ⟨_, _, _, _, q2, Or.inl ⟨_, _, _, _, b2, Or.inl ⟨_, _, _, _, hm, Or.inl ⟨_, _, _, _, hr, gx_t (show ¬ nI r = gm_lit (-1) from fun z => nI_pos (n := r) (by omega) (by rw [z]; decide)) hX⟩⟩⟩⟩⟩
    · rw [hj] at hr
      refine gm_mk gm_mX6_region rfl ⟨Or.inr rfl, rfl, rfl, rfl, rfl, gm_plain⟩ (fun G X hC hX => ?_)
      refine gm_runs hC [] 200 _ _ _ _ _ _ ?_
      exact Or.inl ⟨_, _, _, _, hc, Or.inl ⟨_, _, _, _, q2, Or.inl ⟨_, _, _, _, b2, Or.inl ⟨_, _, _, _, hm, Or.inl ⟨_, _, _, _, hr, gx_f (show ¬ ¬ (-1 : Int32) = gm_lit (-1) from by decide) hX⟩⟩⟩⟩⟩
  · rw [if_neg hlt] at b2
    have hm := s_least2 (A := va_up (va_up A 22 f) 23 f3) (F := va_up F 11 W) (nw := nw) (nx := nx) (LO := LO) (DO := DO) (d := d + 2)
    refine gm_mk gm_mX6_region rfl ⟨Or.inr rfl, rfl, rfl, rfl, rfl, gm_plain⟩ (fun G X hC hX => ?_)
    refine gm_runs hC [] 200 _ _ _ _ _ _ ?_
    exact Or.inl ⟨_, _, _, _, hc, Or.inl ⟨_, _, _, _, q2, Or.inl ⟨_, _, _, _, b2, Or.inr ⟨_, _, _, _, hm, hX⟩⟩⟩⟩
theorem f_searchTry (h8 : F 8 = 1) (h9 : F 9 = 0 ∨ F 9 = 1) (hF : F 7 = nI n) (hn : n ≤ 6) : ∃ f W, spQ (spPl A F n) (spWd A F n) f W ∧ ∀ w, w < 128 → W = nI w → (fN f 16 W ≤ 7 → gm_Sp gm_MT (d + 10) 7046 [.ref 0] (gw A F nw nx LO DO) (.inl (some (.int (nI (fN f 16 W))))) (gw (va_up A 22 f) (va_up F 11 W) nw nx LO DO) 0 0) ∧ (¬ fN f 16 W < 100 → gm_Sp gm_MT (d + 10) 7046 [.ref 0] (gw A F nw nx LO DO) (.inr "java/util/NoSuchElementException") (gw (va_up A 22 f) (va_up F 11 W) nw nx LO DO) 1 6) := by
  obtain ⟨f, W, q1, q2⟩ := s_prepare (A := A) (nw := nw) (nx := nx) (LO := LO) (DO := DO) (d := d + 6) hF hn h9
  have hc := s_checkGoal1 (A := A) (F := F) (nw := nw) (nx := nx) (LO := LO) (DO := DO) (d := d + 7) h8
  refine ⟨f, W, q1, fun w hw hW => ?_⟩
  have b2 := s_byTrying (A := va_up A 22 f) (F := va_up F 11 W) (nw := nw) (nx := nx) (LO := LO) (DO := DO) (d := d) hw (by rw [g_upe]; exact hW)
  have e22 : (va_up A 22 f) 22 = f := g_upe
  rw [e22] at b2
  have hcm : ∀ e, e < 100 → cmB f e (nI w) = decide (fN f 16 W ≤ e) := fun e he => by rw [hW]; exact cmB_fN e w hw he
  refine ⟨fun hlt => ?_, fun hlt => ?_⟩
  · have hs : sFst (fun e => cmB f e (nI w)) 8 0 = some (fN f 16 W) := by
      have key : ∀ m i, i + m = 8 → i ≤ fN f 16 W → fN f 16 W < i + m → sFst (fun e => cmB f e (nI w)) m i = some (fN f 16 W) := by
        intro m
        induction m with
        | zero => intro i h1 h2 h3; omega
        | succ m ih =>
          intro i h1 h2 h3
          unfold sFst
          rw [hcm i (by omega)]
          by_cases e : fN f 16 W = i
          · rw [if_pos (decide_eq_true (by omega)), e]
          · rw [if_neg (fun z => by
              have := of_decide_eq_true z
              omega)]
            exact ih (i + 1) (by omega) (by omega) (by omega)
      exact key 8 0 rfl (Nat.zero_le _) (by omega)
    rw [hs] at b2
    have hm := s_least1 (A := va_up A 22 f) (F := va_up F 11 W) (nw := nw) (nx := nx) (LO := LO) (DO := DO) (d := d + 8) (j := fN f 16 W) (by omega)
    refine gm_mk gm_mX6_elementsByTrying rfl ⟨Or.inr rfl, rfl, rfl, trivial⟩ (fun G X hC hX => ?_)
    refine gm_runs hC [] 200 _ _ _ _ _ _ ?_
    exact Or.inl ⟨_, _, _, _, hc, Or.inl ⟨_, _, _, _, q2, Or.inl ⟨_, _, _, _, b2, Or.inl ⟨_, _, _, _, hm, hX⟩⟩⟩⟩
  · have hs : sFst (fun e => cmB f e (nI w)) 8 0 = none := by
      rw [sFst_none]
      intro e _ he
      rw [hcm e (by omega)]
      exact decide_eq_false (by omega)
    rw [hs] at b2
    have hm := s_least2 (A := va_up A 22 f) (F := va_up F 11 W) (nw := nw) (nx := nx) (LO := LO) (DO := DO) (d := d + 8)
    refine gm_mk gm_mX6_elementsByTrying rfl ⟨Or.inr rfl, rfl, rfl, rfl, rfl, gm_plain⟩ (fun G X hC hX => ?_)
    refine gm_runs hC [] 200 _ _ _ _ _ _ ?_
    exact Or.inl ⟨_, _, _, _, hc, Or.inl ⟨_, _, _, _, q2, Or.inl ⟨_, _, _, _, b2, Or.inr ⟨_, _, _, _, hm, hX⟩⟩⟩⟩
end X