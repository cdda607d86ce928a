/-! STATEMENTS: the rest of what needs no counting -/
section X
variable {nw nx : Nat} {LO : Nat → Int64} {DO : Nat → UInt64} {d n : Nat} {A : Nat → Nat → Int32} {F : Nat → Int32}
theorem s_firstDenial (hF : F 7 = nI n) (hn : n ≤ 6) (x : Int32) : gm_Sp gm_MT (d + 2) 4011 [.ref 18, .int x] (gw A F nw nx LO DO) (.inl (some (.int (gOI (sFst (fun i => decide (A 19 i = 0 ∧ sIn x (A 20 i) = true)) n 0))))) (gw A F nw nx LO DO) 0 0 := by
  refine gm_mk gm_mX3_firstDenial rfl ⟨Or.inr rfl, rfl, rfl, trivial⟩ (fun G X hC hX => ?_)
  have loop : ∀ (m i : Nat), i + m = n → X (.inl (some (.int (gOI (sFst (fun i => decide (A 19 i = 0 ∧ sIn x (A 20 i) = true)) m i))))) (gw A F nw nx LO DO) 0 0 → G 2 [some (.ref 18), some (.int x), some (.int (nI i))] [] (gw A F nw nx LO DO) 0 0 := by
    intro m
    induction m with
    | zero =>
      intro i hi hY
      have hY : X (.inl (some (.int (-1)))) (gw A F nw nx LO DO) 0 0 := hY
      refine gm_run1 hC [2] 200 2 ?_
      exact gx_t (show F 7 ≤ nI i from by rw [hF]; exact nI_le (by omega) (by omega)) (gx_i hY gm_m1 rfl)
    | succ m ih =>
      intro i hi hY
      have hd := s_demandsN (A := A) (nw := nw) (nx := nx) (LO := LO) (DO := DO) (d := d) hF hn (j := i) (by omega)
      have hp := s_placesN (A := A) (nw := nw) (nx := nx) (LO := LO) (DO := DO) (d := d) hF hn (j := i) (by omega)
      have hi2 := s_isIn (A := A) (F := F) (nw := nw) (nx := nx) (LO := LO) (DO := DO) (d := d) x (A 20 i)
      unfold sFst at hY
      have n1 : ¬ F 7 ≤ nI i := by rw [hF]; exact nI_ge (by omega) (by omega)
      have nxt : ¬ (A 19 i = 0 ∧ sIn x (A 20 i) = true) → G 2 [some (.ref 18), some (.int x), some (.int (nI i + 1))] [] (gw A F nw nx LO DO) 0 0 := fun c => by
        rw [decide_eq_false c] at hY
        rw [nI_1]
        exact ih (i + 1) (by omega) hY
      clear ih
      by_cases c : A 19 i = 0
      · rw [decide_eq_false (fun z => z c)] at hd
        cases hb : sIn x (A 20 i) with
        | true =>
          rw [hb] at hi2
          rw [decide_eq_true (show A 19 i = 0 ∧ sIn x (A 20 i) = true from ⟨c, hb⟩)] at hY
          refine gm_run1 hC [2] 200 2 ?_
          exact gx_f n1 (Or.inl ⟨_, _, _, _, hd, gx_f (show ¬ ¬ (0 : Int32) = 0 from fun z => z rfl) (Or.inl ⟨_, _, _, _, hp, ⟨_, _, _, _, hi2, gx_f (show ¬ (1 : Int32) = 0 from by decide) (gx_i hY rfl rfl)⟩⟩)⟩)
        | false =>
          rw [hb] at hi2 nxt
          have nxt := nxt (fun z => by cases z.2)
          refine gm_run1 hC [2] 200 2 ?_
          exact gx_f n1 (Or.inl ⟨_, _, _, _, hd, gx_f (show ¬ ¬ (0 : Int32) = 0 from fun z => z rfl) (Or.inl ⟨_, _, _, _, hp, ⟨_, _, _, _, hi2, gx_t (show (0 : Int32) = 0 from rfl) nxt⟩⟩)⟩)
      · rw [decide_eq_true c] at hd
        have nxt := nxt (fun z => c z.1)
        refine gm_run1 hC [2] 200 2 ?_
        exact gx_f n1 (Or.inl ⟨_, _, _, _, hd, gx_t (show ¬ (1 : Int32) = 0 from by decide) nxt⟩)
  refine gm_runs hC [2] 200 _ _ _ _ _ _ ?_
  exact loop n 0 (by omega) hX
theorem s_add (hF : F 7 = nI n) (hn : n < 6) {b : Int32} (hb : b = 0 ∨ b = 1) (x : Int32) : gm_Sp gm_MT (d + 1) 4002 [.ref 18, .int b, .int x] (gw A F nw nx LO DO) (.inl none) (gw (va_up (va_up A 19 (upd (A 19) n b)) 20 (upd (A 20) n x)) (va_up F 7 (nI (n + 1))) nw nx LO DO) 0 0 := by
  have e1 : nI (n + 1) = F 7 + gm_lit 1 := by rw [hF]; exact (nI_1 n).symm
  have e2 : n = (F 7).toNatClampNeg := by rw [hF]; exact (nI_clamp (by omega)).symm
  have e3 : va_up (va_up A 19 (upd (A 19) n b)) 20 (upd (A 20) n x) = va_up (va_up A 19 (upd (A 19) (F 7).toNatClampNeg b)) 20 (upd (A 20) (F 7).toNatClampNeg x) := by rw [← e2]
  have h1 : ¬ F 7 < 0 := by rw [hF]; exact nI_pos (by omega)
  have h2 : ¬ nI 6 ≤ F 7 := by rw [hF]; exact nI_ge (by omega) (by omega)
  have h3 : vp_in (F 7) 6 := by rw [hF]; exact vp_in_nI (by omega) (by omega)
  rw [e1, e3]
  clear e1 e2 e3
  refine gm_mk gm_mX3_add rfl ⟨Or.inr rfl, rfl, rfl, trivial⟩ (fun G X hC hX => ?_)
  refine gm_runs hC [] 200 _ _ _ _ _ _ ?_
  exact gx_f h1 (gx_f h2 (And.intro h3 (And.intro hb (And.intro h3 hX))))
theorem s_removeLast (hF : F 7 = nI (n + 1)) (hn : n < 6) : gm_Sp gm_MT (d + 1) 4003 [.ref 18] (gw A F nw nx LO DO) (.inl none) (gw A (va_up F 7 (nI n)) nw nx LO DO) 0 0 := by
  have e1 : nI n = F 7 - gm_lit 1 := by rw [hF]; exact (nI_pred n).symm
  have h1 : ¬ F 7 ≤ 0 := by rw [hF]; exact nI_nle (by omega) (by omega)
  rw [e1]
  refine gm_mk gm_mX3_removeLast rfl ⟨Or.inr rfl, rfl, rfl, trivial⟩ (fun G X hC hX => ?_)
  refine gm_runs hC [] 200 _ _ _ _ _ _ ?_
  exact gx_f h1 hX
theorem s_aimAt {b : Int32} (hb : b = 0 ∨ b = 1) (x : Int32) : gm_Sp gm_MT (d + 1) 4009 [.ref 18, .int b, .int x] (gw A F nw nx LO DO) (.inl none) (gw A (va_up (va_up (va_up F 8 1) 9 b) 10 x) nw nx LO DO) 0 0 := by
  refine gm_mk gm_mX3_aimAt rfl ⟨Or.inr rfl, rfl, rfl, trivial⟩ (fun G X hC hX => ?_)
  refine gm_runs hC [] 200 _ _ _ _ _ _ ?_
  exact And.intro (Or.inr rfl) (And.intro hb hX)
/-- the statements have a model in which only these regions hold elements -/
def sMod (D P : Nat → Int32) (n : Nat) (x : Int32) : Option Nat := sFst (fun i => decide (¬ D i = 0 ∧ P i &&& x = 0)) n 0
theorem sFst_lt {p : Nat → Bool} : ∀ {m i j : Nat}, sFst p m i = some j → i ≤ j ∧ j < i + m ∧ p j = true
  | 0, _, _, h => by simp [sFst] at h
  | m + 1, i, j, h => by
    unfold sFst at h
    split at h
    · rename_i c
      cases h
      exact ⟨Nat.le_refl _, by omega, c⟩
    · obtain ⟨h1, h2, h3⟩ := sFst_lt h
      exact ⟨by omega, by omega, h3⟩
theorem s_haveModel (hF : F 7 = nI n) (hn : n ≤ 6) : gm_Sp gm_MT (d + 3) 4013 [.ref 18] (gw A F nw nx LO DO) (.inl (some (.int (gB (sMod (A 19) (A 20) n (sAl (A 19) (A 20) n 0 65535)).isNone)))) (gw A F nw nx LO DO) 0 0 := by
  refine gm_mk gm_mX3_haveModel rfl ⟨Or.inr rfl, rfl, rfl, trivial⟩ (fun G X hC hX => ?_)
  have ha := s_allowed (A := A) (nw := nw) (nx := nx) (LO := LO) (DO := DO) (d := d) hF hn
  have hu := s_firstUnmet (A := A) (nw := nw) (nx := nx) (LO := LO) (DO := DO) (d := d) hF hn (sAl (A 19) (A 20) n 0 65535)
  cases hm : sMod (A 19) (A 20) n (sAl (A 19) (A 20) n 0 65535) with
  | none =>
    rw [hm] at hX
    unfold sMod at hm
    rw [hm] at hu
    refine gm_runs hC [] 200 _ _ _ _ _ _ ?_
    exact Or.inl ⟨_, _, _, _, ha, Or.inl ⟨_, _, _, _, hu, gx_f (show ¬ ¬ (-1 : Int32) = gm_lit (-1) from by decide) (gx_z hX (Or.inr rfl) rfl rfl)⟩⟩
  | some j =>
    rw [hm] at hX
    unfold sMod at hm
    have hj := (sFst_lt hm).2.1
    rw [hm] at hu
    refine gm_runs hC [] 200 _ _ _ _ _ _ ?_
    exact Or.inl ⟨_, _, _, _, ha, Or.inl ⟨_, _, _, _, hu, gx_t (show ¬ nI j = gm_lit (-1) from fun z => nI_pos (n := j) (by omega) (by rw [z]; decide)) (gx_z hX (Or.inl rfl) rfl rfl)⟩⟩
theorem s_firstWitness (hF : F 7 = nI n) (hn : n ≤ 6) : gm_Sp gm_MT (d + 3) 4014 [.ref 18] (gw A F nw nx LO DO) (.inl (some (.int (gOI (sMod (A 19) (A 20) n (sAl (A 19) (A 20) n 0 65535 &&& (F 10 ^^^ (-1)))))))) (gw A F nw nx LO DO) 0 0 := by
  refine gm_mk gm_mX3_firstWitness rfl ⟨Or.inr rfl, rfl, rfl, trivial⟩ (fun G X hC hX => ?_)
  have ha := s_allowed (A := A) (nw := nw) (nx := nx) (LO := LO) (DO := DO) (d := d) hF hn
  have hu := s_firstUnmet (A := A) (nw := nw) (nx := nx) (LO := LO) (DO := DO) (d := d) hF hn (sAl (A 19) (A 20) n 0 65535 &&& (F 10 ^^^ (-1)))
  refine gm_runs hC [] 200 _ _ _ _ _ _ ?_
  exact Or.inl ⟨_, _, _, _, ha, Or.inl ⟨_, _, _, _, hu, hX⟩⟩
end X