/-! STATEMENTS: whether all hold where these regions hold elements -/
def sHo (D P : Nat → Int32) (x : Int32) (i : Nat) : Bool := decide (¬ D i = 0) == decide (¬ P i &&& x = 0)
section X
variable {nw nx : Nat} {LO : Nat → Int64} {DO : Nat → UInt64} {d n : Nat} {A : Nat → Nat → Int32} {F : Nat → Int32}
theorem s_allHold (hF : F 7 = nI n) (hn : n ≤ 6) (x : Int32) : gm_Sp gm_MT (d + 2) 4016 [.ref 18, .int x] (gw A F nw nx LO DO) (.inl (some (.int (gB (sEv (sHo (A 19) (A 20) x) n 0))))) (gw A F nw nx LO DO) 0 0 := by
  refine gm_mk gm_mX3_allHold rfl ⟨Or.inr rfl, rfl, rfl, trivial⟩ (fun G X hC hX => ?_)
  have loop : ∀ (m i : Nat), i + m = n → X (.inl (some (.int (gB (sEv (sHo (A 19) (A 20) x) m i))))) (gw A F nw nx LO DO) 0 0 → G 2 [some (.ref 18), some (.int x), some (.int (nI i))] [] (gw A F nw nx LO DO) 0 0 := by
    intro m
    induction m with
    | zero =>
      intro i hi hY
      have hY : X (.inl (some (.int 1))) (gw A F nw nx LO DO) 0 0 := hY
      refine gm_run1 hC [2] 200 2 ?_
      exact gx_t (show F 7 ≤ nI i from by rw [hF]; exact nI_le (by omega) (by omega)) (gx_z hY (Or.inr rfl) rfl rfl)
    | succ m ih =>
      intro i hi hY
      have hd := s_demandsN (A := A) (nw := nw) (nx := nx) (LO := LO) (DO := DO) (d := d) hF hn (j := i) (by omega)
      have hp := s_placesN (A := A) (nw := nw) (nx := nx) (LO := LO) (DO := DO) (d := d) hF hn (j := i) (by omega)
      have n1 : ¬ F 7 ≤ nI i := by rw [hF]; exact nI_ge (by omega) (by omega)
      unfold sEv at hY
      have nxt : sHo (A 19) (A 20) x i = true → G 2 [some (.ref 18), some (.int x), some (.int (nI i + 1))] [] (gw A F nw nx LO DO) 0 0 := fun c => by
        rw [if_pos c] at hY
        rw [nI_1]
        exact ih (i + 1) (by omega) hY
      have bad : ¬ sHo (A 19) (A 20) x i = true → X (.inl (some (.int 0))) (gw A F nw nx LO DO) 0 0 := fun c => by
        rw [if_neg c] at hY
        exact hY
      clear ih hY
      unfold sHo at nxt bad
      by_cases c : A 19 i = 0
      · rw [decide_eq_false (fun z => z c)] at hd nxt bad
        by_cases c2 : A 20 i &&& x = 0
        · rw [decide_eq_false (fun z => z c2)] at nxt
          have nxt := nxt rfl
          refine gm_run1 hC [2] 200 2 ?_
          exact gx_f n1 (Or.inl ⟨_, _, _, _, hd, Or.inl ⟨_, _, _, _, hp, gx_t (show A 20 i &&& x = 0 from c2) (gx_t (show (0 : Int32) = 0 from rfl) nxt)⟩⟩)
        · rw [decide_eq_true c2] at bad
          have bad := bad (by decide)
          refine gm_run1 hC [2] 200 2 ?_
          exact gx_f n1 (Or.inl ⟨_, _, _, _, hd, Or.inl ⟨_, _, _, _, hp, gx_f (show ¬ A 20 i &&& x = 0 from c2) (gx_f (show ¬ (0 : Int32) = 1 from by decide) (gx_z bad (Or.inl rfl) rfl rfl))⟩⟩)
      · rw [decide_eq_true c] at hd nxt bad
        by_cases c2 : A 20 i &&& x = 0
        · rw [decide_eq_false (fun z => z c2)] at bad
          have bad := bad (by decide)
          refine gm_run1 hC [2] 200 2 ?_
          exact gx_f n1 (Or.inl ⟨_, _, _, _, hd, Or.inl ⟨_, _, _, _, hp, gx_t (show A 20 i &&& x = 0 from c2) (gx_f (show ¬ (1 : Int32) = 0 from by decide) (gx_z bad (Or.inl rfl) rfl rfl))⟩⟩)
        · rw [decide_eq_true c2] at nxt
          have nxt := nxt rfl
          refine gm_run1 hC [2] 200 2 ?_
          exact gx_f n1 (Or.inl ⟨_, _, _, _, hd, Or.inl ⟨_, _, _, _, hp, gx_f (show ¬ A 20 i &&& x = 0 from c2) (gx_t (show (1 : Int32) = 1 from rfl) nxt)⟩⟩)
  refine gm_runs hC [2] 200 _ _ _ _ _ _ ?_
  exact loop n 0 (by omega) hX
end X