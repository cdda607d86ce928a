/-! CUBES: the regions in one -/
section X
variable {nw nx : Nat} {LO : Nat → Int64} {DO : Nat → UInt64} {d n : Nat} {A : Nat → Nat → Int32} {F : Nat → Int32}
theorem s_regionsIn (c : Int32) : gm_Sp gm_MT (d + 3) 1004 [.int c] (gw A F nw nx LO DO) (.inl (some (.int (cReg c 16 0 0)))) (gw A F nw nx LO DO) 0 0 := by
  refine gm_mk gm_mX0_regionsIn rfl ⟨Or.inr rfl, rfl, rfl, trivial⟩ (fun G X hC hX => ?_)
  have loop : ∀ (m i : Nat) (acc : Int32), i + m = 16 → X (.inl (some (.int (cReg c m i acc)))) (gw A F nw nx LO DO) 0 0 → G 4 [some (.int c), some (.int acc), some (.int (nI i))] [] (gw A F nw nx LO DO) 0 0 := by
    intro m
    induction m with
    | zero =>
      intro i acc hi hY
      have hi : i = 16 := by omega
      subst hi
      refine gm_run1 hC [4] 200 4 ?_
      exact gx_t (show nI 16 ≤ nI 16 from by decide) (gx_i hY rfl rfl)
    | succ m ih =>
      intro i acc hi hY
      have hs := s_contains (A := A) (F := F) (nw := nw) (nx := nx) (LO := LO) (DO := DO) (d := d) c (nI i)
      have n1 : ¬ nI 16 ≤ nI i := nI_ge (by omega) (by omega)
      unfold cReg at hY
      have h9 := ih (i + 1) _ (by omega) hY
      rw [← nI_1] at h9
      clear ih
      cases hb : cCon c (nI i) 4 0 with
      | true =>
        rw [hb] at hs
        rw [if_pos hb] at h9
        refine gm_run1 hC [4] 200 4 ?_
        exact gx_f n1 (Or.inl ⟨_, _, _, _, hs, gx_f (show ¬ (1 : Int32) = 0 from by decide) h9⟩)
      | false =>
        rw [hb] at hs
        rw [if_neg (by rw [hb]; decide)] at h9
        refine gm_run1 hC [4] 200 4 ?_
        exact gx_f n1 (Or.inl ⟨_, _, _, _, hs, gx_t (show (0 : Int32) = 0 from rfl) h9⟩)
  refine gm_runs hC [4] 200 _ _ _ _ _ _ ?_
  exact loop 16 0 0 rfl hX
end X