/-! POWERS, on both sides; the bits' count; where witnesses stand in the reference -/
def lPow (b : Int32) : Nat → Int64 → Int64
  | 0, acc => acc
  | m + 1, acc => lPow b m (acc * b.toInt64)
section X
variable {nw nx : Nat} {LO : Nat → Int64} {DO : Nat → UInt64} {d n : Nat} {A : Nat → Nat → Int32} {F : Nat → Int32}
theorem s_power3 (b : Int32) (hn : n < 2 ^ 31) : gm_Sp gm_MT (d + 1) 4020 [.int b, .int (nI n)] (gw A F nw nx LO DO) (.inl (some (.long (lPow b n 1)))) (gw A F nw nx LO DO) 0 0 := by
  refine gm_mk gm_mX3_power rfl ⟨Or.inr rfl, rfl, rfl, trivial⟩ (fun G X hC hX => ?_)
  have loop : ∀ (m i : Nat) (acc : Int64), i + m = n → X (.inl (some (.long (lPow b m acc)))) (gw A F nw nx LO DO) 0 0 → G 5 [some (.int b), some (.int (nI n)), some (.long acc), none, some (.int (nI i))] [] (gw A F nw nx LO DO) 0 0 := by
    intro m
    induction m with
    | zero =>
      intro i acc hi hY
      have hi : i = n := by omega
      subst hi
      refine gm_run1 hC [5] 200 5 ?_
      exact gx_t (Int32.le_refl (nI i)) hY
    | succ m ih =>
      intro i acc hi hY
      have h9 := ih (i + 1) _ (by omega) hY
      rw [← nI_1] at h9
      refine gm_run1 hC [5] 200 5 ?_
      exact gx_f (show ¬ nI n ≤ nI i from nI_ge (by omega) (by omega)) h9
  refine gm_runs hC [5] 200 _ _ _ _ _ _ ?_
  exact loop n 0 1 (by omega) hX
theorem s_power7 (b : Int32) (hn : n < 2 ^ 31) : gm_Sp gm_MT (d + 1) 8073 [.int b, .int (nI n)] (gw A F nw nx LO DO) (.inl (some (.long (lPow b n 1)))) (gw A F nw nx LO DO) 0 0 := by
  refine gm_mk gm_mX7_power rfl ⟨Or.inr rfl, rfl, rfl, trivial⟩ (fun G X hC hX => ?_)
  have loop : ∀ (m i : Nat) (acc : Int64), i + m = n → X (.inl (some (.long (lPow b m acc)))) (gw A F nw nx LO DO) 0 0 → G 5 [some (.int b), some (.int (nI n)), some (.long acc), none, some (.int (nI i))] [] (gw A F nw nx LO DO) 0 0 := by
    intro m
    induction m with
    | zero =>
      intro i acc hi hY
      have hi : i = n := by omega
      subst hi
      refine gm_run1 hC [5] 200 5 ?_
      exact gx_t (Int32.le_refl (nI i)) hY
    | succ m ih =>
      intro i acc hi hY
      have h9 := ih (i + 1) _ (by omega) hY
      rw [← nI_1] at h9
      refine gm_run1 hC [5] 200 5 ?_
      exact gx_f (show ¬ nI n ≤ nI i from nI_ge (by omega) (by omega)) h9
  refine gm_runs hC [5] 200 _ _ _ _ _ _ ?_
  exact loop n 0 1 (by omega) hX
end X