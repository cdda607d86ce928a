/-! WHERE ELEMENTS STAND: the regions that a choice of elements occupies -/
def sOcc (e : Int32) : Nat → Nat → Int32 → Int32
  | 0, _, acc => acc
  | m + 1, i, acc => sOcc e m (i + 1) (acc ||| ((1 : Int32) <<< (((e >>> ((4 * nI i) &&& 31)) &&& 15) &&& 31)))
/-- the way as a long tells the same digits -/
theorem sOcc_l0 : ∀ i, i < 3 → ∀ a, a < 64 → ∀ b, b < 64 → ((lN (64 * a + b) >>> ((4 * nI i).toInt64 &&& 63)) &&& 15).toInt32 = (nI (64 * a + b) >>> ((4 * nI i) &&& 31)) &&& 15 := by decide +kernel
theorem sOcc_long (i : Nat) (hi : i < 3) (w : Nat) (hw : w < 4096) : ((lN w >>> ((4 * nI i).toInt64 &&& 63)) &&& 15).toInt32 = (nI w >>> ((4 * nI i) &&& 31)) &&& 15 := by
  have h := sOcc_l0 i hi (w / 64) (by omega) (w % 64) (by omega)
  rw [Nat.div_add_mod] at h
  exact h
section X
variable {nw nx : Nat} {LO : Nat → Int64} {DO : Nat → UInt64} {d n : Nat} {A : Nat → Nat → Int32} {F : Nat → Int32}
theorem s_occupiedBy {w : Nat} (hw : w < 4096) (hn : n < 4) : gm_Sp gm_MT (d + 1) 4022 [.long (lN w), .int (nI n)] (gw A F nw nx LO DO) (.inl (some (.int (sOcc (nI w) n 0 0)))) (gw A F nw nx LO DO) 0 0 := by
  refine gm_mk gm_mX3_occupiedBy rfl ⟨Or.inr rfl, rfl, rfl, trivial⟩ (fun G X hC hX => ?_)
  have loop : ∀ (m i : Nat) (acc : Int32), i + m = n → X (.inl (some (.int (sOcc (nI w) m i acc)))) (gw A F nw nx LO DO) 0 0 → G 5 [some (.long (lN w)), none, some (.int (nI n)), some (.int acc), some (.int (nI i))] [] (gw A F nw nx LO DO) 0 0 := by
    intro m
    induction m with
    | zero =>
      intro i acc hi hY
      have hi : i = n := by omega
      subst hi
      refine gm_run1 hC [5] 200 5 ?_
      exact gx_t (Int32.le_refl (nI i)) (gx_i hY rfl rfl)
    | succ m ih =>
      intro i acc hi hY
      have h9 := ih (i + 1) (acc ||| ((1 : Int32) <<< (((nI w >>> ((4 * nI i) &&& 31)) &&& 15) &&& 31))) (by omega) hY
      rw [← nI_1, ← sOcc_long i (by omega) w hw] at h9
      refine gm_run1 hC [5] 200 5 ?_
      exact gx_f (show ¬ nI n ≤ nI i from nI_ge (by omega) (by omega)) h9
  refine gm_runs hC [5] 200 _ _ _ _ _ _ ?_
  exact loop n 0 0 (by omega) hX
end X