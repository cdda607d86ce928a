/-! CUBES: digits, regions, single regions -/
def cDg (c j : Int32) : Int32 := if j = 0 then c / 27 else if j = 1 then c / 9 - c / 9 / 3 * 3 else if j = 2 then c / 3 - c / 3 / 3 * 3 else c - c / 3 * 3
/-- a cube holds a region: no letter from j on speaks against it -/
def cCon (c x : Int32) : Nat → Nat → Bool
  | 0, _ => true
  | m + 1, j => if cDg c (nI j) = 0 then cCon c x m (j + 1) else if sIn (nI j) x = decide (cDg c (nI j) = 1) then false else cCon c x m (j + 1)
def cSin (c : Int32) : Nat → Nat → Bool
  | 0, _ => true
  | m + 1, j => if cDg c (nI j) = 0 then false else cSin c m (j + 1)
def cReg (c : Int32) : Nat → Nat → Int32 → Int32
  | 0, _, acc => acc
  | m + 1, x, acc => cReg c m (x + 1) (if cCon c (nI x) 4 0 = true then acc ||| ((1 : Int32) <<< (nI x &&& 31)) else acc)
section X
variable {nw nx : Nat} {LO : Nat → Int64} {DO : Nat → UInt64} {d n : Nat} {A : Nat → Nat → Int32} {F : Nat → Int32}
theorem s_isSingle (c : Int32) : gm_Sp gm_MT (d + 2) 1007 [.int c] (gw A F nw nx LO DO) (.inl (some (.int (gB (cSin c 4 0))))) (gw A F nw nx LO DO) 0 0 := by
  refine gm_mk gm_mX0_isSingle rfl ⟨Or.inr rfl, rfl, rfl, trivial⟩ (fun G X hC hX => ?_)
  have loop : ∀ (m i : Nat), i + m = 4 → X (.inl (some (.int (gB (cSin c m i))))) (gw A F nw nx LO DO) 0 0 → G 2 [some (.int c), some (.int (nI i))] [] (gw A F nw nx LO DO) 0 0 := by
    intro m
    induction m with
    | zero =>
      intro i hi hY
      have hi : i = 4 := by omega
      subst hi
      have hY : X (.inl (some (.int 1))) (gw A F nw nx LO DO) 0 0 := hY
      refine gm_run1 hC [2] 200 2 ?_
      exact gx_t (show nI 4 ≤ gm_lit 4 from by decide) (gx_z hY (Or.inr rfl) rfl rfl)
    | succ m ih =>
      intro i hi hY
      have hd := s_digitOf (A := A) (F := F) (nw := nw) (nx := nx) (LO := LO) (DO := DO) (d := d) c (nI i)
      have n1 : ¬ nI 4 ≤ nI i := nI_ge (by omega) (by omega)
      unfold cSin at hY
      refine gm_run1 hC [2] 200 2 ?_
      refine gx_f (show ¬ gm_lit 4 ≤ nI i from n1) (Or.inl ⟨_, _, _, _, hd, And.intro (fun (z : ¬ cDg c (nI i) = 0) => ?_) (fun (z : ¬ ¬ cDg c (nI i) = 0) => ?_)⟩)
      · rw [if_neg z] at hY
        have h9 := ih (i + 1) (by omega) hY
        rw [← nI_1] at h9
        exact h9
      · rw [if_pos (Decidable.of_not_not z)] at hY
        exact gx_z hY (Or.inl rfl) rfl rfl
  refine gm_runs hC [2] 200 _ _ _ _ _ _ ?_
  exact loop 4 0 rfl hX
theorem s_contains (c x : Int32) : gm_Sp gm_MT (d + 2) 1005 [.int c, .int x] (gw A F nw nx LO DO) (.inl (some (.int (gB (cCon c x 4 0))))) (gw A F nw nx LO DO) 0 0 := by
  refine gm_mk gm_mX0_contains rfl ⟨Or.inr rfl, rfl, rfl, trivial⟩ (fun G X hC hX => ?_)
  have loop : ∀ (m i : Nat) (o3 : Option Value), (o3 = none ∨ ∃ z : Int32, o3 = some (.int z)) → i + m = 4 → X (.inl (some (.int (gB (cCon c x m i))))) (gw A F nw nx LO DO) 0 0 → G 2 [some (.int c), some (.int x), some (.int (nI i)), o3] [] (gw A F nw nx LO DO) 0 0 := by
    intro m
    induction m with
    | zero =>
      intro i o3 h3 hi hY
      have hi : i = 4 := by omega
      subst hi
      have hY : X (.inl (some (.int 1))) (gw A F nw nx LO DO) 0 0 := hY
      rcases h3 with rfl | ⟨z, rfl⟩
      all_goals
        refine gm_run1 hC [2] 200 2 ?_
        exact gx_t (show nI 4 ≤ gm_lit 4 from by decide) (gx_z hY (Or.inr rfl) rfl rfl)
    | succ m ih =>
      intro i o3 h3 hi hY
      have hd := s_digitOf (A := A) (F := F) (nw := nw) (nx := nx) (LO := LO) (DO := DO) (d := d) c (nI i)
      have hs := s_isIn (A := A) (F := F) (nw := nw) (nx := nx) (LO := LO) (DO := DO) (d := d) (nI i) x
      have n1 : ¬ nI 4 ≤ nI i := nI_ge (by omega) (by omega)
      unfold cCon at hY
      have nxt : X (.inl (some (.int (gB (cCon c x m (i + 1)))))) (gw A F nw nx LO DO) 0 0 → G 2 [some (.int c), some (.int x), some (.int (nI i + 1)), some (.int (cDg c (nI i)))] [] (gw A F nw nx LO DO) 0 0 := fun z => by
        rw [nI_1]
        exact ih (i + 1) _ (Or.inr ⟨_, rfl⟩) (by omega) z
      clear ih
      rcases h3 with rfl | ⟨z3, rfl⟩
      all_goals
        refine gm_run1 hC [2] 200 2 ?_
        refine gx_f (show ¬ gm_lit 4 ≤ nI i from n1) (Or.inl ⟨_, _, _, _, hd, And.intro (fun (z : cDg c (nI i) = 0) => nxt (by rw [if_pos z] at hY; exact hY)) (fun (z : ¬ cDg c (nI i) = 0) => ⟨_, _, _, _, hs, And.intro (fun (y : ¬ cDg c (nI i) = 1) => ?_) (fun (y : ¬ ¬ cDg c (nI i) = 1) => ?_)⟩)⟩)
        · rw [if_neg z, decide_eq_false y] at hY
          cases hb : sIn (nI i) x with
          | true =>
            rw [hb, if_neg (by decide)] at hY
            exact gx_t (show ¬ (1 : Int32) = 0 from by decide) (nxt hY)
          | false =>
            rw [hb, if_pos rfl] at hY
            exact gx_f (show ¬ ¬ (0 : Int32) = 0 from fun z => z rfl) (gx_z hY (Or.inl rfl) rfl rfl)
        · rw [if_neg z, decide_eq_true (Decidable.of_not_not y)] at hY
          cases hb : sIn (nI i) x with
          | true =>
            rw [hb, if_pos rfl] at hY
            exact gx_f (show ¬ ¬ (1 : Int32) = 1 from fun z => z rfl) (gx_z hY (Or.inl rfl) rfl rfl)
          | false =>
            rw [hb, if_neg (by decide)] at hY
            exact gx_t (show ¬ (0 : Int32) = 1 from by decide) (nxt hY)
  refine gm_runs hC [2] 200 _ _ _ _ _ _ ?_
  exact loop 4 0 none (Or.inl rfl) rfl hX
end X