/-! STATEMENTS: what the prover's methods answer -/
/-- the first place that has a property -/
def sFst (p : Nat → Bool) : Nat → Nat → Option Nat
  | 0, _ => none
  | m + 1, i => if p i then some i else sFst p m (i + 1)
/-- the regions that no denial empties -/
def sAl (D P : Nat → Int32) : Nat → Nat → Int32 → Int32
  | 0, _, acc => acc
  | m + 1, i, acc => sAl D P m (i + 1) (if D i = 0 then acc &&& (P i ^^^ (-1)) else acc)
/-- a region is in a set of regions -/
def sIn (x s : Int32) : Bool := decide ((s >>> (x &&& 31)) &&& 1 = 1)
section X
variable {nw nx : Nat} {LO : Nat → Int64} {DO : Nat → UInt64} {d n : Nat} {A : Nat → Nat → Int32} {F : Nat → Int32}
theorem s_isIn (x s : Int32) : gm_Sp gm_MT (d + 1) 7021 [.int x, .int s] (gw A F nw nx LO DO) (.inl (some (.int (gB (sIn x s))))) (gw A F nw nx LO DO) 0 0 := by
  refine gm_mk gm_mX6_isIn rfl ⟨Or.inr rfl, rfl, rfl, trivial⟩ (fun G X hC hX => ?_)
  unfold sIn at hX
  refine gm_runs hC [] 200 _ _ _ _ _ _ ?_
  refine And.intro (fun (c : ¬ (s >>> (x &&& 31)) &&& 1 = 1) => ?_) (fun (c : ¬ ¬ (s >>> (x &&& 31)) &&& 1 = 1) => ?_)
  · rw [decide_eq_false c] at hX
    exact gx_z hX (Or.inl rfl) rfl rfl
  · rw [decide_eq_true (Decidable.of_not_not c)] at hX
    exact gx_z hX (Or.inr rfl) rfl rfl
theorem s_howMany3 : gm_Sp gm_MT (d + 1) 4001 [.ref 18] (gw A F nw nx LO DO) (.inl (some (.int (F 7)))) (gw A F nw nx LO DO) 0 0 := by
  refine gm_mk gm_mX3_howMany rfl ⟨Or.inr rfl, rfl, rfl, trivial⟩ (fun G X hC hX => ?_)
  exact gm_runs hC [] 200 _ _ _ _ _ _ hX
theorem s_goalRegions : gm_Sp gm_MT (d + 1) 4008 [.ref 18] (gw A F nw nx LO DO) (.inl (some (.int (F 10)))) (gw A F nw nx LO DO) 0 0 := by
  refine gm_mk gm_mX3_goalRegions rfl ⟨Or.inr rfl, rfl, rfl, trivial⟩ (fun G X hC hX => ?_)
  exact gm_runs hC [] 200 _ _ _ _ _ _ hX
theorem s_hasGoal (h : F 8 = 0 ∨ F 8 = 1) : gm_Sp gm_MT (d + 1) 4006 [.ref 18] (gw A F nw nx LO DO) (.inl (some (.int (F 8)))) (gw A F nw nx LO DO) 0 0 := by
  refine gm_mk gm_mX3_hasGoal rfl ⟨Or.inr rfl, rfl, rfl, trivial⟩ (fun G X hC hX => ?_)
  refine gm_runs hC [] 200 _ _ _ _ _ _ ?_
  exact gx_z hX h rfl rfl
theorem s_goalDemands (h : F 9 = 0 ∨ F 9 = 1) : gm_Sp gm_MT (d + 1) 4007 [.ref 18] (gw A F nw nx LO DO) (.inl (some (.int (F 9)))) (gw A F nw nx LO DO) 0 0 := by
  refine gm_mk gm_mX3_goalDemands rfl ⟨Or.inr rfl, rfl, rfl, trivial⟩ (fun G X hC hX => ?_)
  refine gm_runs hC [] 200 _ _ _ _ _ _ ?_
  exact gx_z hX h rfl rfl
theorem s_demandsN {j : Nat} (hF : F 7 = nI n) (hn : n ≤ 6) (hj : j < n) : gm_Sp gm_MT (d + 1) 4004 [.ref 18, .int (nI j)] (gw A F nw nx LO DO) (.inl (some (.int (gB (decide (¬ A 19 j = 0)))))) (gw A F nw nx LO DO) 0 0 := by
  refine gm_mk gm_mX3_demandsElement rfl ⟨Or.inr rfl, rfl, rfl, trivial⟩ (fun G X hC hX => ?_)
  have hcl : (nI j).toNatClampNeg = j := nI_clamp (by omega)
  have e : decide (¬ A 19 j = 0) = decide (¬ A 19 (nI j).toNatClampNeg = 0) := by rw [hcl]
  rw [e] at hX
  refine gm_runs hC [] 200 _ _ _ _ _ _ ?_
  refine gx_f (show ¬ nI j < 0 from nI_pos (by omega)) (gx_f (show ¬ F 7 ≤ nI j from by rw [hF]; exact nI_ge hj (by omega)) (gx_f (show ¬ nI 6 ≤ nI j from nI_ge (by omega) (by omega)) (And.intro (vp_in_nI (by omega) (by omega)) (And.intro (fun (c : A 19 (nI j).toNatClampNeg = 0) => ?_) (fun (c : ¬ A 19 (nI j).toNatClampNeg = 0) => ?_)))))
  · rw [decide_eq_false (fun z => z c)] at hX
    exact gx_z hX (Or.inl rfl) rfl rfl
  · rw [decide_eq_true c] at hX
    exact gx_z hX (Or.inr rfl) rfl rfl
theorem s_placesN {j : Nat} (hF : F 7 = nI n) (hn : n ≤ 6) (hj : j < n) : gm_Sp gm_MT (d + 1) 4005 [.ref 18, .int (nI j)] (gw A F nw nx LO DO) (.inl (some (.int (A 20 j)))) (gw A F nw nx LO DO) 0 0 := by
  refine gm_mk gm_mX3_placesAt rfl ⟨Or.inr rfl, rfl, rfl, trivial⟩ (fun G X hC hX => ?_)
  have hcl : (nI j).toNatClampNeg = j := nI_clamp (by omega)
  refine gm_runs hC [] 200 _ _ _ _ _ _ ?_
  exact gx_f (show ¬ nI j < 0 from nI_pos (by omega)) (gx_f (show ¬ F 7 ≤ nI j from by rw [hF]; exact nI_ge hj (by omega)) (gx_f (show ¬ nI 6 ≤ nI j from nI_ge (by omega) (by omega)) (And.intro (vp_in_nI (by omega) (by omega)) (gx_i hX (by rw [hcl]) rfl))))
theorem s_allowed (hF : F 7 = nI n) (hn : n ≤ 6) : gm_Sp gm_MT (d + 2) 4010 [.ref 18] (gw A F nw nx LO DO) (.inl (some (.int (sAl (A 19) (A 20) n 0 65535)))) (gw A F nw nx LO DO) 0 0 := by
  refine gm_mk gm_mX3_allowed rfl ⟨Or.inr rfl, rfl, rfl, trivial⟩ (fun G X hC hX => ?_)
  have loop : ∀ (m i : Nat) (acc : Int32), i + m = n → X (.inl (some (.int (sAl (A 19) (A 20) m i acc)))) (gw A F nw nx LO DO) 0 0 → G 5 [some (.ref 18), some (.int acc), some (.int (nI i))] [] (gw A F nw nx LO DO) 0 0 := by
    intro m
    induction m with
    | zero =>
      intro i acc hi hY
      refine gm_run1 hC [5] 200 5 ?_
      exact gx_t (show F 7 ≤ nI i from by rw [hF]; exact nI_le (by omega) (by omega)) (gx_i hY rfl rfl)
    | succ m ih =>
      intro i acc hi hY
      have hd := s_demandsN (A := A) (nw := nw) (nx := nx) (LO := LO) (DO := DO) (d := d) hF hn (j := i) (by omega)
      have hp := s_placesN (A := A) (nw := nw) (nx := nx) (LO := LO) (DO := DO) (d := d) hF hn (j := i) (by omega)
      unfold sAl at hY
      have n1 : ¬ F 7 ≤ nI i := by rw [hF]; exact nI_ge (by omega) (by omega)
      by_cases c : A 19 i = 0
      · rw [if_pos c] at hY
        rw [decide_eq_false (fun z => z c)] at hd
        have h9 := ih (i + 1) _ (by omega) hY
        rw [← nI_1, ← gm_m1] at h9
        refine gm_run1 hC [5] 200 5 ?_
        exact gx_f n1 (Or.inl ⟨_, _, _, _, hd, gx_f (show ¬ ¬ (0 : Int32) = 0 from fun z => z rfl) (Or.inl ⟨_, _, _, _, hp, h9⟩)⟩)
      · rw [if_neg c] at hY
        rw [decide_eq_true c] at hd
        have h9 := ih (i + 1) _ (by omega) hY
        rw [← nI_1] at h9
        refine gm_run1 hC [5] 200 5 ?_
        exact gx_f n1 (Or.inl ⟨_, _, _, _, hd, gx_t (show ¬ (1 : Int32) = 0 from by decide) h9⟩)
  refine gm_runs hC [5] 200 _ _ _ _ _ _ ?_
  exact loop n 0 65535 (by omega) hX
theorem s_firstUnmet (hF : F 7 = nI n) (hn : n ≤ 6) (x : Int32) : gm_Sp gm_MT (d + 2) 4012 [.ref 18, .int x] (gw A F nw nx LO DO) (.inl (some (.int (gOI (sFst (fun i => decide (¬ A 19 i = 0 ∧ A 20 i &&& x = 0)) n 0))))) (gw A F nw nx LO DO) 0 0 := by
  refine gm_mk gm_mX3_firstUnmet rfl ⟨Or.inr rfl, rfl, rfl, trivial⟩ (fun G X hC hX => ?_)
  have loop : ∀ (m i : Nat), i + m = n → X (.inl (some (.int (gOI (sFst (fun i => decide (¬ A 19 i = 0 ∧ A 20 i &&& x = 0)) m i))))) (gw A F nw nx LO DO) 0 0 → G 2 [some (.ref 18), some (.int x), some (.int (nI i))] [] (gw A F nw nx LO DO) 0 0 := by
    intro m
    induction m with
    | zero =>
      intro i hi hY
      have hY : X (.inl (some (.int (-1)))) (gw A F nw nx LO DO) 0 0 := hY
      refine gm_run1 hC [2] 200 2 ?_
      exact gx_t (show F 7 ≤ nI i from by rw [hF]; exact nI_le (by omega) (by omega)) (gx_i hY gm_m1 rfl)
    | succ m ih =>
      intro i hi hY
      have hd := s_demandsN (A := A) (nw := nw) (nx := nx) (LO := LO) (DO := DO) (d := d) hF hn (j := i) (by omega)
      have hp := s_placesN (A := A) (nw := nw) (nx := nx) (LO := LO) (DO := DO) (d := d) hF hn (j := i) (by omega)
      unfold sFst at hY
      have n1 : ¬ F 7 ≤ nI i := by rw [hF]; exact nI_ge (by omega) (by omega)
      have nxt : ¬ (¬ A 19 i = 0 ∧ A 20 i &&& x = 0) → G 2 [some (.ref 18), some (.int x), some (.int (nI i + 1))] [] (gw A F nw nx LO DO) 0 0 := fun c => by
        rw [decide_eq_false c] at hY
        rw [nI_1]
        exact ih (i + 1) (by omega) hY
      clear ih
      by_cases c : A 19 i = 0
      · rw [decide_eq_false (fun z => z c)] at hd
        refine gm_run1 hC [2] 200 2 ?_
        exact gx_f n1 (Or.inl ⟨_, _, _, _, hd, gx_t (show (0 : Int32) = 0 from rfl) (nxt (fun z => z.1 c))⟩)
      · rw [decide_eq_true c] at hd
        refine gm_run1 hC [2] 200 2 ?_
        refine gx_f n1 (Or.inl ⟨_, _, _, _, hd, gx_f (show ¬ (1 : Int32) = 0 from by decide) (Or.inl ⟨_, _, _, _, hp, And.intro (fun (c2 : ¬ A 20 i &&& x = 0) => nxt (fun z => c2 z.2)) (fun (c2 : ¬ ¬ A 20 i &&& x = 0) => ?_)⟩)⟩)
        rw [decide_eq_true (show ¬ A 19 i = 0 ∧ A 20 i &&& x = 0 from ⟨c, Decidable.of_not_not c2⟩)] at hY
        exact gx_i hY rfl rfl
  refine gm_runs hC [2] 200 _ _ _ _ _ _ ?_
  exact loop n 0 (by omega) hX
end X