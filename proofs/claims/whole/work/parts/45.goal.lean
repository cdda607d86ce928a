/-! STATEMENTS: the goal, and sets of statements -/
/-- all of a run of places have a property -/
def sEv (p : Nat → Bool) : Nat → Nat → Bool
  | 0, _ => true
  | m + 1, i => if p i then sEv p m (i + 1) else false
/-- the union of the regions of a set of statements -/
def sUn (P : Nat → Int32) (s : Int32) : Nat → Nat → Int32 → Int32
  | 0, _, acc => acc
  | m + 1, i, acc => sUn P s m (i + 1) (if sIn (nI i) s = true then acc ||| P i else acc)
section X
variable {nw nx : Nat} {LO : Nat → Int64} {DO : Nat → UInt64} {d n : Nat} {A : Nat → Nat → Int32} {F : Nat → Int32}
theorem s_placesOfSet (hF : F 7 = nI n) (hn : n ≤ 6) (s : Int32) : gm_Sp gm_MT (d + 2) 4019 [.ref 18, .int s] (gw A F nw nx LO DO) (.inl (some (.int (sUn (A 20) s n 0 0)))) (gw A F nw nx LO DO) 0 0 := by
  refine gm_mk gm_mX3_placesOfSet rfl ⟨Or.inr rfl, rfl, rfl, trivial⟩ (fun G X hC hX => ?_)
  have loop : ∀ (m i : Nat) (acc : Int32), i + m = n → X (.inl (some (.int (sUn (A 20) s m i acc)))) (gw A F nw nx LO DO) 0 0 → G 4 [some (.ref 18), some (.int s), some (.int acc), some (.int (nI i))] [] (gw A F nw nx LO DO) 0 0 := by
    intro m
    induction m with
    | zero =>
      intro i acc hi hY
      refine gm_run1 hC [4] 200 4 ?_
      exact gx_t (show F 7 ≤ nI i from by rw [hF]; exact nI_le (by omega) (by omega)) (gx_i hY rfl rfl)
    | succ m ih =>
      intro i acc hi hY
      have hp := s_placesN (A := A) (nw := nw) (nx := nx) (LO := LO) (DO := DO) (d := d) hF hn (j := i) (by omega)
      have hi2 := s_isIn (A := A) (F := F) (nw := nw) (nx := nx) (LO := LO) (DO := DO) (d := d) (nI i) s
      unfold sUn at hY
      have n1 : ¬ F 7 ≤ nI i := by rw [hF]; exact nI_ge (by omega) (by omega)
      have h9 := ih (i + 1) _ (by omega) hY
      rw [← nI_1 i] at h9
      clear ih
      cases hb : sIn (nI i) s with
      | true =>
        rw [hb] at hi2
        rw [if_pos hb] at h9
        refine gm_run1 hC [4] 200 4 ?_
        exact gx_f n1 ⟨_, _, _, _, hi2, gx_f (show ¬ (1 : Int32) = 0 from by decide) (Or.inl ⟨_, _, _, _, hp, h9⟩)⟩
      | false =>
        rw [hb] at hi2
        rw [if_neg (by rw [hb]; decide)] at h9
        refine gm_run1 hC [4] 200 4 ?_
        exact gx_f n1 ⟨_, _, _, _, hi2, gx_t (show (0 : Int32) = 0 from rfl) h9⟩
  refine gm_runs hC [4] 200 _ _ _ _ _ _ ?_
  exact loop n 0 0 (by omega) hX
theorem s_isSetOfDemands (hF : F 7 = nI n) (hn : n ≤ 6) (s : Int32) : gm_Sp gm_MT (d + 2) 4018 [.ref 18, .int s] (gw A F nw nx LO DO) (.inl (some (.int (gB (sEv (fun i => !(sIn (nI i) s) || decide (¬ A 19 i = 0)) n 0))))) (gw A F nw nx LO DO) 0 0 := by
  refine gm_mk gm_mX3_isSetOfDemands rfl ⟨Or.inr rfl, rfl, rfl, trivial⟩ (fun G X hC hX => ?_)
  have loop : ∀ (m i : Nat), i + m = n → X (.inl (some (.int (gB (sEv (fun i => !(sIn (nI i) s) || decide (¬ A 19 i = 0)) m i))))) (gw A F nw nx LO DO) 0 0 → G 2 [some (.ref 18), some (.int s), some (.int (nI i))] [] (gw A F nw nx LO DO) 0 0 := by
    intro m
    induction m with
    | zero =>
      intro i hi hY
      have hY : X (.inl (some (.int 1))) (gw A F nw nx LO DO) 0 0 := hY
      refine gm_run1 hC [2] 200 2 ?_
      exact gx_t (show F 7 ≤ nI i from by rw [hF]; exact nI_le (by omega) (by omega)) (gx_z hY (Or.inr rfl) rfl rfl)
    | succ m ih =>
      intro i hi hY
      have hd := s_demandsN (A := A) (nw := nw) (nx := nx) (LO := LO) (DO := DO) (d := d) hF hn (j := i) (by omega)
      have hi2 := s_isIn (A := A) (F := F) (nw := nw) (nx := nx) (LO := LO) (DO := DO) (d := d) (nI i) s
      unfold sEv at hY
      have n1 : ¬ F 7 ≤ nI i := by rw [hF]; exact nI_ge (by omega) (by omega)
      have nxt : (!(sIn (nI i) s) || decide (¬ A 19 i = 0)) = true → G 2 [some (.ref 18), some (.int s), some (.int (nI i + 1))] [] (gw A F nw nx LO DO) 0 0 := fun c => by
        rw [if_pos c] at hY
        rw [nI_1]
        exact ih (i + 1) (by omega) hY
      clear ih
      cases hb : sIn (nI i) s with
      | true =>
        rw [hb] at hi2 nxt hY
        by_cases c : A 19 i = 0
        · rw [decide_eq_false (fun z => z c)] at hd hY
          have hY : X (.inl (some (.int 0))) (gw A F nw nx LO DO) 0 0 := hY
          refine gm_run1 hC [2] 200 2 ?_
          exact gx_f n1 ⟨_, _, _, _, hi2, gx_f (show ¬ (1 : Int32) = 0 from by decide) (Or.inl ⟨_, _, _, _, hd, gx_f (show ¬ ¬ (0 : Int32) = 0 from fun z => z rfl) (gx_z hY (Or.inl rfl) rfl rfl)⟩)⟩
        · rw [decide_eq_true c] at hd nxt
          have nxt := nxt rfl
          refine gm_run1 hC [2] 200 2 ?_
          exact gx_f n1 ⟨_, _, _, _, hi2, gx_f (show ¬ (1 : Int32) = 0 from by decide) (Or.inl ⟨_, _, _, _, hd, gx_t (show ¬ (1 : Int32) = 0 from by decide) nxt⟩)⟩
      | false =>
        rw [hb] at hi2 nxt
        have nxt := nxt rfl
        refine gm_run1 hC [2] 200 2 ?_
        exact gx_f n1 ⟨_, _, _, _, hi2, gx_t (show (0 : Int32) = 0 from rfl) nxt⟩
  refine gm_runs hC [2] 200 _ _ _ _ _ _ ?_
  exact loop n 0 (by omega) hX
/-- the goal follows -/
def sPr (D P : Nat → Int32) (n : Nat) (gd gp : Int32) : Bool := if gd = 0 then (sMod D P n (sAl D P n 0 65535)).isSome || decide (sAl D P n 0 65535 &&& gp = 0) else (sMod D P n (sAl D P n 0 65535 &&& (gp ^^^ (-1)))).isSome
theorem s_proveGoal (hF : F 7 = nI n) (hn : n ≤ 6) : gm_Sp gm_MT (d + 4) 4015 [.ref 18] (gw A F nw nx LO DO) (.inl (some (.int (gB (sPr (A 19) (A 20) n (F 9) (F 10)))))) (gw A F nw nx LO DO) 0 0 := by
  refine gm_mk gm_mX3_proveGoal rfl ⟨Or.inr rfl, rfl, rfl, trivial⟩ (fun G X hC hX => ?_)
  have hw := s_firstWitness (A := A) (nw := nw) (nx := nx) (LO := LO) (DO := DO) (d := d) hF hn
  have hm := s_haveModel (A := A) (nw := nw) (nx := nx) (LO := LO) (DO := DO) (d := d) hF hn
  have ha := s_allowed (A := A) (nw := nw) (nx := nx) (LO := LO) (DO := DO) (d := d + 1) hF hn
  unfold sPr at hX
  by_cases c9 : F 9 = 0
  · rw [if_pos c9] at hX
    cases hq : sMod (A 19) (A 20) n (sAl (A 19) (A 20) n 0 65535) with
    | none =>
      rw [hq] at hm hX
      refine gm_runs hC [] 200 _ _ _ _ _ _ ?_
      refine gx_t c9 (Or.inl ⟨_, _, _, _, hm, gx_f (show ¬ (1 : Int32) = 0 from by decide) (Or.inl ⟨_, _, _, _, ha, And.intro (fun (c : ¬ sAl (A 19) (A 20) n 0 65535 &&& F 10 = 0) => ?_) (fun (c : ¬ ¬ sAl (A 19) (A 20) n 0 65535 &&& F 10 = 0) => ?_)⟩)⟩)
      · rw [decide_eq_false c] at hX
        exact gx_z hX (Or.inl rfl) rfl rfl
      · rw [decide_eq_true (Decidable.of_not_not c)] at hX
        exact gx_z hX (Or.inr rfl) rfl rfl
    | some j =>
      rw [hq] at hm hX
      refine gm_runs hC [] 200 _ _ _ _ _ _ ?_
      exact gx_t c9 (Or.inl ⟨_, _, _, _, hm, gx_t (show (0 : Int32) = 0 from rfl) (gx_z hX (Or.inr rfl) rfl rfl)⟩)
  · rw [if_neg c9] at hX
    cases hq : sMod (A 19) (A 20) n (sAl (A 19) (A 20) n 0 65535 &&& (F 10 ^^^ (-1))) with
    | none =>
      rw [hq] at hw hX
      refine gm_runs hC [] 200 _ _ _ _ _ _ ?_
      exact gx_f c9 (Or.inl ⟨_, _, _, _, hw, gx_t (show (-1 : Int32) = gm_lit (-1) from by decide) (gx_z hX (Or.inl rfl) rfl rfl)⟩)
    | some j =>
      have hj := (sFst_lt hq).2.1
      rw [hq] at hw hX
      refine gm_runs hC [] 200 _ _ _ _ _ _ ?_
      exact gx_f c9 (Or.inl ⟨_, _, _, _, hw, gx_f (show ¬ nI j = gm_lit (-1) from fun z => nI_pos (n := j) (by omega) (by rw [z]; decide)) (gx_z hX (Or.inr rfl) rfl rfl)⟩)
end X