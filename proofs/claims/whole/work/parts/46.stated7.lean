/-! STATEMENTS of the reference -/
/-- the regions that statement j of the reference speaks of; whether it demands -/
def mP (A : Nat → Nat → Int32) (j : Nat) : Int32 := sReg (A 30 j) (A 29 (A 31 j).toNatClampNeg) (A 29 (A 32 j).toNatClampNeg)
def mD (A : Nat → Nat → Int32) (j : Nat) : Int32 := gB (sDem (A 30 j))
/-- its statements speak of terms -/
def mOk (A : Nat → Nat → Int32) (n : Nat) : Prop := n ≤ 6 ∧ ∀ j, j < n → ∃ a b, a < 120 ∧ b < 120 ∧ A 31 j = nI a ∧ A 32 j = nI b
section X
variable {nw nx : Nat} {LO : Nat → Int64} {DO : Nat → UInt64} {d n : Nat} {A : Nat → Nat → Int32} {F : Nat → Int32}
theorem s_assumed (h : mOk A n) {j : Nat} (hj : j < n) : gm_Sp gm_MT (d + 2) 8050 [.ref 24, .int (nI j)] (gw A F nw nx LO DO) (.inl (some (.int (mP A j)))) (gw A F nw nx LO DO) 0 0 := by
  obtain ⟨hn, hh⟩ := h
  obtain ⟨a, b, ha, hb, ea, eb⟩ := hh j hj
  have hcl : (nI j).toNatClampNeg = j := nI_clamp (by omega)
  have hvj := vp_in_nI (n := j) (N := 6) (by omega) (by omega)
  have hr := s_regionsOf (A := A) (F := F) (nw := nw) (nx := nx) (LO := LO) (DO := DO) (d := d) (A 30 j) ha hb
  have e : mP A j = sReg (A 30 j) (A 29 a) (A 29 b) := by
    unfold mP
    rw [ea, eb, nI_clamp (show a < 2 ^ 31 by omega), nI_clamp (show b < 2 ^ 31 by omega)]
  rw [← e, ← ea, ← eb] at hr
  have hr2 : gm_Sp gm_MT (d + 1) 8049 [.ref 24, .int (A 30 (nI j).toNatClampNeg), .int (A 31 (nI j).toNatClampNeg), .int (A 32 (nI j).toNatClampNeg)] (gw A F nw nx LO DO) (.inl (some (.int (mP A j)))) (gw A F nw nx LO DO) 0 0 := by rw [hcl]; exact hr
  refine gm_mk gm_mX7_assumed rfl ⟨Or.inr rfl, rfl, rfl, trivial⟩ (fun G X hC hX => ?_)
  refine gm_runs hC [] 200 _ _ _ _ _ _ ?_
  exact And.intro hvj (And.intro hvj (And.intro hvj (Or.inl ⟨_, _, _, _, hr2, hX⟩)))
theorem s_isDemandN (j : Nat) (hj : j < 6) : gm_Sp gm_MT (d + 1) 8048 [.int (A 30 (nI j).toNatClampNeg)] (gw A F nw nx LO DO) (.inl (some (.int (mD A j)))) (gw A F nw nx LO DO) 0 0 := by
  have := s_isDemand7 (A := A) (F := F) (nw := nw) (nx := nx) (LO := LO) (DO := DO) (d := d) (A 30 j)
  rw [nI_clamp (by omega)]
  exact this
theorem s_allowed7 (h : mOk A n) (hF : F 22 = nI n) : gm_Sp gm_MT (d + 3) 8057 [.ref 24] (gw A F nw nx LO DO) (.inl (some (.int (sAl (mD A) (mP A) n 0 65535)))) (gw A F nw nx LO DO) 0 0 := by
  have hn := h.1
  refine gm_mk gm_mX7_allowed rfl ⟨Or.inr rfl, rfl, rfl, trivial⟩ (fun G X hC hX => ?_)
  have loop : ∀ (m i : Nat) (acc : Int32), i + m = n → X (.inl (some (.int (sAl (mD A) (mP A) m i acc)))) (gw A F nw nx LO DO) 0 0 → G 5 [some (.ref 24), some (.int acc), some (.int (nI i))] [] (gw A F nw nx LO DO) 0 0 := by
    intro m
    induction m with
    | zero =>
      intro i acc hi hY
      refine gm_run1 hC [5] 200 5 ?_
      exact gx_t (show F 22 ≤ nI i from by rw [hF]; exact nI_le (by omega) (by omega)) (gx_i hY rfl rfl)
    | succ m ih =>
      intro i acc hi hY
      have hd := s_isDemandN (A := A) (F := F) (nw := nw) (nx := nx) (LO := LO) (DO := DO) (d := d + 1) i (by omega)
      have hp := s_assumed (F := F) (nw := nw) (nx := nx) (LO := LO) (DO := DO) (d := d) h (j := i) (by omega)
      have hvi := vp_in_nI (n := i) (N := 6) (by omega) (by omega)
      unfold sAl at hY
      have n1 : ¬ F 22 ≤ nI i := by rw [hF]; exact nI_ge (by omega) (by omega)
      by_cases c : mD A i = 0
      · rw [if_pos c] at hY
        have h9 := ih (i + 1) _ (by omega) hY
        rw [← nI_1, ← gm_m1] at h9
        refine gm_run1 hC [5] 200 5 ?_
        exact gx_f n1 (And.intro hvi (Or.inl ⟨_, _, _, _, hd, gx_f (show ¬ ¬ mD A i = 0 from fun z => z c) (Or.inl ⟨_, _, _, _, hp, h9⟩)⟩))
      · rw [if_neg c] at hY
        have h9 := ih (i + 1) _ (by omega) hY
        rw [← nI_1] at h9
        refine gm_run1 hC [5] 200 5 ?_
        exact gx_f n1 (And.intro hvi (Or.inl ⟨_, _, _, _, hd, gx_t (show ¬ mD A i = 0 from c) h9⟩))
  refine gm_runs hC [5] 200 _ _ _ _ _ _ ?_
  exact loop n 0 65535 (by omega) hX
theorem s_hasModel (h : mOk A n) (hF : F 22 = nI n) (x : Int32) : gm_Sp gm_MT (d + 3) 8058 [.ref 24, .int x] (gw A F nw nx LO DO) (.inl (some (.int (gB (sMod (mD A) (mP A) n x).isNone)))) (gw A F nw nx LO DO) 0 0 := by
  have hn := h.1
  refine gm_mk gm_mX7_hasModel rfl ⟨Or.inr rfl, rfl, rfl, trivial⟩ (fun G X hC hX => ?_)
  unfold sMod at hX
  have loop : ∀ (m i : Nat), i + m = n → X (.inl (some (.int (gB (sFst (fun i => decide (¬ mD A i = 0 ∧ mP A i &&& x = 0)) m i).isNone)))) (gw A F nw nx LO DO) 0 0 → G 2 [some (.ref 24), some (.int x), some (.int (nI i))] [] (gw A F nw nx LO DO) 0 0 := by
    intro m
    induction m with
    | zero =>
      intro i hi hY
      have hY : X (.inl (some (.int 1))) (gw A F nw nx LO DO) 0 0 := hY
      refine gm_run1 hC [2] 200 2 ?_
      exact gx_t (show F 22 ≤ nI i from by rw [hF]; exact nI_le (by omega) (by omega)) (gx_z hY (Or.inr rfl) rfl rfl)
    | succ m ih =>
      intro i hi hY
      have hd := s_isDemandN (A := A) (F := F) (nw := nw) (nx := nx) (LO := LO) (DO := DO) (d := d + 1) i (by omega)
      have hp := s_assumed (F := F) (nw := nw) (nx := nx) (LO := LO) (DO := DO) (d := d) h (j := i) (by omega)
      have hvi := vp_in_nI (n := i) (N := 6) (by omega) (by omega)
      unfold sFst at hY
      have n1 : ¬ F 22 ≤ nI i := by rw [hF]; exact nI_ge (by omega) (by omega)
      have nxt : ¬ (¬ mD A i = 0 ∧ mP A i &&& x = 0) → G 2 [some (.ref 24), some (.int x), some (.int (nI i + 1))] [] (gw A F nw nx LO DO) 0 0 := fun c => by
        rw [decide_eq_false c] at hY
        rw [nI_1]
        exact ih (i + 1) (by omega) hY
      clear ih
      refine gm_run1 hC [2] 200 2 ?_
      refine gx_f n1 (And.intro hvi (Or.inl ⟨_, _, _, _, hd, And.intro (fun (c : mD A i = 0) => nxt (fun z => z.1 c)) (fun (c : ¬ mD A i = 0) => Or.inl ⟨_, _, _, _, hp, And.intro (fun (c2 : ¬ mP A i &&& x = 0) => nxt (fun z => c2 z.2)) (fun (c2 : ¬ ¬ mP A i &&& x = 0) => ?_)⟩)⟩))
      rw [decide_eq_true (show ¬ mD A i = 0 ∧ mP A i &&& x = 0 from ⟨c, Decidable.of_not_not c2⟩)] at hY
      exact gx_z hY (Or.inl rfl) rfl rfl
  refine gm_runs hC [2] 200 _ _ _ _ _ _ ?_
  exact loop n 0 (by omega) hX
theorem s_isConsistent7 (h : mOk A n) (hF : F 22 = nI n) : gm_Sp gm_MT (d + 4) 8059 [.ref 24] (gw A F nw nx LO DO) (.inl (some (.int (gB (sMod (mD A) (mP A) n (sAl (mD A) (mP A) n 0 65535)).isNone)))) (gw A F nw nx LO DO) 0 0 := by
  refine gm_mk gm_mX7_isConsistent rfl ⟨Or.inr rfl, rfl, rfl, trivial⟩ (fun G X hC hX => ?_)
  have h1 := s_allowed7 (F := F) (nw := nw) (nx := nx) (LO := LO) (DO := DO) (d := d) h hF
  have h2 := s_hasModel (F := F) (nw := nw) (nx := nx) (LO := LO) (DO := DO) (d := d) h hF (sAl (mD A) (mP A) n 0 65535)
  refine gm_runs hC [] 200 _ _ _ _ _ _ ?_
  exact Or.inl ⟨_, _, _, _, h1, Or.inl ⟨_, _, _, _, h2, gx_z hX (gB_01 _) rfl rfl⟩⟩
end X