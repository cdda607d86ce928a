/-! REWRITING: the prover's step -/
section X
variable {nw nx : Nat} {LO : Nat → Int64} {DO : Nat → UInt64} {d : Nat} {A0 A : Nat → Nat → Int32} {F0 F : Nat → Int32} {l o : List Int32} {r e fl fc r2 e2 fl2 fc2 : Nat}
/-- what is written, by the rule -/
theorem s_putRewritten_of {i : Nat} (hxx : gXX nw r e fl fc nx r2 e2 fl2 fc2) (h : gW2 A0 F0 r e fl r2 fl2 l o A F) (hi1 : i + 1 < l.length) (hpl : F 1 = nI i) {A' : Nat → Nat → Int32} {F' : Nat → Int32}
    (hrun : ∀ (G : pG) (X : pX), gm_cl gm_mX1_putRewritten gm_tyf none (gm_Sp gm_MT (d + 3)) G X → X (.inl none) (gw A' F' nw nx LO DO) 0 0 → G 16 [some (.ref 7), some (.int (nI (tE l i))), some (.int (nI (i + 1))), some (.int (nI (tE l (i + 1))))] [] (gw A F nw nx LO DO) 0 0) : gm_Sp gm_MT (d + 4) 2010 [.ref 7, .int (nI (tE l i))] (gw A F nw nx LO DO) (.inl none) (gw A' F' nw nx LO DO) 0 0 := by
  have hE := gW2.endOf (LO := LO) (DO := DO) (d := d + 2) hxx h hi1
  refine gm_mk gm_mX1_putRewritten rfl ⟨Or.inr rfl, rfl, rfl, trivial⟩ (fun G X hC hX => ?_)
  have h9 := hrun G X hC hX
  clear hrun
  rw [← nI_1, ← hpl] at hE h9
  rcases hxx with ⟨rfl, rfl, rfl, rfl, rfl, rfl, rfl, rfl, rfl, rfl⟩ | ⟨rfl, rfl, rfl, rfl, rfl, rfl, rfl, rfl, rfl, rfl⟩
  all_goals
    refine gm_runs hC [16] 200 _ _ _ _ _ _ ?_
    exact Or.inl ⟨_, _, _, _, hE, h9⟩
theorem s_putRewritten_110 {i : Nat} (hxx : gXX nw r e fl fc nx r2 e2 fl2 fc2) (h : gW2 A0 F0 r e fl r2 fl2 l o A F) (hi1 : i + 1 < l.length) (hpl : F 1 = nI i) (h2 : F 2 = 110) (hw : tE l i ≤ l.length) (h3 : i + 2 ≤ tE l i) (ho : o.length + (tE l i - (i + 2)) ≤ 81) : ∃ A' F', gW2 A0 F0 r e fl r2 fl2 l (o ++ tBody l i 110) A' F' ∧ gm_Sp gm_MT (d + 4) 2010 [.ref 7, .int (nI (tE l i))] (gw A F nw nx LO DO) (.inl none) (gw A' F' nw nx LO DO) 0 0 := by
  obtain ⟨A1, F1, h1, s1⟩ := gW2.part (LO := LO) (DO := DO) (d := d + 1) (a := i + 2) (b := tE l i) hxx h h3 hw ho
  rw [show nI (i + 2) = nI (i + 1) + 1 from (nI_1 (i + 1)).symm] at s1
  refine ⟨_, _, ?_, s_putRewritten_of (A' := A1) (F' := F1) hxx h hi1 hpl (fun G X hC hX => ?_)⟩
  · rw [tBody_110]; exact h1
  rcases hxx with ⟨rfl, rfl, rfl, rfl, rfl, rfl, rfl, rfl, rfl, rfl⟩ | ⟨rfl, rfl, rfl, rfl, rfl, rfl, rfl, rfl, rfl, rfl⟩
  all_goals
    refine gm_run1 hC [16] 200 16 ?_
    exact gx_f (show ¬ F 2 = 100 from by rw [h2]; decide) (gx_f (show ¬ F 2 = 101 from by rw [h2]; decide) (gx_f (show ¬ F 2 = 102 from by rw [h2]; decide) (gx_f (show ¬ F 2 = 103 from by rw [h2]; decide) (gx_f (show ¬ F 2 = 104 from by rw [h2]; decide) (gx_f (show ¬ F 2 = 105 from by rw [h2]; decide) (gx_f (show ¬ F 2 = 106 from by rw [h2]; decide) (gx_f (show ¬ F 2 = 107 from by rw [h2]; decide) (gx_f (show ¬ F 2 = 108 from by rw [h2]; decide) (gx_f (show ¬ F 2 = 109 from by rw [h2]; decide) (gx_t (show F 2 = 110 from h2) (Or.inl ⟨_, _, _, _, s1, hX⟩)))))))))))
theorem s_putRewritten_105 {i : Nat} (hxx : gXX nw r e fl fc nx r2 e2 fl2 fc2) (h : gW2 A0 F0 r e fl r2 fl2 l o A F) (hi1 : i + 1 < l.length) (hpl : F 1 = nI i) (h2 : F 2 = 105) (hw : tE l i ≤ l.length) (h3 : i + 2 < l.length) (h4 : tE l (i + 2) ≤ tE l i) (ho : o.length + 3 + (tE l i - (i + 2)) ≤ 81) : ∃ A' F', gW2 A0 F0 r e fl r2 fl2 l (o ++ tBody l i 105) A' F' ∧ gm_Sp gm_MT (d + 4) 2010 [.ref 7, .int (nI (tE l i))] (gw A F nw nx LO DO) (.inl none) (gw A' F' nw nx LO DO) 0 0 := by
  obtain ⟨A1, F1, h1, s1⟩ := s_putComplements (LO := LO) (DO := DO) (d := d) (k := 85) (a := i + 2) (b := tE l i) hxx h (by decide) h3 h4 hw ho
  rw [show nI (i + 2) = nI (i + 1) + 1 from (nI_1 (i + 1)).symm] at s1
  refine ⟨_, _, ?_, s_putRewritten_of (A' := A1) (F' := F1) hxx h hi1 hpl (fun G X hC hX => ?_)⟩
  · rw [tBody_105]; exact h1
  rcases hxx with ⟨rfl, rfl, rfl, rfl, rfl, rfl, rfl, rfl, rfl, rfl⟩ | ⟨rfl, rfl, rfl, rfl, rfl, rfl, rfl, rfl, rfl, rfl⟩
  all_goals
    refine gm_run1 hC [16] 200 16 ?_
    exact gx_f (show ¬ F 2 = 100 from by rw [h2]; decide) (gx_f (show ¬ F 2 = 101 from by rw [h2]; decide) (gx_f (show ¬ F 2 = 102 from by rw [h2]; decide) (gx_f (show ¬ F 2 = 103 from by rw [h2]; decide) (gx_f (show ¬ F 2 = 104 from by rw [h2]; decide) (gx_t (show F 2 = 105 from h2) (Or.inl ⟨_, _, _, _, s1, hX⟩))))))
theorem s_putRewritten_117 {i : Nat} (hxx : gXX nw r e fl fc nx r2 e2 fl2 fc2) (h : gW2 A0 F0 r e fl r2 fl2 l o A F) (hi1 : i + 1 < l.length) (hpl : F 1 = nI i) (h2 : F 2 = 117) (hw : tE l i ≤ l.length) (h3 : i + 2 < l.length) (h4 : tE l (i + 2) ≤ tE l i) (ho : o.length + 3 + (tE l i - (i + 2)) ≤ 81) : ∃ A' F', gW2 A0 F0 r e fl r2 fl2 l (o ++ tBody l i 117) A' F' ∧ gm_Sp gm_MT (d + 4) 2010 [.ref 7, .int (nI (tE l i))] (gw A F nw nx LO DO) (.inl none) (gw A' F' nw nx LO DO) 0 0 := by
  obtain ⟨A1, F1, h1, s1⟩ := s_putComplements (LO := LO) (DO := DO) (d := d) (k := 73) (a := i + 2) (b := tE l i) hxx h (by decide) h3 h4 hw ho
  rw [show nI (i + 2) = nI (i + 1) + 1 from (nI_1 (i + 1)).symm] at s1
  refine ⟨_, _, ?_, s_putRewritten_of (A' := A1) (F' := F1) hxx h hi1 hpl (fun G X hC hX => ?_)⟩
  · rw [tBody_117]; exact h1
  rcases hxx with ⟨rfl, rfl, rfl, rfl, rfl, rfl, rfl, rfl, rfl, rfl⟩ | ⟨rfl, rfl, rfl, rfl, rfl, rfl, rfl, rfl, rfl, rfl⟩
  all_goals
    refine gm_run1 hC [16] 200 16 ?_
    exact gx_f (show ¬ F 2 = 100 from by rw [h2]; decide) (gx_f (show ¬ F 2 = 101 from by rw [h2]; decide) (gx_f (show ¬ F 2 = 102 from by rw [h2]; decide) (gx_f (show ¬ F 2 = 103 from by rw [h2]; decide) (gx_f (show ¬ F 2 = 104 from by rw [h2]; decide) (gx_f (show ¬ F 2 = 105 from by rw [h2]; decide) (gx_f (show ¬ F 2 = 106 from by rw [h2]; decide) (gx_f (show ¬ F 2 = 107 from by rw [h2]; decide) (gx_f (show ¬ F 2 = 108 from by rw [h2]; decide) (gx_f (show ¬ F 2 = 109 from by rw [h2]; decide) (gx_f (show ¬ F 2 = 110 from by rw [h2]; decide) (gx_f (show ¬ F 2 = 111 from by rw [h2]; decide) (gx_f (show ¬ F 2 = 112 from by rw [h2]; decide) (gx_f (show ¬ F 2 = 113 from by rw [h2]; decide) (gx_f (show ¬ F 2 = 114 from by rw [h2]; decide) (gx_f (show ¬ F 2 = 115 from by rw [h2]; decide) (gx_f (show ¬ F 2 = 116 from by rw [h2]; decide) (gx_t (show F 2 = 117 from h2) (Or.inl ⟨_, _, _, _, s1, hX⟩))))))))))))))))))
theorem s_putRewritten_100 {i : Nat} (hxx : gXX nw r e fl fc nx r2 e2 fl2 fc2) (h : gW2 A0 F0 r e fl r2 fl2 l o A F) (hi1 : i + 1 < l.length) (hpl : F 1 = nI i) (h2 : F 2 = 100) (hw : tE l i ≤ l.length) (h3 : i + 1 ≤ tE l (i + 1)) (h4 : tE l (i + 1) ≤ tE l i) (ho : o.length + 2 + (tE l i - (i + 1)) ≤ 81) : ∃ A' F', gW2 A0 F0 r e fl r2 fl2 l (o ++ tBody l i 100) A' F' ∧ gm_Sp gm_MT (d + 4) 2010 [.ref 7, .int (nI (tE l i))] (gw A F nw nx LO DO) (.inl none) (gw A' F' nw nx LO DO) 0 0 := by
  obtain ⟨A4, F4, h5, s1⟩ := gW2.put (LO := LO) (DO := DO) (d := d + 2) (k := 73) hxx h (by omega) (by decide)
  obtain ⟨A3, F3, h6, s2⟩ := gW2.part (LO := LO) (DO := DO) (d := d + 1) (a := i + 1) (b := tE l (i + 1)) hxx h5 h3 (by omega) (by simp; omega)
  obtain ⟨A2, F2, h7, s3⟩ := gW2.put (LO := LO) (DO := DO) (d := d + 2) (k := 67) hxx h6 (by simp [tSl_len (show tE l (i + 1) ≤ l.length by omega)]; omega) (by decide)
  obtain ⟨A1, F1, h1, s4⟩ := gW2.part (LO := LO) (DO := DO) (d := d + 1) (a := tE l (i + 1)) (b := tE l i) hxx h7 h4 hw (by simp [tSl_len (show tE l (i + 1) ≤ l.length by omega)]; omega)
  refine ⟨_, _, ?_, s_putRewritten_of (A' := A1) (F' := F1) hxx h hi1 hpl (fun G X hC hX => ?_)⟩
  · rw [tBody_100]; simpa using h1
  rcases hxx with ⟨rfl, rfl, rfl, rfl, rfl, rfl, rfl, rfl, rfl, rfl⟩ | ⟨rfl, rfl, rfl, rfl, rfl, rfl, rfl, rfl, rfl, rfl⟩
  all_goals
    refine gm_run1 hC [16] 200 16 ?_
    exact gx_t (show F 2 = 100 from h2) (Or.inl ⟨_, _, _, _, s1, Or.inl ⟨_, _, _, _, s2, Or.inl ⟨_, _, _, _, s3, Or.inl ⟨_, _, _, _, s4, hX⟩⟩⟩⟩)
theorem s_putRewritten_115 {i : Nat} (hxx : gXX nw r e fl fc nx r2 e2 fl2 fc2) (h : gW2 A0 F0 r e fl r2 fl2 l o A F) (hi1 : i + 1 < l.length) (hpl : F 1 = nI i) (h2 : F 2 = 115) (hw : tE l i ≤ l.length) (h3 : i + 1 ≤ tE l (i + 1)) (h4 : tE l (i + 1) ≤ tE l i) (ho : o.length + 3 + 2 * (tE l i - (i + 1)) ≤ 81) : ∃ A' F', gW2 A0 F0 r e fl r2 fl2 l (o ++ tBody l i 115) A' F' ∧ gm_Sp gm_MT (d + 4) 2010 [.ref 7, .int (nI (tE l i))] (gw A F nw nx LO DO) (.inl none) (gw A' F' nw nx LO DO) 0 0 := by
  obtain ⟨A1, F1, h1, s1⟩ := s_putDifferences (LO := LO) (DO := DO) (d := d) (p := i + 1) (q := tE l (i + 1)) (b := tE l i) hxx h h3 h4 hw ho
  refine ⟨_, _, ?_, s_putRewritten_of (A' := A1) (F' := F1) hxx h hi1 hpl (fun G X hC hX => ?_)⟩
  · rw [tBody_115]; exact h1
  rcases hxx with ⟨rfl, rfl, rfl, rfl, rfl, rfl, rfl, rfl, rfl, rfl⟩ | ⟨rfl, rfl, rfl, rfl, rfl, rfl, rfl, rfl, rfl, rfl⟩
  all_goals
    refine gm_run1 hC [16] 200 16 ?_
    exact gx_f (show ¬ F 2 = 100 from by rw [h2]; decide) (gx_f (show ¬ F 2 = 101 from by rw [h2]; decide) (gx_f (show ¬ F 2 = 102 from by rw [h2]; decide) (gx_f (show ¬ F 2 = 103 from by rw [h2]; decide) (gx_f (show ¬ F 2 = 104 from by rw [h2]; decide) (gx_f (show ¬ F 2 = 105 from by rw [h2]; decide) (gx_f (show ¬ F 2 = 106 from by rw [h2]; decide) (gx_f (show ¬ F 2 = 107 from by rw [h2]; decide) (gx_f (show ¬ F 2 = 108 from by rw [h2]; decide) (gx_f (show ¬ F 2 = 109 from by rw [h2]; decide) (gx_f (show ¬ F 2 = 110 from by rw [h2]; decide) (gx_f (show ¬ F 2 = 111 from by rw [h2]; decide) (gx_f (show ¬ F 2 = 112 from by rw [h2]; decide) (gx_f (show ¬ F 2 = 113 from by rw [h2]; decide) (gx_f (show ¬ F 2 = 114 from by rw [h2]; decide) (gx_t (show F 2 = 115 from h2) (Or.inl ⟨_, _, _, _, s1, hX⟩))))))))))))))))
theorem s_putRewritten_111 {i : Nat} (hxx : gXX nw r e fl fc nx r2 e2 fl2 fc2) (h : gW2 A0 F0 r e fl r2 fl2 l o A F) (hi1 : i + 1 < l.length) (hpl : F 1 = nI i) (h2 : F 2 = 111) (hw : tE l i ≤ l.length) (h3 : i + 1 ≤ tE l (i + 1)) (h4 : tE l (i + 1) ≤ tE l i) (ho : o.length + (tE l i - (i + 1)) ≤ 81) : ∃ A' F', gW2 A0 F0 r e fl r2 fl2 l (o ++ tBody l i 111) A' F' ∧ gm_Sp gm_MT (d + 4) 2010 [.ref 7, .int (nI (tE l i))] (gw A F nw nx LO DO) (.inl none) (gw A' F' nw nx LO DO) 0 0 := by
  obtain ⟨A1, F1, h1, s1⟩ := s_putOtherSide (LO := LO) (DO := DO) (d := d) (k := 49) (p := i + 1) (q := tE l (i + 1)) (b := tE l i) hxx h hi1 h3 h4 hw ho
  refine ⟨_, _, ?_, s_putRewritten_of (A' := A1) (F' := F1) hxx h hi1 hpl (fun G X hC hX => ?_)⟩
  · rw [tBody_111]; exact h1
  rcases hxx with ⟨rfl, rfl, rfl, rfl, rfl, rfl, rfl, rfl, rfl, rfl⟩ | ⟨rfl, rfl, rfl, rfl, rfl, rfl, rfl, rfl, rfl, rfl⟩
  all_goals
    refine gm_run1 hC [16] 200 16 ?_
    exact gx_f (show ¬ F 2 = 100 from by rw [h2]; decide) (gx_f (show ¬ F 2 = 101 from by rw [h2]; decide) (gx_f (show ¬ F 2 = 102 from by rw [h2]; decide) (gx_f (show ¬ F 2 = 103 from by rw [h2]; decide) (gx_f (show ¬ F 2 = 104 from by rw [h2]; decide) (gx_f (show ¬ F 2 = 105 from by rw [h2]; decide) (gx_f (show ¬ F 2 = 106 from by rw [h2]; decide) (gx_f (show ¬ F 2 = 107 from by rw [h2]; decide) (gx_f (show ¬ F 2 = 108 from by rw [h2]; decide) (gx_f (show ¬ F 2 = 109 from by rw [h2]; decide) (gx_f (show ¬ F 2 = 110 from by rw [h2]; decide) (gx_t (show F 2 = 111 from h2) (Or.inl ⟨_, _, _, _, s1, hX⟩))))))))))))
theorem s_putRewritten_121 {i : Nat} (hxx : gXX nw r e fl fc nx r2 e2 fl2 fc2) (h : gW2 A0 F0 r e fl r2 fl2 l o A F) (hi1 : i + 1 < l.length) (hpl : F 1 = nI i) (h2 : F 2 = 121) (hw : tE l i ≤ l.length) (h3 : i + 1 ≤ tE l (i + 1)) (h4 : tE l (i + 1) ≤ tE l i) (ho : o.length + (tE l i - (i + 1)) ≤ 81) : ∃ A' F', gW2 A0 F0 r e fl r2 fl2 l (o ++ tBody l i 121) A' F' ∧ gm_Sp gm_MT (d + 4) 2010 [.ref 7, .int (nI (tE l i))] (gw A F nw nx LO DO) (.inl none) (gw A' F' nw nx LO DO) 0 0 := by
  obtain ⟨A1, F1, h1, s1⟩ := s_putOtherSide (LO := LO) (DO := DO) (d := d) (k := 48) (p := i + 1) (q := tE l (i + 1)) (b := tE l i) hxx h hi1 h3 h4 hw ho
  refine ⟨_, _, ?_, s_putRewritten_of (A' := A1) (F' := F1) hxx h hi1 hpl (fun G X hC hX => ?_)⟩
  · rw [tBody_121]; exact h1
  rcases hxx with ⟨rfl, rfl, rfl, rfl, rfl, rfl, rfl, rfl, rfl, rfl⟩ | ⟨rfl, rfl, rfl, rfl, rfl, rfl, rfl, rfl, rfl, rfl⟩
  all_goals
    refine gm_run1 hC [16] 200 16 ?_
    exact gx_f (show ¬ F 2 = 100 from by rw [h2]; decide) (gx_f (show ¬ F 2 = 101 from by rw [h2]; decide) (gx_f (show ¬ F 2 = 102 from by rw [h2]; decide) (gx_f (show ¬ F 2 = 103 from by rw [h2]; decide) (gx_f (show ¬ F 2 = 104 from by rw [h2]; decide) (gx_f (show ¬ F 2 = 105 from by rw [h2]; decide) (gx_f (show ¬ F 2 = 106 from by rw [h2]; decide) (gx_f (show ¬ F 2 = 107 from by rw [h2]; decide) (gx_f (show ¬ F 2 = 108 from by rw [h2]; decide) (gx_f (show ¬ F 2 = 109 from by rw [h2]; decide) (gx_f (show ¬ F 2 = 110 from by rw [h2]; decide) (gx_f (show ¬ F 2 = 111 from by rw [h2]; decide) (gx_f (show ¬ F 2 = 112 from by rw [h2]; decide) (gx_f (show ¬ F 2 = 113 from by rw [h2]; decide) (gx_f (show ¬ F 2 = 114 from by rw [h2]; decide) (gx_f (show ¬ F 2 = 115 from by rw [h2]; decide) (gx_f (show ¬ F 2 = 116 from by rw [h2]; decide) (gx_f (show ¬ F 2 = 117 from by rw [h2]; decide) (gx_f (show ¬ F 2 = 118 from by rw [h2]; decide) (gx_f (show ¬ F 2 = 119 from by rw [h2]; decide) (gx_f (show ¬ F 2 = 120 from by rw [h2]; decide) (gx_t (show F 2 = 121 from h2) (Or.inl ⟨_, _, _, _, s1, hX⟩))))))))))))))))))))))
theorem s_putRewritten_112 {i : Nat} (hxx : gXX nw r e fl fc nx r2 e2 fl2 fc2) (h : gW2 A0 F0 r e fl r2 fl2 l o A F) (hi1 : i + 1 < l.length) (hpl : F 1 = nI i) (h2 : F 2 = 112) (hw : tE l i ≤ l.length) (h3 : i + 1 ≤ tE l (i + 1)) (h4 : tE l (i + 1) ≤ tE l i) (ho : o.length + (tE l i - (i + 1)) ≤ 81) : ∃ A' F', gW2 A0 F0 r e fl r2 fl2 l (o ++ tBody l i 112) A' F' ∧ gm_Sp gm_MT (d + 4) 2010 [.ref 7, .int (nI (tE l i))] (gw A F nw nx LO DO) (.inl none) (gw A' F' nw nx LO DO) 0 0 := by
  obtain ⟨A1, F1, h1, s1⟩ := gW2.part (LO := LO) (DO := DO) (d := d + 1) (a := i + 1) (b := tE l (i + 1)) hxx h h3 (by omega) (by omega)
  refine ⟨_, _, ?_, s_putRewritten_of (A' := A1) (F' := F1) hxx h hi1 hpl (fun G X hC hX => ?_)⟩
  · rw [tBody_112]; exact h1
  rcases hxx with ⟨rfl, rfl, rfl, rfl, rfl, rfl, rfl, rfl, rfl, rfl⟩ | ⟨rfl, rfl, rfl, rfl, rfl, rfl, rfl, rfl, rfl, rfl⟩
  all_goals
    refine gm_run1 hC [16] 200 16 ?_
    exact gx_f (show ¬ F 2 = 100 from by rw [h2]; decide) (gx_f (show ¬ F 2 = 101 from by rw [h2]; decide) (gx_f (show ¬ F 2 = 102 from by rw [h2]; decide) (gx_f (show ¬ F 2 = 103 from by rw [h2]; decide) (gx_f (show ¬ F 2 = 104 from by rw [h2]; decide) (gx_f (show ¬ F 2 = 105 from by rw [h2]; decide) (gx_f (show ¬ F 2 = 106 from by rw [h2]; decide) (gx_f (show ¬ F 2 = 107 from by rw [h2]; decide) (gx_f (show ¬ F 2 = 108 from by rw [h2]; decide) (gx_f (show ¬ F 2 = 109 from by rw [h2]; decide) (gx_f (show ¬ F 2 = 110 from by rw [h2]; decide) (gx_f (show ¬ F 2 = 111 from by rw [h2]; decide) (gx_t (show F 2 = 112 from h2) (Or.inl ⟨_, _, _, _, s1, hX⟩)))))))))))))
theorem s_putRewritten_99 {i : Nat} (hxx : gXX nw r e fl fc nx r2 e2 fl2 fc2) (h : gW2 A0 F0 r e fl r2 fl2 l o A F) (hi1 : i + 1 < l.length) (hpl : F 1 = nI i) (h2 : F 2 = 99) (ho : o.length < 81) : ∃ A' F', gW2 A0 F0 r e fl r2 fl2 l (o ++ tBody l i 99) A' F' ∧ gm_Sp gm_MT (d + 4) 2010 [.ref 7, .int (nI (tE l i))] (gw A F nw nx LO DO) (.inl none) (gw A' F' nw nx LO DO) 0 0 := by
  have ha := gW2.at (LO := LO) (DO := DO) (d := d + 2) (i := i) hxx h (by omega)
  have hc := s_constantOf (A := A) (F := F) (nw := nw) (nx := nx) (LO := LO) (DO := DO) (d := d + 2) (F 2) (l.getD i 32)
  rw [← hpl] at ha
  obtain ⟨A1, F1, h1, s1⟩ := gW2.put (LO := LO) (DO := DO) (d := d + 2) (k := tCon (F 2) (l.getD i 32)) hxx h ho (tCon_ch _ _)
  rw [show tCon (F 2) (l.getD i 32) = tCon 99 (l.getD i 32) by rw [h2]] at h1
  refine ⟨_, _, ?_, s_putRewritten_of (A' := A1) (F' := F1) hxx h hi1 hpl (fun G X hC hX => ?_)⟩
  · rw [tBody_99]
    have e9 : [tCon 99 (l.getD i 32)] = (if l.getD i 32 = 85 then [49] else [48] : List Int32) := by
      unfold tCon
      rw [if_pos rfl]
      split <;> rfl
    rw [← e9]; exact h1
  rcases hxx with ⟨rfl, rfl, rfl, rfl, rfl, rfl, rfl, rfl, rfl, rfl⟩ | ⟨rfl, rfl, rfl, rfl, rfl, rfl, rfl, rfl, rfl, rfl⟩
  all_goals
    refine gm_run1 hC [16] 200 16 ?_
    exact gx_f (show ¬ F 2 = 100 from by rw [h2]; decide) (gx_f (show ¬ F 2 = 101 from by rw [h2]; decide) (gx_f (show ¬ F 2 = 102 from by rw [h2]; decide) (gx_f (show ¬ F 2 = 103 from by rw [h2]; decide) (gx_f (show ¬ F 2 = 104 from by rw [h2]; decide) (gx_f (show ¬ F 2 = 105 from by rw [h2]; decide) (gx_f (show ¬ F 2 = 106 from by rw [h2]; decide) (gx_f (show ¬ F 2 = 107 from by rw [h2]; decide) (gx_f (show ¬ F 2 = 108 from by rw [h2]; decide) (gx_f (show ¬ F 2 = 109 from by rw [h2]; decide) (gx_f (show ¬ F 2 = 110 from by rw [h2]; decide) (gx_f (show ¬ F 2 = 111 from by rw [h2]; decide) (gx_f (show ¬ F 2 = 112 from by rw [h2]; decide) (gx_f (show ¬ F 2 = 113 from by rw [h2]; decide) (gx_f (show ¬ F 2 = 114 from by rw [h2]; decide) (gx_f (show ¬ F 2 = 115 from by rw [h2]; decide) (gx_f (show ¬ F 2 = 116 from by rw [h2]; decide) (gx_f (show ¬ F 2 = 117 from by rw [h2]; decide) (gx_f (show ¬ F 2 = 118 from by rw [h2]; decide) (gx_f (show ¬ F 2 = 119 from by rw [h2]; decide) (gx_f (show ¬ F 2 = 120 from by rw [h2]; decide) (gx_f (show ¬ F 2 = 121 from by rw [h2]; decide) (Or.inl ⟨_, _, _, _, ha, Or.inl ⟨_, _, _, _, hc, Or.inl ⟨_, _, _, _, s1, hX⟩⟩⟩))))))))))))))))))))))
theorem s_putRewritten_101 {i : Nat} (hxx : gXX nw r e fl fc nx r2 e2 fl2 fc2) (h : gW2 A0 F0 r e fl r2 fl2 l o A F) (hi1 : i + 1 < l.length) (hpl : F 1 = nI i) (h2 : F 2 = 101) (ho : o.length < 81) : ∃ A' F', gW2 A0 F0 r e fl r2 fl2 l (o ++ tBody l i 101) A' F' ∧ gm_Sp gm_MT (d + 4) 2010 [.ref 7, .int (nI (tE l i))] (gw A F nw nx LO DO) (.inl none) (gw A' F' nw nx LO DO) 0 0 := by
  have ha := gW2.at (LO := LO) (DO := DO) (d := d + 2) (i := i) hxx h (by omega)
  have hc := s_constantOf (A := A) (F := F) (nw := nw) (nx := nx) (LO := LO) (DO := DO) (d := d + 2) (F 2) (l.getD i 32)
  rw [← hpl] at ha
  obtain ⟨A1, F1, h1, s1⟩ := gW2.put (LO := LO) (DO := DO) (d := d + 2) (k := tCon (F 2) (l.getD i 32)) hxx h ho (tCon_ch _ _)
  rw [show tCon (F 2) (l.getD i 32) = tCon 101 (l.getD i 32) by rw [h2]] at h1
  refine ⟨_, _, ?_, s_putRewritten_of (A' := A1) (F' := F1) hxx h hi1 hpl (fun G X hC hX => ?_)⟩
  · rw [tBody_101]; exact h1
  rcases hxx with ⟨rfl, rfl, rfl, rfl, rfl, rfl, rfl, rfl, rfl, rfl⟩ | ⟨rfl, rfl, rfl, rfl, rfl, rfl, rfl, rfl, rfl, rfl⟩
  all_goals
    refine gm_run1 hC [16] 200 16 ?_
    exact gx_f (show ¬ F 2 = 100 from by rw [h2]; decide) (gx_t (show F 2 = 101 from h2) (Or.inl ⟨_, _, _, _, ha, Or.inl ⟨_, _, _, _, hc, Or.inl ⟨_, _, _, _, s1, hX⟩⟩⟩))
theorem s_putRewritten_116 {i : Nat} (hxx : gXX nw r e fl fc nx r2 e2 fl2 fc2) (h : gW2 A0 F0 r e fl r2 fl2 l o A F) (hi1 : i + 1 < l.length) (hpl : F 1 = nI i) (h2 : F 2 = 116) (ho : o.length < 81) : ∃ A' F', gW2 A0 F0 r e fl r2 fl2 l (o ++ tBody l i 116) A' F' ∧ gm_Sp gm_MT (d + 4) 2010 [.ref 7, .int (nI (tE l i))] (gw A F nw nx LO DO) (.inl none) (gw A' F' nw nx LO DO) 0 0 := by
  have ha := gW2.at (LO := LO) (DO := DO) (d := d + 2) (i := i) hxx h (by omega)
  have hc := s_constantOf (A := A) (F := F) (nw := nw) (nx := nx) (LO := LO) (DO := DO) (d := d + 2) (F 2) (l.getD i 32)
  rw [← hpl] at ha
  obtain ⟨A1, F1, h1, s1⟩ := gW2.put (LO := LO) (DO := DO) (d := d + 2) (k := tCon (F 2) (l.getD i 32)) hxx h ho (tCon_ch _ _)
  rw [show tCon (F 2) (l.getD i 32) = tCon 116 (l.getD i 32) by rw [h2]] at h1
  refine ⟨_, _, ?_, s_putRewritten_of (A' := A1) (F' := F1) hxx h hi1 hpl (fun G X hC hX => ?_)⟩
  · rw [tBody_116]; exact h1
  rcases hxx with ⟨rfl, rfl, rfl, rfl, rfl, rfl, rfl, rfl, rfl, rfl⟩ | ⟨rfl, rfl, rfl, rfl, rfl, rfl, rfl, rfl, rfl, rfl⟩
  all_goals
    refine gm_run1 hC [16] 200 16 ?_
    exact gx_f (show ¬ F 2 = 100 from by rw [h2]; decide) (gx_f (show ¬ F 2 = 101 from by rw [h2]; decide) (gx_f (show ¬ F 2 = 102 from by rw [h2]; decide) (gx_f (show ¬ F 2 = 103 from by rw [h2]; decide) (gx_f (show ¬ F 2 = 104 from by rw [h2]; decide) (gx_f (show ¬ F 2 = 105 from by rw [h2]; decide) (gx_f (show ¬ F 2 = 106 from by rw [h2]; decide) (gx_f (show ¬ F 2 = 107 from by rw [h2]; decide) (gx_f (show ¬ F 2 = 108 from by rw [h2]; decide) (gx_f (show ¬ F 2 = 109 from by rw [h2]; decide) (gx_f (show ¬ F 2 = 110 from by rw [h2]; decide) (gx_f (show ¬ F 2 = 111 from by rw [h2]; decide) (gx_f (show ¬ F 2 = 112 from by rw [h2]; decide) (gx_f (show ¬ F 2 = 113 from by rw [h2]; decide) (gx_f (show ¬ F 2 = 114 from by rw [h2]; decide) (gx_f (show ¬ F 2 = 115 from by rw [h2]; decide) (gx_t (show F 2 = 116 from h2) (Or.inl ⟨_, _, _, _, ha, Or.inl ⟨_, _, _, _, hc, Or.inl ⟨_, _, _, _, s1, hX⟩⟩⟩)))))))))))))))))
theorem s_putRewritten_118 {i : Nat} (hxx : gXX nw r e fl fc nx r2 e2 fl2 fc2) (h : gW2 A0 F0 r e fl r2 fl2 l o A F) (hi1 : i + 1 < l.length) (hpl : F 1 = nI i) (h2 : F 2 = 118) (ho : o.length < 81) : ∃ A' F', gW2 A0 F0 r e fl r2 fl2 l (o ++ tBody l i 118) A' F' ∧ gm_Sp gm_MT (d + 4) 2010 [.ref 7, .int (nI (tE l i))] (gw A F nw nx LO DO) (.inl none) (gw A' F' nw nx LO DO) 0 0 := by
  have ha := gW2.at (LO := LO) (DO := DO) (d := d + 2) (i := i) hxx h (by omega)
  have hc := s_constantOf (A := A) (F := F) (nw := nw) (nx := nx) (LO := LO) (DO := DO) (d := d + 2) (F 2) (l.getD i 32)
  rw [← hpl] at ha
  obtain ⟨A1, F1, h1, s1⟩ := gW2.put (LO := LO) (DO := DO) (d := d + 2) (k := tCon (F 2) (l.getD i 32)) hxx h ho (tCon_ch _ _)
  rw [show tCon (F 2) (l.getD i 32) = tCon 118 (l.getD i 32) by rw [h2]] at h1
  refine ⟨_, _, ?_, s_putRewritten_of (A' := A1) (F' := F1) hxx h hi1 hpl (fun G X hC hX => ?_)⟩
  · rw [tBody_118]; exact h1
  rcases hxx with ⟨rfl, rfl, rfl, rfl, rfl, rfl, rfl, rfl, rfl, rfl⟩ | ⟨rfl, rfl, rfl, rfl, rfl, rfl, rfl, rfl, rfl, rfl⟩
  all_goals
    refine gm_run1 hC [16] 200 16 ?_
    exact gx_f (show ¬ F 2 = 100 from by rw [h2]; decide) (gx_f (show ¬ F 2 = 101 from by rw [h2]; decide) (gx_f (show ¬ F 2 = 102 from by rw [h2]; decide) (gx_f (show ¬ F 2 = 103 from by rw [h2]; decide) (gx_f (show ¬ F 2 = 104 from by rw [h2]; decide) (gx_f (show ¬ F 2 = 105 from by rw [h2]; decide) (gx_f (show ¬ F 2 = 106 from by rw [h2]; decide) (gx_f (show ¬ F 2 = 107 from by rw [h2]; decide) (gx_f (show ¬ F 2 = 108 from by rw [h2]; decide) (gx_f (show ¬ F 2 = 109 from by rw [h2]; decide) (gx_f (show ¬ F 2 = 110 from by rw [h2]; decide) (gx_f (show ¬ F 2 = 111 from by rw [h2]; decide) (gx_f (show ¬ F 2 = 112 from by rw [h2]; decide) (gx_f (show ¬ F 2 = 113 from by rw [h2]; decide) (gx_f (show ¬ F 2 = 114 from by rw [h2]; decide) (gx_f (show ¬ F 2 = 115 from by rw [h2]; decide) (gx_f (show ¬ F 2 = 116 from by rw [h2]; decide) (gx_f (show ¬ F 2 = 117 from by rw [h2]; decide) (gx_t (show F 2 = 118 from h2) (Or.inl ⟨_, _, _, _, ha, Or.inl ⟨_, _, _, _, hc, Or.inl ⟨_, _, _, _, s1, hX⟩⟩⟩)))))))))))))))))))
theorem s_putRewritten_122 {i : Nat} (hxx : gXX nw r e fl fc nx r2 e2 fl2 fc2) (h : gW2 A0 F0 r e fl r2 fl2 l o A F) (hi1 : i + 1 < l.length) (hpl : F 1 = nI i) (h2 : F 2 = 122) (ho : o.length < 81) : ∃ A' F', gW2 A0 F0 r e fl r2 fl2 l (o ++ tBody l i 122) A' F' ∧ gm_Sp gm_MT (d + 4) 2010 [.ref 7, .int (nI (tE l i))] (gw A F nw nx LO DO) (.inl none) (gw A' F' nw nx LO DO) 0 0 := by
  have ha := gW2.at (LO := LO) (DO := DO) (d := d + 2) (i := i) hxx h (by omega)
  have hc := s_constantOf (A := A) (F := F) (nw := nw) (nx := nx) (LO := LO) (DO := DO) (d := d + 2) (F 2) (l.getD i 32)
  rw [← hpl] at ha
  obtain ⟨A1, F1, h1, s1⟩ := gW2.put (LO := LO) (DO := DO) (d := d + 2) (k := tCon (F 2) (l.getD i 32)) hxx h ho (tCon_ch _ _)
  rw [show tCon (F 2) (l.getD i 32) = tCon 122 (l.getD i 32) by rw [h2]] at h1
  refine ⟨_, _, ?_, s_putRewritten_of (A' := A1) (F' := F1) hxx h hi1 hpl (fun G X hC hX => ?_)⟩
  · rw [tBody_122]; exact h1
  rcases hxx with ⟨rfl, rfl, rfl, rfl, rfl, rfl, rfl, rfl, rfl, rfl⟩ | ⟨rfl, rfl, rfl, rfl, rfl, rfl, rfl, rfl, rfl, rfl⟩
  all_goals
    refine gm_run1 hC [16] 200 16 ?_
    exact gx_f (show ¬ F 2 = 100 from by rw [h2]; decide) (gx_f (show ¬ F 2 = 101 from by rw [h2]; decide) (gx_f (show ¬ F 2 = 102 from by rw [h2]; decide) (gx_f (show ¬ F 2 = 103 from by rw [h2]; decide) (gx_f (show ¬ F 2 = 104 from by rw [h2]; decide) (gx_f (show ¬ F 2 = 105 from by rw [h2]; decide) (gx_f (show ¬ F 2 = 106 from by rw [h2]; decide) (gx_f (show ¬ F 2 = 107 from by rw [h2]; decide) (gx_f (show ¬ F 2 = 108 from by rw [h2]; decide) (gx_f (show ¬ F 2 = 109 from by rw [h2]; decide) (gx_f (show ¬ F 2 = 110 from by rw [h2]; decide) (gx_f (show ¬ F 2 = 111 from by rw [h2]; decide) (gx_f (show ¬ F 2 = 112 from by rw [h2]; decide) (gx_f (show ¬ F 2 = 113 from by rw [h2]; decide) (gx_f (show ¬ F 2 = 114 from by rw [h2]; decide) (gx_f (show ¬ F 2 = 115 from by rw [h2]; decide) (gx_f (show ¬ F 2 = 116 from by rw [h2]; decide) (gx_f (show ¬ F 2 = 117 from by rw [h2]; decide) (gx_f (show ¬ F 2 = 118 from by rw [h2]; decide) (gx_f (show ¬ F 2 = 119 from by rw [h2]; decide) (gx_f (show ¬ F 2 = 120 from by rw [h2]; decide) (gx_f (show ¬ F 2 = 121 from by rw [h2]; decide) (Or.inl ⟨_, _, _, _, ha, Or.inl ⟨_, _, _, _, hc, Or.inl ⟨_, _, _, _, s1, hX⟩⟩⟩))))))))))))))))))))))
theorem s_putRewritten {i : Nat} (hxx : gXX nw r e fl fc nx r2 e2 fl2 fc2) (h : gW2 A0 F0 r e fl r2 fl2 l o A F) (hi : i < l.length) (hpl : F 1 = nI i) (h2 : F 2 = tRule l i) (hru : ¬ tRule l i = 32) (ho : o.length = i) : ∃ A' F', gW2 A0 F0 r e fl r2 fl2 l (o ++ tBody l i (tRule l i)) A' F' ∧ gm_Sp gm_MT (d + 4) 2010 [.ref 7, .int (nI (tE l i))] (gw A F nw nx LO DO) (.inl none) (gw A' F' nw nx LO DO) 0 0 := by
  have hv := h.1.2.2.2.2.2
  have h40 := h.1.2.1
  have hg := tE_gt hi
  have hl := tE_le (l := l) (Nat.le_of_lt hi)
  rcases tRule_shape hru with ⟨h67, hh⟩ | ⟨ha, hh⟩
  · obtain ⟨p1, p2⟩ := tE_one hv hi h67
    rcases hh with ⟨hr, hk⟩ | ⟨hr, hk⟩ | ⟨hr, hk⟩ | ⟨hr, hk⟩ | ⟨hr, hk⟩
    · obtain ⟨q1, q2⟩ := tE_one hv p1 hk
      have hg2 := tE_gt q1
      rw [hr] at h2 ⊢
      exact s_putRewritten_110 hxx h p1 hpl h2 hl (by omega) (by omega)
    · rw [hr] at h2 ⊢
      exact s_putRewritten_101 hxx h p1 hpl h2 (by omega)
    · rw [hr] at h2 ⊢
      exact s_putRewritten_118 hxx h p1 hpl h2 (by omega)
    · obtain ⟨q1, q2, q3, q4, q5, q6⟩ := tE_two hv p1 (by rw [hk]; rfl)
      rw [show i + 1 + 1 = i + 2 from rfl] at q1 q2 q3 q4
      rw [hr] at h2 ⊢
      exact s_putRewritten_105 hxx h p1 hpl h2 hl q1 (by omega) (by omega)
    · obtain ⟨q1, q2, q3, q4, q5, q6⟩ := tE_two hv p1 (by rw [hk]; rfl)
      rw [show i + 1 + 1 = i + 2 from rfl] at q1 q2 q3 q4
      rw [hr] at h2 ⊢
      exact s_putRewritten_117 hxx h p1 hpl h2 hl q1 (by omega) (by omega)
  · obtain ⟨q1, q2, q3, q4, q5, q6⟩ := tE_two hv hi ha
    rcases hh with hr | hr | hr | hr | hr | ⟨hr, hk⟩ | hr | hr
    · rw [hr] at h2 ⊢
      exact s_putRewritten_100 hxx h q1 hpl h2 hl (by omega) (by omega) (by omega)
    · rw [hr] at h2 ⊢
      exact s_putRewritten_115 hxx h q1 hpl h2 hl (by omega) (by omega) (by omega)
    · rw [hr] at h2 ⊢
      exact s_putRewritten_111 hxx h q1 hpl h2 hl (by omega) (by omega) (by omega)
    · rw [hr] at h2 ⊢
      exact s_putRewritten_121 hxx h q1 hpl h2 hl (by omega) (by omega) (by omega)
    · rw [hr] at h2 ⊢
      exact s_putRewritten_112 hxx h q1 hpl h2 hl (by omega) (by omega) (by omega)
    · rw [hr] at h2 ⊢
      exact s_putRewritten_99 hxx h q1 hpl h2 (by omega)
    · rw [hr] at h2 ⊢
      exact s_putRewritten_116 hxx h q1 hpl h2 (by omega)
    · rw [hr] at h2 ⊢
      exact s_putRewritten_122 hxx h q1 hpl h2 (by omega)
end X