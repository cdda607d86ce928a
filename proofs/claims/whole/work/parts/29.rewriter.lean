/-! REWRITING: the prover's rewriter as a whole -/
/-- the rewriter stands at a text, its first place and rule found -/
def gRw (A : Nat → Nat → Int32) (F : Nat → Int32) (nw nx : Nat) (l : List Int32) : Prop := ∃ r e fl fc r2 e2 fl2 fc2, gXX nw r e fl fc nx r2 e2 fl2 fc2 ∧ gNow A F r e fl l ∧ gPl (tPlace l) l (F 1) (F 2)
/-- the rewriter stands at a text, nothing sought yet -/
def gRw0 (A : Nat → Nat → Int32) (F : Nat → Int32) (nw nx : Nat) (l : List Int32) : Prop := ∃ r e fl fc r2 e2 fl2 fc2, gXX nw r e fl fc nx r2 e2 fl2 fc2 ∧ F fl = nI l.length ∧ l.length ≤ 40 ∧ gR (A r) l ∧ gCh l ∧ tV l
theorem gRw.zero {A : Nat → Nat → Int32} {F : Nat → Int32} {nw nx : Nat} {l : List Int32} (h : gRw A F nw nx l) : gRw0 A F nw nx l := by
  obtain ⟨r, e, fl, fc, r2, e2, fl2, fc2, hxx, ⟨n1, n2, n3, n4, -, n6⟩, -⟩ := h
  exact ⟨r, e, fl, fc, r2, e2, fl2, fc2, hxx, n1, n2, n3, n4, n6⟩
/-- all but the rewriter is as before -/
def gKp (A : Nat → Nat → Int32) (F : Nat → Int32) (A' : Nat → Nat → Int32) (F' : Nat → Int32) : Prop := (∀ j, j ≠ 9 → j ≠ 10 → j ≠ 12 → j ≠ 13 → A' j = A j) ∧ (∀ j, j ≠ 1 → j ≠ 2 → j ≠ 3 → j ≠ 4 → j ≠ 5 → j ≠ 6 → F' j = F j)
theorem gKp.refl (A : Nat → Nat → Int32) (F : Nat → Int32) : gKp A F A F := ⟨fun _ _ _ _ _ => rfl, fun _ _ _ _ _ _ _ => rfl⟩
theorem gKp.trans {A A1 A2 : Nat → Nat → Int32} {F F1 F2 : Nat → Int32} (h : gKp A F A1 F1) (k : gKp A1 F1 A2 F2) : gKp A F A2 F2 := ⟨fun j a b c d => (k.1 j a b c d).trans (h.1 j a b c d), fun j a b c d e f => (k.2 j a b c d e f).trans (h.2 j a b c d e f)⟩
theorem gXX.rows {x r e fl fc y r2 e2 fl2 fc2 : Nat} (h : gXX x r e fl fc y r2 e2 fl2 fc2) : (r2 = 9 ∨ r2 = 12) ∧ (e2 = 10 ∨ e2 = 13) ∧ (fl2 = 3 ∨ fl2 = 5) ∧ (fc2 = 4 ∨ fc2 = 6) ∧ (r = 9 ∨ r = 12) ∧ (e = 10 ∨ e = 13) ∧ (fl = 3 ∨ fl = 5) ∧ (fc = 4 ∨ fc = 6) ∧ r2 ≠ e2 ∧ r ≠ e ∧ fl2 ≠ 1 ∧ fl2 ≠ 2 ∧ fl ≠ 1 ∧ fl ≠ 2 ∧ fl ≠ fc ∧ fc ≠ 1 ∧ fc ≠ 2 := by
  rcases h with ⟨rfl, rfl, rfl, rfl, rfl, rfl, rfl, rfl, rfl, rfl⟩ | ⟨rfl, rfl, rfl, rfl, rfl, rfl, rfl, rfl, rfl, rfl⟩ <;> decide
section X
variable {nw nx : Nat} {LO : Nat → Int64} {DO : Nat → UInt64} {d : Nat} {A : Nat → Nat → Int32} {F : Nat → Int32} {l : List Int32}
theorem gW2.kp {r e fl fc r2 e2 fl2 fc2 : Nat} {o : List Int32} {A' : Nat → Nat → Int32} {F' : Nat → Int32} (hxx : gXX nw r e fl fc nx r2 e2 fl2 fc2) (h : gW2 A F r e fl r2 fl2 l o A' F') : gKp A F A' F' := by
  obtain ⟨m1, -, m3, -⟩ := hxx.rows
  obtain ⟨-, -, -, e1, e2⟩ := h
  refine ⟨fun j a b c d => e1 j ?_, fun j a b c d e f => e2 j ?_⟩
  · rcases m1 with z | z <;> rw [z] <;> assumption
  · rcases m3 with z | z <;> rw [z] <;> assumption
theorem s_rewrite (h : gRw A F nw nx l) {i : Nat} (hi : tPlace l = some i) : (¬ (tRew l i).length ≤ 40 → ∃ A' F', gRw0 A' F' nw nx l ∧ gKp A F A' F' ∧ gm_Sp gm_MT (d + 7) 2009 [.ref 7] (gw A F nw nx LO DO) (.inl (some (.int 0))) (gw A' F' nw nx LO DO) 0 0) ∧ ((tRew l i).length ≤ 40 → ∃ A' F', gRw0 A' F' nx nw (tRew l i) ∧ gKp A F A' F' ∧ gm_Sp gm_MT (d + 7) 2009 [.ref 7] (gw A F nw nx LO DO) (.inl (some (.int 1))) (gw A' F' nx nw LO DO) 0 0) := by
  obtain ⟨r, e, fl, fc, r2, e2, fl2, fc2, hxx, hn, hp⟩ := h
  obtain ⟨il, hru⟩ := tPlace_lt hi
  rw [hi] at hp
  obtain ⟨hp1, hp2⟩ := hp
  have hv := hn.2.2.2.2.2
  have h40 := hn.2.1
  have hg := tE_gt il
  have hl := tE_le (l := l) (Nat.le_of_lt il)
  obtain ⟨m1, m2, m3, m4, m5, m6, m7, m8, m9, m10, m11, m12, m13, m14, m15, -⟩ := hxx.rows
  obtain ⟨x1, x2, x3, x4⟩ := hxx.ne
  obtain ⟨lenE, lenB⟩ := tRew_len hv il hru
  have w0 : gW2 A F r e fl r2 fl2 l [] A (va_up F fl2 0) := by
    obtain ⟨n1, n2, n3, n4, n5, n6⟩ := hn
    refine ⟨⟨?_, n2, n3, n4, n5, n6⟩, ?_, fun j hj => absurd hj (Nat.not_lt_zero _), fun _ _ => rfl, fun j hj => g_upn hj⟩
    · rw [g_upn (Ne.symm x1)]; exact n1
    · rw [g_upe]; rfl
  have hE := s_end (A := A) (F := F) (nw := nw) (nx := nx) (LO := LO) (DO := DO) (d := d + 5) hxx.l hn.1 (by omega) hn.2.2.2.2.1 il
  have hcl := s_clear (A := A) (F := F) (nw := nw) (nx := nx) (LO := LO) (DO := DO) (d := d + 5) hxx.r
  obtain ⟨A1, F1, w1, s1⟩ := gW2.part (LO := LO) (DO := DO) (d := d + 4) (a := 0) (b := i) hxx w0 (Nat.zero_le _) (Nat.le_of_lt il) (by simp; omega)
  have e0 : ([] ++ tSl l 0 i : List Int32) = l.take i := by simp [tSl]
  rw [e0] at w1
  have p1 : F1 1 = nI i := by rw [w1.2.2.2.2 1 (Ne.symm m11)]; exact hp1
  have p2 : F1 2 = tRule l i := by rw [w1.2.2.2.2 2 (Ne.symm m12)]; exact hp2
  obtain ⟨A2, F2, w2, s2⟩ := s_putRewritten (LO := LO) (DO := DO) (d := d + 2) hxx w1 il p1 p2 hru (by rw [List.length_take]; omega)
  have lenT : (l.take i ++ tBody l i (tRule l i)).length = i + (tBody l i (tRule l i)).length := by rw [List.length_append, List.length_take]; omega
  obtain ⟨A3, F3, w3, s3⟩ := gW2.part (LO := LO) (DO := DO) (d := d + 4) (a := tE l i) (b := l.length) hxx w2 hl (Nat.le_refl _) (by rw [lenT]; omega)
  have eT : l.take i ++ tBody l i (tRule l i) ++ tSl l (tE l i) l.length = tRew l i := by
    unfold tRew tSl
    congr 1
    exact List.take_of_length_le (by rw [List.length_drop]; omega)
  rw [eT] at w3
  have hln := s_lengthX (A := A2) (F := F2) (nw := nw) (nx := nx) (LO := LO) (DO := DO) (d := d + 5) hxx.l
  rw [w2.1.1] at hln
  have hln3 := s_lengthX (A := A3) (F := F3) (nw := nw) (nx := nx) (LO := LO) (DO := DO) (d := d + 5) hxx.r
  rw [w3.2.1] at hln3
  have hkp := gW2.kp hxx w3
  rw [← hp1] at hE s1
  rw [show nI 0 = 0 from rfl] at s1
  constructor
  · intro hlong
    obtain ⟨v1, v2, v3, v4, -, v6⟩ := w3.1
    refine ⟨A3, F3, ⟨r, e, fl, fc, r2, e2, fl2, fc2, hxx, v1, v2, v3, v4, v6⟩, hkp, gm_mk gm_mX1_rewrite rfl ⟨Or.inr rfl, rfl, rfl, trivial⟩ (fun G X hC hX => ?_)⟩
    · have hgt : ¬ nI (tRew l i).length ≤ nI 40 := nI_ge (by omega) (by omega)
      clear m1 m2 m3 m4 m5 m6 m7 m8 m9 m10 m11 m12 m13 m14 m15 x1 x2 x3 x4
      rcases hxx with ⟨rfl, rfl, rfl, rfl, rfl, rfl, rfl, rfl, rfl, rfl⟩ | ⟨rfl, rfl, rfl, rfl, rfl, rfl, rfl, rfl, rfl, rfl⟩
      all_goals
        refine gm_runs hC [] 200 _ _ _ _ _ _ ?_
        exact Or.inl ⟨_, _, _, _, hE, Or.inl ⟨_, _, _, _, hcl, Or.inl ⟨_, _, _, _, s1, Or.inl ⟨_, _, _, _, s2, Or.inl ⟨_, _, _, _, hln, Or.inl ⟨_, _, _, _, s3, Or.inl ⟨_, _, _, _, hln3, gx_f hgt (gx_z hX (Or.inl rfl) rfl rfl)⟩⟩⟩⟩⟩⟩⟩
  · intro hshort
    refine ⟨A3, F3, ⟨r2, e2, fl2, fc2, r, e, fl, fc, hxx.sym, w3.2.1, hshort, w3.2.2.1, tRew_ch hn.2.2.2.1 i, tRew_V hv il hru⟩, hkp, gm_mk gm_mX1_rewrite rfl ⟨Or.inr rfl, rfl, rfl, trivial⟩ (fun G X hC hX => ?_)⟩
    · have hgt : nI (tRew l i).length ≤ nI 40 := nI_le hshort (by omega)
      clear m1 m2 m3 m4 m5 m6 m7 m8 m9 m10 m11 m12 m13 m14 m15 x1 x2 x3 x4
      rcases hxx with ⟨rfl, rfl, rfl, rfl, rfl, rfl, rfl, rfl, rfl, rfl⟩ | ⟨rfl, rfl, rfl, rfl, rfl, rfl, rfl, rfl, rfl, rfl⟩
      all_goals
        refine gm_runs hC [] 200 _ _ _ _ _ _ ?_
        exact Or.inl ⟨_, _, _, _, hE, Or.inl ⟨_, _, _, _, hcl, Or.inl ⟨_, _, _, _, s1, Or.inl ⟨_, _, _, _, s2, Or.inl ⟨_, _, _, _, hln, Or.inl ⟨_, _, _, _, s3, Or.inl ⟨_, _, _, _, hln3, gx_t hgt (gx_z hX (Or.inr rfl) rfl rfl)⟩⟩⟩⟩⟩⟩⟩
theorem s_seek0 (h : gRw0 A F nw nx l) : ∃ A' F', gRw A' F' nw nx l ∧ gKp A F A' F' ∧ gm_Sp gm_MT (d + 6) 2005 [.ref 7] (gw A F nw nx LO DO) (.inl (some (.int (gB (tPlace l).isSome)))) (gw A' F' nw nx LO DO) 0 0 := by
  obtain ⟨r, e, fl, fc, r2, e2, fl2, fc2, hxx, n1, n2, n3, n4, n6⟩ := h
  obtain ⟨m1, m2, m3, m4, m5, m6, m7, m8, m9, m10, m11, m12, m13, m14, m15, -⟩ := hxx.rows
  obtain ⟨f, pl, ru, hf, hpl, hsk⟩ := s_seek (A := A) (F := F) (nw := nw) (nx := nx) (LO := LO) (DO := DO) (d := d) (l := l) hxx.l n1 (by omega) (by rcases l with _ | ⟨a, l⟩; (· cases n6); exact Nat.succ_pos _) n3 n4 n6
  refine ⟨va_up A e f, va_up (va_up F 1 pl) 2 ru, ⟨r, e, fl, fc, r2, e2, fl2, fc2, hxx, ⟨?_, n2, ?_, n4, ?_, n6⟩, ?_⟩, ⟨?_, ?_⟩, hsk⟩
  · rw [g_upn m14, g_upn m13]; exact n1
  · rw [g_upn m10]; exact n3
  · rw [g_upe]; exact hf
  · have y1 : va_up (va_up F 1 pl) 2 ru 1 = pl := by rw [g_upn (by decide), g_upe]
    have y2 : va_up (va_up F 1 pl) 2 ru 2 = ru := g_upe
    rw [y1, y2]
    exact hpl
  · intro j a b c d
    refine g_upn ?_
    rcases m6 with z | z <;> rw [z] <;> assumption
  · intro j a b _ _ _ _
    rw [g_upn b, g_upn a]
theorem s_nextRule (h : gRw A F nw nx l) {i : Nat} (hi : tPlace l = some i) : gm_Sp gm_MT (d + 1) 2004 [.ref 7] (gw A F nw nx LO DO) (.inl (some (.int (tRule l i)))) (gw A F nw nx LO DO) 0 0 := by
  obtain ⟨r, e, fl, fc, r2, e2, fl2, fc2, hxx, hn, hp⟩ := h
  rw [hi] at hp
  refine gm_mk gm_mX1_nextRule rfl ⟨Or.inr rfl, rfl, rfl, trivial⟩ (fun G X hC hX => ?_)
  refine gm_runs hC [] 200 _ _ _ _ _ _ ?_
  exact gx_c hX (tRule_ch l i) hp.2 rfl
theorem s_text : gm_Sp gm_MT (d + 1) 2002 [.ref 7] (gw A F nw nx LO DO) (.inl (some (.ref nw))) (gw A F nw nx LO DO) 0 0 := by
  refine gm_mk gm_mX1_text rfl ⟨Or.inr rfl, rfl, rfl, trivial⟩ (fun G X hC hX => ?_)
  refine gm_runs hC [] 200 _ _ _ _ _ _ ?_
  exact hX
end X