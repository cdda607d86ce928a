/-! REWRITING: the text that a rule makes, and the prover's way to it -/
/-- a piece of a text -/
def tSl (l : List Int32) (a b : Nat) : List Int32 := (l.drop a).take (b - a)
theorem tSl_len {l : List Int32} {a b : Nat} (h : b ≤ l.length) : (tSl l a b).length = b - a := by
  unfold tSl
  rw [List.length_take, List.length_drop]
  omega
/-- what stands in the place of the term at i -/
def tBody (l : List Int32) (i : Nat) (ru : Int32) : List Int32 :=
  if ru = 110 then tSl l (i + 2) (tE l i)
  else if ru = 117 then [73, 67] ++ tSl l (i + 2) (tE l (i + 2)) ++ [67] ++ tSl l (tE l (i + 2)) (tE l i)
  else if ru = 105 then [85, 67] ++ tSl l (i + 2) (tE l (i + 2)) ++ [67] ++ tSl l (tE l (i + 2)) (tE l i)
  else if ru = 100 then [73] ++ tSl l (i + 1) (tE l (i + 1)) ++ [67] ++ tSl l (tE l (i + 1)) (tE l i)
  else if ru = 115 then [85, 68] ++ tSl l (i + 1) (tE l i) ++ [68] ++ tSl l (tE l (i + 1)) (tE l i) ++ tSl l (i + 1) (tE l (i + 1))
  else if ru = 111 then (if l.getD (i + 1) 32 = 49 then tSl l (tE l (i + 1)) (tE l i) else tSl l (i + 1) (tE l (i + 1)))
  else if ru = 121 then (if l.getD (i + 1) 32 = 48 then tSl l (tE l (i + 1)) (tE l i) else tSl l (i + 1) (tE l (i + 1)))
  else if ru = 112 then tSl l (i + 1) (tE l (i + 1))
  else if ru = 99 then (if l.getD i 32 = 85 then [49] else [48])
  else if ru = 101 ∨ ru = 116 then [49]
  else [48]
def tRew (l : List Int32) (i : Nat) : List Int32 := l.take i ++ tBody l i (tRule l i) ++ l.drop (tE l i)
def gNow (A : Nat → Nat → Int32) (F : Nat → Int32) (r e fl : Nat) (l : List Int32) : Prop := F fl = nI l.length ∧ l.length ≤ 40 ∧ gR (A r) l ∧ gCh l ∧ gEn (A e) l ∧ tV l
/-- the text now is l, the next holds o so far, all else is as before -/
def gW2 (A0 : Nat → Nat → Int32) (F0 : Nat → Int32) (r e fl r2 fl2 : Nat) (l o : List Int32) (A : Nat → Nat → Int32) (F : Nat → Int32) : Prop := gNow A F r e fl l ∧ F fl2 = nI o.length ∧ gR (A r2) o ∧ (∀ j, j ≠ r2 → A j = A0 j) ∧ (∀ j, j ≠ fl2 → F j = F0 j)
section X
variable {nw nx : Nat} {LO : Nat → Int64} {DO : Nat → UInt64} {d : Nat} {A0 A : Nat → Nat → Int32} {F0 F : Nat → Int32} {l o : List Int32} {r e fl fc r2 e2 fl2 fc2 : Nat}
theorem gW2.put (hxx : gXX nw r e fl fc nx r2 e2 fl2 fc2) (h : gW2 A0 F0 r e fl r2 fl2 l o A F) (ho : o.length < 81) {k : Int32} (hk : 0 ≤ k ∧ k ≤ 65535) : ∃ A' F', gW2 A0 F0 r e fl r2 fl2 l (o ++ [k]) A' F' ∧ gm_Sp gm_MT (d + 1) 6007 [.ref nx, .int k] (gw A F nw nx LO DO) (.inl none) (gw A' F' nw nx LO DO) 0 0 := by
  obtain ⟨⟨n1, n2, n3, n4, n5, n6⟩, o1, o2, e1, e2'⟩ := h
  obtain ⟨m1, m2, m3, m4⟩ := hxx.ne
  refine ⟨_, _, ⟨⟨?_, n2, ?_, n4, ?_, n6⟩, ?_, ?_, ?_, ?_⟩, s_put (nw := nw) (nx := nx) (LO := LO) (DO := DO) (d := d) hxx.r o1 ho k hk⟩
  · rw [g_upn (Ne.symm m1)]; exact n1
  · rw [g_upn (Ne.symm m2)]; exact n3
  · rw [g_upn (Ne.symm m3)]; exact n5
  · rw [g_upe]; simp
  · rw [g_upe]; exact o2.push k
  · intro j hj; rw [g_upn hj]; exact e1 j hj
  · intro j hj; rw [g_upn hj]; exact e2' j hj
theorem gXX.sym {x r e fl fc y r2 e2 fl2 fc2 : Nat} (h : gXX x r e fl fc y r2 e2 fl2 fc2) : gXX y r2 e2 fl2 fc2 x r e fl fc := by
  rcases h with ⟨rfl, rfl, rfl, rfl, rfl, rfl, rfl, rfl, rfl, rfl⟩ | ⟨rfl, rfl, rfl, rfl, rfl, rfl, rfl, rfl, rfl, rfl⟩
  · exact Or.inr ⟨rfl, rfl, rfl, rfl, rfl, rfl, rfl, rfl, rfl, rfl⟩
  · exact Or.inl ⟨rfl, rfl, rfl, rfl, rfl, rfl, rfl, rfl, rfl, rfl⟩
theorem gW2.part (hxx : gXX nw r e fl fc nx r2 e2 fl2 fc2) (h : gW2 A0 F0 r e fl r2 fl2 l o A F) {a b : Nat} (hab : a ≤ b) (hb : b ≤ l.length) (ho : o.length + (b - a) ≤ 81) : ∃ A' F', gW2 A0 F0 r e fl r2 fl2 l (o ++ tSl l a b) A' F' ∧ gm_Sp gm_MT (d + 2) 6008 [.ref nx, .ref nw, .int (nI a), .int (nI b)] (gw A F nw nx LO DO) (.inl none) (gw A' F' nw nx LO DO) 0 0 := by
  obtain ⟨⟨n1, n2, n3, n4, n5, n6⟩, o1, o2, e1, e2'⟩ := h
  obtain ⟨m1, m2, m3, m4⟩ := hxx.ne
  obtain ⟨f, hf, hs⟩ := s_putPart (a := a) (k := b - a) (nw := nw) (nx := nx) (LO := LO) (DO := DO) (d := d) hxx.sym (by omega) (by omega) n4 o1 o2 ho n1 n3
  rw [show a + (b - a) = b by omega] at hs
  refine ⟨_, _, ⟨⟨?_, n2, ?_, n4, ?_, n6⟩, ?_, ?_, ?_, ?_⟩, hs⟩
  · rw [g_upn (Ne.symm m1)]; exact n1
  · rw [g_upn (Ne.symm m2)]; exact n3
  · rw [g_upn (Ne.symm m3)]; exact n5
  · rw [g_upe, List.length_append, tSl_len hb]
  · rw [g_upe]; exact hf
  · intro j hj; rw [g_upn hj]; exact e1 j hj
  · intro j hj; rw [g_upn hj]; exact e2' j hj
theorem gW2.endOf (hxx : gXX nw r e fl fc nx r2 e2 fl2 fc2) (h : gW2 A0 F0 r e fl r2 fl2 l o A F) {i : Nat} (hi : i < l.length) : gm_Sp gm_MT (d + 1) 6010 [.ref nw, .int (nI i)] (gw A F nw nx LO DO) (.inl (some (.int (nI (tE l i))))) (gw A F nw nx LO DO) 0 0 := s_end hxx.l h.1.1 (by have := h.1.2.1; omega) h.1.2.2.2.2.1 hi
theorem gW2.at (hxx : gXX nw r e fl fc nx r2 e2 fl2 fc2) (h : gW2 A0 F0 r e fl r2 fl2 l o A F) {i : Nat} (hi : i < l.length) : gm_Sp gm_MT (d + 1) 6006 [.ref nw, .int (nI i)] (gw A F nw nx LO DO) (.inl (some (.int (l.getD i 32)))) (gw A F nw nx LO DO) 0 0 := s_atN hxx.l h.1.1 (by have := h.1.2.1; omega) h.1.2.2.1 h.1.2.2.2.1 hi
theorem gXX.n12 {x r e fl fc y r2 e2 fl2 fc2 : Nat} (h : gXX x r e fl fc y r2 e2 fl2 fc2) : 1 ≠ fl2 ∧ 2 ≠ fl2 ∧ 1 ≠ fl ∧ 2 ≠ fl := by
  rcases h with ⟨rfl, rfl, rfl, rfl, rfl, rfl, rfl, rfl, rfl, rfl⟩ | ⟨rfl, rfl, rfl, rfl, rfl, rfl, rfl, rfl, rfl, rfl⟩ <;> decide
theorem s_putComplements (hxx : gXX nw r e fl fc nx r2 e2 fl2 fc2) (h : gW2 A0 F0 r e fl r2 fl2 l o A F) {k : Int32} (hk : 0 ≤ k ∧ k ≤ 65535) {a b : Nat} (ha : a < l.length) (hab : tE l a ≤ b) (hb : b ≤ l.length) (ho : o.length + 3 + (b - a) ≤ 81) : ∃ A' F', gW2 A0 F0 r e fl r2 fl2 l (o ++ ([k, 67] ++ tSl l a (tE l a) ++ [67] ++ tSl l (tE l a) b)) A' F' ∧ gm_Sp gm_MT (d + 3) 2011 [.ref 7, .int k, .int (nI a), .int (nI b)] (gw A F nw nx LO DO) (.inl none) (gw A' F' nw nx LO DO) 0 0 := by
  have hg := tE_gt ha
  have hE := gW2.endOf (LO := LO) (DO := DO) (d := d + 1) hxx h ha
  obtain ⟨A1, F1, h1, s1⟩ := gW2.put (LO := LO) (DO := DO) (d := d + 1) hxx h (by omega) hk
  obtain ⟨A2, F2, h2, s2⟩ := gW2.put (LO := LO) (DO := DO) (d := d + 1) (k := 67) hxx h1 (by simp; omega) (by decide)
  obtain ⟨A3, F3, h3, s3⟩ := gW2.part (LO := LO) (DO := DO) (d := d) (a := a) (b := tE l a) hxx h2 (by omega) (by omega) (by simp; omega)
  obtain ⟨A4, F4, h4, s4⟩ := gW2.put (LO := LO) (DO := DO) (d := d + 1) (k := 67) hxx h3 (by simp [tSl_len (show tE l a ≤ l.length by omega)]; omega) (by decide)
  obtain ⟨A5, F5, h5, s5⟩ := gW2.part (LO := LO) (DO := DO) (d := d) (a := tE l a) (b := b) hxx h4 (by omega) (by omega) (by simp [tSl_len (show tE l a ≤ l.length by omega)]; omega)
  refine ⟨A5, F5, by simpa using h5, gm_mk gm_mX1_putComplements rfl ⟨Or.inr rfl, rfl, rfl, trivial⟩ (fun G X hC hX => ?_)⟩
  rcases hxx with ⟨rfl, rfl, rfl, rfl, rfl, rfl, rfl, rfl, rfl, rfl⟩ | ⟨rfl, rfl, rfl, rfl, rfl, rfl, rfl, rfl, rfl, rfl⟩
  all_goals
    refine gm_runs hC [] 200 _ _ _ _ _ _ ?_
    exact Or.inl ⟨_, _, _, _, hE, Or.inl ⟨_, _, _, _, s1, Or.inl ⟨_, _, _, _, s2, Or.inl ⟨_, _, _, _, s3, Or.inl ⟨_, _, _, _, s4, Or.inl ⟨_, _, _, _, s5, hX⟩⟩⟩⟩⟩⟩
theorem s_putDifferences (hxx : gXX nw r e fl fc nx r2 e2 fl2 fc2) (h : gW2 A0 F0 r e fl r2 fl2 l o A F) {p q b : Nat} (hpq : p ≤ q) (hab : q ≤ b) (hb : b ≤ l.length) (ho : o.length + 3 + 2 * (b - p) ≤ 81) : ∃ A' F', gW2 A0 F0 r e fl r2 fl2 l (o ++ ([85, 68] ++ tSl l p b ++ [68] ++ tSl l q b ++ tSl l p q)) A' F' ∧ gm_Sp gm_MT (d + 3) 2012 [.ref 7, .int (nI p), .int (nI q), .int (nI b)] (gw A F nw nx LO DO) (.inl none) (gw A' F' nw nx LO DO) 0 0 := by
  obtain ⟨A1, F1, h1, s1⟩ := gW2.put (LO := LO) (DO := DO) (d := d + 1) (k := 85) hxx h (by omega) (by decide)
  obtain ⟨A2, F2, h2, s2⟩ := gW2.put (LO := LO) (DO := DO) (d := d + 1) (k := 68) hxx h1 (by simp; omega) (by decide)
  obtain ⟨A3, F3, h3, s3⟩ := gW2.part (LO := LO) (DO := DO) (d := d) (a := p) (b := b) hxx h2 (by omega) (by omega) (by simp; omega)
  obtain ⟨A4, F4, h4, s4⟩ := gW2.put (LO := LO) (DO := DO) (d := d + 1) (k := 68) hxx h3 (by simp [tSl_len hb]; omega) (by decide)
  obtain ⟨A5, F5, h5, s5⟩ := gW2.part (LO := LO) (DO := DO) (d := d) (a := q) (b := b) hxx h4 (by omega) (by omega) (by simp [tSl_len hb]; omega)
  obtain ⟨A6, F6, h6, s6⟩ := gW2.part (LO := LO) (DO := DO) (d := d) (a := p) (b := q) hxx h5 (by omega) (by omega) (by simp [tSl_len hb]; omega)
  refine ⟨A6, F6, by simpa using h6, gm_mk gm_mX1_putDifferences rfl ⟨Or.inr rfl, rfl, rfl, trivial⟩ (fun G X hC hX => ?_)⟩
  rcases hxx with ⟨rfl, rfl, rfl, rfl, rfl, rfl, rfl, rfl, rfl, rfl⟩ | ⟨rfl, rfl, rfl, rfl, rfl, rfl, rfl, rfl, rfl, rfl⟩
  all_goals
    refine gm_runs hC [] 200 _ _ _ _ _ _ ?_
    exact Or.inl ⟨_, _, _, _, s1, Or.inl ⟨_, _, _, _, s2, Or.inl ⟨_, _, _, _, s3, Or.inl ⟨_, _, _, _, s4, Or.inl ⟨_, _, _, _, s5, Or.inl ⟨_, _, _, _, s6, hX⟩⟩⟩⟩⟩⟩
theorem s_putOtherSide (hxx : gXX nw r e fl fc nx r2 e2 fl2 fc2) (h : gW2 A0 F0 r e fl r2 fl2 l o A F) {k : Int32} {p q b : Nat} (hp : p < l.length) (hpq : p ≤ q) (hab : q ≤ b) (hb : b ≤ l.length) (ho : o.length + (b - p) ≤ 81) : ∃ A' F', gW2 A0 F0 r e fl r2 fl2 l (o ++ (if l.getD p 32 = k then tSl l q b else tSl l p q)) A' F' ∧ gm_Sp gm_MT (d + 3) 2013 [.ref 7, .int k, .int (nI p), .int (nI q), .int (nI b)] (gw A F nw nx LO DO) (.inl none) (gw A' F' nw nx LO DO) 0 0 := by
  have ha := gW2.at (LO := LO) (DO := DO) (d := d + 1) hxx h hp
  by_cases hk : l.getD p 32 = k
  · obtain ⟨A1, F1, h1, s1⟩ := gW2.part (LO := LO) (DO := DO) (d := d) (a := q) (b := b) hxx h (by omega) (by omega) (by omega)
    rw [if_pos hk]
    refine ⟨A1, F1, h1, gm_mk gm_mX1_putOtherSide rfl ⟨Or.inr rfl, rfl, rfl, trivial⟩ (fun G X hC hX => ?_)⟩
    rcases hxx with ⟨rfl, rfl, rfl, rfl, rfl, rfl, rfl, rfl, rfl, rfl⟩ | ⟨rfl, rfl, rfl, rfl, rfl, rfl, rfl, rfl, rfl, rfl⟩
    all_goals
      refine gm_runs hC [] 200 _ _ _ _ _ _ ?_
      exact Or.inl ⟨_, _, _, _, ha, gx_f (show ¬ ¬ l.getD p 32 = k from fun z => z hk) (Or.inl ⟨_, _, _, _, s1, hX⟩)⟩
  · obtain ⟨A1, F1, h1, s1⟩ := gW2.part (LO := LO) (DO := DO) (d := d) (a := p) (b := q) hxx h (by omega) (by omega) (by omega)
    rw [if_neg hk]
    refine ⟨A1, F1, h1, gm_mk gm_mX1_putOtherSide rfl ⟨Or.inr rfl, rfl, rfl, trivial⟩ (fun G X hC hX => ?_)⟩
    rcases hxx with ⟨rfl, rfl, rfl, rfl, rfl, rfl, rfl, rfl, rfl, rfl⟩ | ⟨rfl, rfl, rfl, rfl, rfl, rfl, rfl, rfl, rfl, rfl⟩
    all_goals
      refine gm_runs hC [] 200 _ _ _ _ _ _ ?_
      exact Or.inl ⟨_, _, _, _, ha, gx_t (show ¬ l.getD p 32 = k from hk) (Or.inl ⟨_, _, _, _, s1, hX⟩)⟩
def tCon (ru k : Int32) : Int32 := if ru = 99 then (if k = 85 then 49 else 48) else if ru = 101 ∨ ru = 116 then 49 else 48
theorem tCon_ch (ru k : Int32) : 0 ≤ tCon ru k ∧ tCon ru k ≤ 65535 := by
  unfold tCon
  repeat' split
  all_goals decide
theorem s_constantOf (ru k : Int32) : gm_Sp gm_MT (d + 1) 2014 [.int ru, .int k] (gw A F nw nx LO DO) (.inl (some (.int (tCon ru k)))) (gw A F nw nx LO DO) 0 0 := by
  refine gm_mk gm_mX1_constantOf rfl ⟨Or.inr rfl, rfl, rfl, trivial⟩ (fun G X hC hX => ?_)
  have hch := tCon_ch ru k
  refine gm_runs hC [] 200 _ _ _ _ _ _ ?_
  refine And.intro (fun (c : ru = 99) => ?_) (fun (c99 : ¬ ru = 99) => And.intro (fun (c : ru = 101) => gx_c hX hch (by unfold tCon; rw [if_neg c99, if_pos (Or.inl c)]; rfl) rfl) (fun (c101 : ¬ ru = 101) => And.intro (fun (c : ru = 116) => gx_c hX hch (by unfold tCon; rw [if_neg c99, if_pos (Or.inr c)]; rfl) rfl) (fun (c116 : ¬ ru = 116) => gx_c hX hch (by unfold tCon; rw [if_neg c99, if_neg (fun z => z.elim c101 c116)]; rfl) rfl)))
  exact And.intro (fun (c2 : ¬ k = 85) => gx_c hX hch (by unfold tCon; rw [if_pos c, if_neg c2]; rfl) rfl) (fun (c2 : ¬ ¬ k = 85) => gx_c hX hch (by unfold tCon; rw [if_pos c, if_pos (Decidable.of_not_not c2)]; rfl) rfl)
end X