/-! REWRITING: the reference's step -/
/-- the reference's text -/
def gMt (A : Nat → Nat → Int32) (F : Nat → Int32) (l : List Int32) : Prop := gR (A 33) l ∧ F 24 = nI l.length ∧ l.length ≤ 40 ∧ tV l ∧ gCh l
/-- its text is l, its next holds o so far, all else is as before -/
def gM2 (A0 : Nat → Nat → Int32) (F0 : Nat → Int32) (l o : List Int32) (A : Nat → Nat → Int32) (F : Nat → Int32) : Prop := gMt A F l ∧ F 30 = nI o.length ∧ gR (A 34) o ∧ (∀ j, j ≠ 34 → A j = A0 j) ∧ (∀ j, j ≠ 30 → F j = F0 j)
/-- all but the reference's texts is as before -/
def gKm (A : Nat → Nat → Int32) (F : Nat → Int32) (A' : Nat → Nat → Int32) (F' : Nat → Int32) : Prop := (∀ j, j ≠ 33 → j ≠ 34 → A' j = A j) ∧ (∀ j, j ≠ 24 → j ≠ 30 → F' j = F j)
theorem gKm.refl (A : Nat → Nat → Int32) (F : Nat → Int32) : gKm A F A F := ⟨fun _ _ _ => rfl, fun _ _ _ => rfl⟩
theorem gKm.trans {A A1 A2 : Nat → Nat → Int32} {F F1 F2 : Nat → Int32} (h : gKm A F A1 F1) (k : gKm A1 F1 A2 F2) : gKm A F A2 F2 := ⟨fun j a b => (k.1 j a b).trans (h.1 j a b), fun j a b => (k.2 j a b).trans (h.2 j a b)⟩
def gO67 (o6 o7 : Option Value) : Prop := (o6 = none ∧ o7 = none) ∨ (∃ a : Int32, o6 = some (.int a) ∧ o7 = none) ∨ (∃ a b : Int32, o6 = some (.int a) ∧ o7 = some (.int b))
section X
variable {nw nx : Nat} {LO : Nat → Int64} {DO : Nat → UInt64} {d : Nat} {A0 A : Nat → Nat → Int32} {F0 F : Nat → Int32} {l o : List Int32}
theorem gM2.put (h : gM2 A0 F0 l o A F) (ho : o.length < 160) (k : Int32) : ∃ A' F', gM2 A0 F0 l (o ++ [k]) A' F' ∧ gm_Sp gm_MT (d + 1) 8032 [.ref 24, .int k] (gw A F nw nx LO DO) (.inl none) (gw A' F' nw nx LO DO) 0 0 := by
  obtain ⟨⟨n1, n2, n3, n4, n5⟩, o1, o2, e1, e2⟩ := h
  refine ⟨_, _, ⟨⟨?_, ?_, n3, n4, n5⟩, ?_, ?_, ?_, ?_⟩, s_puts (nw := nw) (nx := nx) (LO := LO) (DO := DO) (d := d) o1 ho k⟩
  · rw [g_upn (by decide)]; exact n1
  · rw [g_upn (by decide)]; exact n2
  · rw [g_upe]; simp
  · rw [g_upe]; exact o2.push k
  · intro j hj; rw [g_upn hj]; exact e1 j hj
  · intro j hj; rw [g_upn hj]; exact e2 j hj
theorem gM2.part (h : gM2 A0 F0 l o A F) {a b : Nat} (hab : a ≤ b) (hb : b ≤ l.length) (ho : o.length + (b - a) ≤ 160) : ∃ A' F', gM2 A0 F0 l (o ++ tSl l a b) A' F' ∧ gm_Sp gm_MT (d + 1) 8033 [.ref 24, .int (nI a), .int (nI b)] (gw A F nw nx LO DO) (.inl none) (gw A' F' nw nx LO DO) 0 0 := by
  obtain ⟨⟨n1, n2, n3, n4, n5⟩, o1, o2, e1, e2⟩ := h
  obtain ⟨f, hf, hs⟩ := s_copies (a := a) (k := b - a) (nw := nw) (nx := nx) (LO := LO) (DO := DO) (d := d) (A := A) (F := F) (l := l) (by omega) (by omega) o1 o2 ho n1
  rw [show a + (b - a) = b by omega] at hs
  refine ⟨_, _, ⟨⟨?_, ?_, n3, n4, n5⟩, ?_, ?_, ?_, ?_⟩, hs⟩
  · rw [g_upn (by decide)]; exact n1
  · rw [g_upn (by decide)]; exact n2
  · rw [g_upe, List.length_append, tSl_len hb]
  · rw [g_upe]; exact hf
  · intro j hj; rw [g_upn hj]; exact e1 j hj
  · intro j hj; rw [g_upn hj]; exact e2 j hj
theorem gM2.behind (h : gM2 A0 F0 l o A F) {i : Nat} (hi : i < l.length) : gm_Sp gm_MT (d + 2) 8028 [.ref 24, .int (nI i)] (gw A F nw nx LO DO) (.inl (some (.int (nI (tE l i))))) (gw A F nw nx LO DO) 0 0 := s_behind h.1.1 (by have := h.1.2.2.1; omega) h.1.2.2.2.1 hi
theorem s_rew7_110 {i : Nat} (h : gM2 A0 F0 l o A F) (hi : i + 1 < l.length) (hw : tE l i ≤ l.length) (h3 : i + 2 ≤ tE l i) (ho : o.length + (tE l i - (i + 2)) ≤ 160) : ∃ A' F', gM2 A0 F0 l (o ++ tBody l i 110) A' F' ∧ ∀ (G : pG) (X : pX), gm_cl gm_mX7_rewrite gm_tyf none (gm_Sp gm_MT (d + 4)) G X → (∀ o6 o7, gO67 o6 o7 → G 450 [some (.ref 24), some (.int (nI i)), some (.int 110), some (.int (l.getD i 32)), some (.int (nI (i + 1))), some (.int (nI (tE l i))), o6, o7] [] (gw A' F' nw nx LO DO) 0 0) → G 36 [some (.ref 24), some (.int (nI i)), some (.int 110), some (.int (l.getD i 32)), some (.int (nI (i + 1))), some (.int (nI (tE l i))), none, none] [] (gw A F nw nx LO DO) 0 0 := by
  obtain ⟨A1, F1, h1, s1⟩ := gM2.part (nw := nw) (nx := nx) (LO := LO) (DO := DO) (d := d + 3) (a := i + 2) (b := tE l i) h (by omega) (by omega) (by omega)
  rw [show nI (i + 2) = nI (i + 1) + 1 from (nI_1 (i + 1)).symm] at s1
  refine ⟨A1, F1, ?_, fun G X hC hX => ?_⟩
  · rw [tBody_110]; exact h1
  refine gm_run1 hC [36, 196, 450] 200 36 ?_
  exact gx_f (show ¬ ¬ (110 : Int32) = 110 from fun z => z rfl) (Or.inl ⟨_, _, _, _, s1, hX _ _ (Or.inl ⟨rfl, rfl⟩)⟩)
theorem s_rew7_101 {i : Nat} (h : gM2 A0 F0 l o A F) (hi : i + 1 < l.length) (hw : tE l i ≤ l.length) (ho : o.length < 160) : ∃ A' F', gM2 A0 F0 l (o ++ tBody l i 101) A' F' ∧ ∀ (G : pG) (X : pX), gm_cl gm_mX7_rewrite gm_tyf none (gm_Sp gm_MT (d + 4)) G X → (∀ o6 o7, gO67 o6 o7 → G 450 [some (.ref 24), some (.int (nI i)), some (.int 101), some (.int (l.getD i 32)), some (.int (nI (i + 1))), some (.int (nI (tE l i))), o6, o7] [] (gw A' F' nw nx LO DO) 0 0) → G 36 [some (.ref 24), some (.int (nI i)), some (.int 101), some (.int (l.getD i 32)), some (.int (nI (i + 1))), some (.int (nI (tE l i))), none, none] [] (gw A F nw nx LO DO) 0 0 := by
  obtain ⟨A1, F1, h1, s1⟩ := gM2.put (nw := nw) (nx := nx) (LO := LO) (DO := DO) (d := d + 3) h (by omega) 49
  refine ⟨A1, F1, ?_, fun G X hC hX => ?_⟩
  · rw [tBody_101]; exact h1
  refine gm_run1 hC [36, 196, 450] 200 36 ?_
  exact gx_t (show ¬ (101 : Int32) = 110 from by decide) (gx_f (show ¬ ¬ (101 : Int32) = 101 from fun z => z rfl) (Or.inl ⟨_, _, _, _, s1, hX _ _ (Or.inl ⟨rfl, rfl⟩)⟩))
theorem s_rew7_118 {i : Nat} (h : gM2 A0 F0 l o A F) (hi : i + 1 < l.length) (hw : tE l i ≤ l.length) (ho : o.length < 160) : ∃ A' F', gM2 A0 F0 l (o ++ tBody l i 118) A' F' ∧ ∀ (G : pG) (X : pX), gm_cl gm_mX7_rewrite gm_tyf none (gm_Sp gm_MT (d + 4)) G X → (∀ o6 o7, gO67 o6 o7 → G 450 [some (.ref 24), some (.int (nI i)), some (.int 118), some (.int (l.getD i 32)), some (.int (nI (i + 1))), some (.int (nI (tE l i))), o6, o7] [] (gw A' F' nw nx LO DO) 0 0) → G 36 [some (.ref 24), some (.int (nI i)), some (.int 118), some (.int (l.getD i 32)), some (.int (nI (i + 1))), some (.int (nI (tE l i))), none, none] [] (gw A F nw nx LO DO) 0 0 := by
  obtain ⟨A1, F1, h1, s1⟩ := gM2.put (nw := nw) (nx := nx) (LO := LO) (DO := DO) (d := d + 3) h (by omega) 48
  refine ⟨A1, F1, ?_, fun G X hC hX => ?_⟩
  · rw [tBody_118]; exact h1
  refine gm_run1 hC [36, 196, 450] 200 36 ?_
  exact gx_t (show ¬ (118 : Int32) = 110 from by decide) (gx_t (show ¬ (118 : Int32) = 101 from by decide) (gx_f (show ¬ ¬ (118 : Int32) = 118 from fun z => z rfl) (Or.inl ⟨_, _, _, _, s1, hX _ _ (Or.inl ⟨rfl, rfl⟩)⟩)))
theorem s_rew7_117 {i : Nat} (h : gM2 A0 F0 l o A F) (hi : i + 1 < l.length) (hw : tE l i ≤ l.length) (h3 : i + 2 < l.length) (h4 : tE l (i + 2) ≤ tE l i) (ho : o.length + 3 + (tE l i - (i + 2)) ≤ 160) : ∃ A' F', gM2 A0 F0 l (o ++ tBody l i 117) A' F' ∧ ∀ (G : pG) (X : pX), gm_cl gm_mX7_rewrite gm_tyf none (gm_Sp gm_MT (d + 4)) G X → (∀ o6 o7, gO67 o6 o7 → G 450 [some (.ref 24), some (.int (nI i)), some (.int 117), some (.int (l.getD i 32)), some (.int (nI (i + 1))), some (.int (nI (tE l i))), o6, o7] [] (gw A' F' nw nx LO DO) 0 0) → G 36 [some (.ref 24), some (.int (nI i)), some (.int 117), some (.int (l.getD i 32)), some (.int (nI (i + 1))), some (.int (nI (tE l i))), none, none] [] (gw A F nw nx LO DO) 0 0 := by
  have hb := gM2.behind (nw := nw) (nx := nx) (LO := LO) (DO := DO) (d := d + 2) h h3
  have hg := tE_gt h3
  obtain ⟨A4, F4, h4, s1⟩ := gM2.put (nw := nw) (nx := nx) (LO := LO) (DO := DO) (d := d + 3) h (by omega) 73
  obtain ⟨A5, F5, h5, s2⟩ := gM2.put (nw := nw) (nx := nx) (LO := LO) (DO := DO) (d := d + 3) h4 (by simp; omega) 67
  obtain ⟨A3, F3, h3b, s3⟩ := gM2.part (nw := nw) (nx := nx) (LO := LO) (DO := DO) (d := d + 3) (a := i + 2) (b := (tE l (i + 2))) h5 (by omega) (by omega) (by simp; omega)
  obtain ⟨A2, F2, h2, s4⟩ := gM2.put (nw := nw) (nx := nx) (LO := LO) (DO := DO) (d := d + 3) h3b (by simp [tSl_len (show tE l (i + 2) ≤ l.length by omega), tSl_len hw]; omega) 67
  obtain ⟨A1, F1, h1, s5⟩ := gM2.part (nw := nw) (nx := nx) (LO := LO) (DO := DO) (d := d + 3) (a := (tE l (i + 2))) (b := (tE l i)) h2 (by omega) (by omega) (by simp [tSl_len (show tE l (i + 2) ≤ l.length by omega), tSl_len hw]; omega)
  rw [show nI (i + 2) = nI (i + 1) + 1 from (nI_1 (i + 1)).symm] at hb s3
  refine ⟨A1, F1, ?_, fun G X hC hX => ?_⟩
  · rw [tBody_117]; simpa using h1
  refine gm_run1 hC [36, 196, 450] 200 36 ?_
  exact gx_t (show ¬ (117 : Int32) = 110 from by decide) (gx_t (show ¬ (117 : Int32) = 101 from by decide) (gx_t (show ¬ (117 : Int32) = 118 from by decide) (gx_t (show (117 : Int32) = 117 from rfl) (Or.inl ⟨_, _, _, _, hb, gx_f (show ¬ ¬ (117 : Int32) = 117 from fun z => z rfl) (Or.inl ⟨_, _, _, _, s1, Or.inl ⟨_, _, _, _, s2, Or.inl ⟨_, _, _, _, s3, Or.inl ⟨_, _, _, _, s4, Or.inl ⟨_, _, _, _, s5, hX _ _ (Or.inr (Or.inl ⟨_, rfl, rfl⟩))⟩⟩⟩⟩⟩)⟩))))
theorem s_rew7_105 {i : Nat} (h : gM2 A0 F0 l o A F) (hi : i + 1 < l.length) (hw : tE l i ≤ l.length) (h3 : i + 2 < l.length) (h4 : tE l (i + 2) ≤ tE l i) (ho : o.length + 3 + (tE l i - (i + 2)) ≤ 160) : ∃ A' F', gM2 A0 F0 l (o ++ tBody l i 105) A' F' ∧ ∀ (G : pG) (X : pX), gm_cl gm_mX7_rewrite gm_tyf none (gm_Sp gm_MT (d + 4)) G X → (∀ o6 o7, gO67 o6 o7 → G 450 [some (.ref 24), some (.int (nI i)), some (.int 105), some (.int (l.getD i 32)), some (.int (nI (i + 1))), some (.int (nI (tE l i))), o6, o7] [] (gw A' F' nw nx LO DO) 0 0) → G 36 [some (.ref 24), some (.int (nI i)), some (.int 105), some (.int (l.getD i 32)), some (.int (nI (i + 1))), some (.int (nI (tE l i))), none, none] [] (gw A F nw nx LO DO) 0 0 := by
  have hb := gM2.behind (nw := nw) (nx := nx) (LO := LO) (DO := DO) (d := d + 2) h h3
  have hg := tE_gt h3
  obtain ⟨A4, F4, h4, s1⟩ := gM2.put (nw := nw) (nx := nx) (LO := LO) (DO := DO) (d := d + 3) h (by omega) 85
  obtain ⟨A5, F5, h5, s2⟩ := gM2.put (nw := nw) (nx := nx) (LO := LO) (DO := DO) (d := d + 3) h4 (by simp; omega) 67
  obtain ⟨A3, F3, h3b, s3⟩ := gM2.part (nw := nw) (nx := nx) (LO := LO) (DO := DO) (d := d + 3) (a := i + 2) (b := (tE l (i + 2))) h5 (by omega) (by omega) (by simp; omega)
  obtain ⟨A2, F2, h2, s4⟩ := gM2.put (nw := nw) (nx := nx) (LO := LO) (DO := DO) (d := d + 3) h3b (by simp [tSl_len (show tE l (i + 2) ≤ l.length by omega), tSl_len hw]; omega) 67
  obtain ⟨A1, F1, h1, s5⟩ := gM2.part (nw := nw) (nx := nx) (LO := LO) (DO := DO) (d := d + 3) (a := (tE l (i + 2))) (b := (tE l i)) h2 (by omega) (by omega) (by simp [tSl_len (show tE l (i + 2) ≤ l.length by omega), tSl_len hw]; omega)
  rw [show nI (i + 2) = nI (i + 1) + 1 from (nI_1 (i + 1)).symm] at hb s3
  refine ⟨A1, F1, ?_, fun G X hC hX => ?_⟩
  · rw [tBody_105]; simpa using h1
  refine gm_run1 hC [36, 196, 450] 200 36 ?_
  exact gx_t (show ¬ (105 : Int32) = 110 from by decide) (gx_t (show ¬ (105 : Int32) = 101 from by decide) (gx_t (show ¬ (105 : Int32) = 118 from by decide) (gx_f (show ¬ (105 : Int32) = 117 from by decide) (gx_f (show ¬ ¬ (105 : Int32) = 105 from fun z => z rfl) (Or.inl ⟨_, _, _, _, hb, gx_t (show ¬ (105 : Int32) = 117 from by decide) (Or.inl ⟨_, _, _, _, s1, Or.inl ⟨_, _, _, _, s2, Or.inl ⟨_, _, _, _, s3, Or.inl ⟨_, _, _, _, s4, Or.inl ⟨_, _, _, _, s5, hX _ _ (Or.inr (Or.inl ⟨_, rfl, rfl⟩))⟩⟩⟩⟩⟩)⟩)))))
theorem s_rew7_100 {i : Nat} (h : gM2 A0 F0 l o A F) (hi : i + 1 < l.length) (hw : tE l i ≤ l.length) (h3 : i + 1 ≤ tE l (i + 1)) (h4 : tE l (i + 1) ≤ tE l i) (ho : o.length + 2 + (tE l i - (i + 1)) ≤ 160) : ∃ A' F', gM2 A0 F0 l (o ++ tBody l i 100) A' F' ∧ ∀ (G : pG) (X : pX), gm_cl gm_mX7_rewrite gm_tyf none (gm_Sp gm_MT (d + 4)) G X → (∀ o6 o7, gO67 o6 o7 → G 450 [some (.ref 24), some (.int (nI i)), some (.int 100), some (.int (l.getD i 32)), some (.int (nI (i + 1))), some (.int (nI (tE l i))), o6, o7] [] (gw A' F' nw nx LO DO) 0 0) → G 36 [some (.ref 24), some (.int (nI i)), some (.int 100), some (.int (l.getD i 32)), some (.int (nI (i + 1))), some (.int (nI (tE l i))), none, none] [] (gw A F nw nx LO DO) 0 0 := by
  obtain ⟨A5, F5, h5, s1⟩ := gM2.put (nw := nw) (nx := nx) (LO := LO) (DO := DO) (d := d + 3) h (by omega) 73
  obtain ⟨A6, F6, h6, s2⟩ := gM2.part (nw := nw) (nx := nx) (LO := LO) (DO := DO) (d := d + 3) (a := (i + 1)) (b := (tE l (i + 1))) h5 (by omega) (by omega) (by simp; omega)
  obtain ⟨A7, F7, h7, s3⟩ := gM2.put (nw := nw) (nx := nx) (LO := LO) (DO := DO) (d := d + 3) h6 (by simp [tSl_len (show tE l (i + 1) ≤ l.length by omega), tSl_len hw]; omega) 67
  obtain ⟨A1, F1, h1, s4⟩ := gM2.part (nw := nw) (nx := nx) (LO := LO) (DO := DO) (d := d + 3) (a := (tE l (i + 1))) (b := (tE l i)) h7 (by omega) (by omega) (by simp [tSl_len (show tE l (i + 1) ≤ l.length by omega), tSl_len hw]; omega)
  refine ⟨A1, F1, ?_, fun G X hC hX => ?_⟩
  · rw [tBody_100]; simpa using h1
  have w196 : ∀ b : Int32, G 196 [some (.ref 24), some (.int (nI i)), some (.int 100), some (.int (l.getD i 32)), some (.int (nI (i + 1))), some (.int (nI (tE l i))), some (.int (nI (tE l (i + 1)))), some (.int b)] [] (gw A F nw nx LO DO) 0 0 := by
    intro b
    refine gm_run1 hC [36, 196, 450] 200 196 ?_
    exact gx_f (show ¬ ¬ (100 : Int32) = 100 from fun z => z rfl) (Or.inl ⟨_, _, _, _, s1, Or.inl ⟨_, _, _, _, s2, Or.inl ⟨_, _, _, _, s3, Or.inl ⟨_, _, _, _, s4, hX _ _ (Or.inr (Or.inr ⟨_, _, rfl, rfl⟩))⟩⟩⟩⟩)
  have hq := gM2.behind (nw := nw) (nx := nx) (LO := LO) (DO := DO) (d := d + 2) h hi
  obtain ⟨vp, ep⟩ := s_textAt (A := A) h.1.1 (by have := h.1.2.2.1; omega) hi
  refine gm_run1 hC [36, 196, 450] 200 36 ?_
  exact gx_t (show ¬ (100 : Int32) = 110 from by decide) (gx_t (show ¬ (100 : Int32) = 101 from by decide) (gx_t (show ¬ (100 : Int32) = 118 from by decide) (gx_f (show ¬ (100 : Int32) = 117 from by decide) (gx_t (show ¬ (100 : Int32) = 105 from by decide) (Or.inl ⟨_, _, _, _, hq, And.intro vp (And.intro (fun _ => w196 1) (fun _ => And.intro vp (And.intro (fun _ => w196 0) (fun _ => w196 1))))⟩)))))
theorem s_rew7_115 {i : Nat} (h : gM2 A0 F0 l o A F) (hi : i + 1 < l.length) (hw : tE l i ≤ l.length) (h3 : i + 1 ≤ tE l (i + 1)) (h4 : tE l (i + 1) ≤ tE l i) (ho : o.length + 3 + 2 * (tE l i - (i + 1)) ≤ 160) : ∃ A' F', gM2 A0 F0 l (o ++ tBody l i 115) A' F' ∧ ∀ (G : pG) (X : pX), gm_cl gm_mX7_rewrite gm_tyf none (gm_Sp gm_MT (d + 4)) G X → (∀ o6 o7, gO67 o6 o7 → G 450 [some (.ref 24), some (.int (nI i)), some (.int 115), some (.int (l.getD i 32)), some (.int (nI (i + 1))), some (.int (nI (tE l i))), o6, o7] [] (gw A' F' nw nx LO DO) 0 0) → G 36 [some (.ref 24), some (.int (nI i)), some (.int 115), some (.int (l.getD i 32)), some (.int (nI (i + 1))), some (.int (nI (tE l i))), none, none] [] (gw A F nw nx LO DO) 0 0 := by
  obtain ⟨A5, F5, h5, s1⟩ := gM2.put (nw := nw) (nx := nx) (LO := LO) (DO := DO) (d := d + 3) h (by omega) 85
  obtain ⟨A6, F6, h6, s2⟩ := gM2.put (nw := nw) (nx := nx) (LO := LO) (DO := DO) (d := d + 3) h5 (by simp; omega) 68
  obtain ⟨A7, F7, h7, s3⟩ := gM2.part (nw := nw) (nx := nx) (LO := LO) (DO := DO) (d := d + 3) (a := (i + 1)) (b := (tE l i)) h6 (by omega) (by omega) (by simp; omega)
  obtain ⟨A8, F8, h8, s4⟩ := gM2.put (nw := nw) (nx := nx) (LO := LO) (DO := DO) (d := d + 3) h7 (by simp [tSl_len (show tE l (i + 1) ≤ l.length by omega), tSl_len hw]; omega) 68
  obtain ⟨A9, F9, h9, s5⟩ := gM2.part (nw := nw) (nx := nx) (LO := LO) (DO := DO) (d := d + 3) (a := (tE l (i + 1))) (b := (tE l i)) h8 (by omega) (by omega) (by simp [tSl_len (show tE l (i + 1) ≤ l.length by omega), tSl_len hw]; omega)
  obtain ⟨A1, F1, h1, s6⟩ := gM2.part (nw := nw) (nx := nx) (LO := LO) (DO := DO) (d := d + 3) (a := (i + 1)) (b := (tE l (i + 1))) h9 (by omega) (by omega) (by simp [tSl_len (show tE l (i + 1) ≤ l.length by omega), tSl_len hw]; omega)
  refine ⟨A1, F1, ?_, fun G X hC hX => ?_⟩
  · rw [tBody_115]; simpa using h1
  have w196 : ∀ b : Int32, G 196 [some (.ref 24), some (.int (nI i)), some (.int 115), some (.int (l.getD i 32)), some (.int (nI (i + 1))), some (.int (nI (tE l i))), some (.int (nI (tE l (i + 1)))), some (.int b)] [] (gw A F nw nx LO DO) 0 0 := by
    intro b
    refine gm_run1 hC [36, 196, 450] 200 196 ?_
    exact gx_t (show ¬ (115 : Int32) = 100 from by decide) (gx_f (show ¬ ¬ (115 : Int32) = 115 from fun z => z rfl) (Or.inl ⟨_, _, _, _, s1, Or.inl ⟨_, _, _, _, s2, Or.inl ⟨_, _, _, _, s3, Or.inl ⟨_, _, _, _, s4, Or.inl ⟨_, _, _, _, s5, Or.inl ⟨_, _, _, _, s6, hX _ _ (Or.inr (Or.inr ⟨_, _, rfl, rfl⟩))⟩⟩⟩⟩⟩⟩))
  have hq := gM2.behind (nw := nw) (nx := nx) (LO := LO) (DO := DO) (d := d + 2) h hi
  obtain ⟨vp, ep⟩ := s_textAt (A := A) h.1.1 (by have := h.1.2.2.1; omega) hi
  refine gm_run1 hC [36, 196, 450] 200 36 ?_
  exact gx_t (show ¬ (115 : Int32) = 110 from by decide) (gx_t (show ¬ (115 : Int32) = 101 from by decide) (gx_t (show ¬ (115 : Int32) = 118 from by decide) (gx_f (show ¬ (115 : Int32) = 117 from by decide) (gx_t (show ¬ (115 : Int32) = 105 from by decide) (Or.inl ⟨_, _, _, _, hq, And.intro vp (And.intro (fun _ => w196 1) (fun _ => And.intro vp (And.intro (fun _ => w196 0) (fun _ => w196 1))))⟩)))))
theorem s_rew7_122 {i : Nat} (h : gM2 A0 F0 l o A F) (hi : i + 1 < l.length) (hw : tE l i ≤ l.length) (ho : o.length < 160) : ∃ A' F', gM2 A0 F0 l (o ++ tBody l i 122) A' F' ∧ ∀ (G : pG) (X : pX), gm_cl gm_mX7_rewrite gm_tyf none (gm_Sp gm_MT (d + 4)) G X → (∀ o6 o7, gO67 o6 o7 → G 450 [some (.ref 24), some (.int (nI i)), some (.int 122), some (.int (l.getD i 32)), some (.int (nI (i + 1))), some (.int (nI (tE l i))), o6, o7] [] (gw A' F' nw nx LO DO) 0 0) → G 36 [some (.ref 24), some (.int (nI i)), some (.int 122), some (.int (l.getD i 32)), some (.int (nI (i + 1))), some (.int (nI (tE l i))), none, none] [] (gw A F nw nx LO DO) 0 0 := by
  obtain ⟨A1, F1, h1, s1⟩ := gM2.put (nw := nw) (nx := nx) (LO := LO) (DO := DO) (d := d + 3) h (by omega) 48
  refine ⟨A1, F1, ?_, fun G X hC hX => ?_⟩
  · rw [tBody_122]; exact h1
  have w196 : ∀ b : Int32, G 196 [some (.ref 24), some (.int (nI i)), some (.int 122), some (.int (l.getD i 32)), some (.int (nI (i + 1))), some (.int (nI (tE l i))), some (.int (nI (tE l (i + 1)))), some (.int b)] [] (gw A F nw nx LO DO) 0 0 := by
    intro b
    refine gm_run1 hC [36, 196, 450] 200 196 ?_
    exact gx_t (show ¬ (122 : Int32) = 100 from by decide) (gx_t (show ¬ (122 : Int32) = 115 from by decide) (gx_f (show ¬ ¬ (122 : Int32) = 122 from fun z => z rfl) (Or.inl ⟨_, _, _, _, s1, hX _ _ (Or.inr (Or.inr ⟨_, _, rfl, rfl⟩))⟩)))
  have hq := gM2.behind (nw := nw) (nx := nx) (LO := LO) (DO := DO) (d := d + 2) h hi
  obtain ⟨vp, ep⟩ := s_textAt (A := A) h.1.1 (by have := h.1.2.2.1; omega) hi
  refine gm_run1 hC [36, 196, 450] 200 36 ?_
  exact gx_t (show ¬ (122 : Int32) = 110 from by decide) (gx_t (show ¬ (122 : Int32) = 101 from by decide) (gx_t (show ¬ (122 : Int32) = 118 from by decide) (gx_f (show ¬ (122 : Int32) = 117 from by decide) (gx_t (show ¬ (122 : Int32) = 105 from by decide) (Or.inl ⟨_, _, _, _, hq, And.intro vp (And.intro (fun _ => w196 1) (fun _ => And.intro vp (And.intro (fun _ => w196 0) (fun _ => w196 1))))⟩)))))
theorem s_rew7_116 {i : Nat} (h : gM2 A0 F0 l o A F) (hi : i + 1 < l.length) (hw : tE l i ≤ l.length) (ho : o.length < 160) : ∃ A' F', gM2 A0 F0 l (o ++ tBody l i 116) A' F' ∧ ∀ (G : pG) (X : pX), gm_cl gm_mX7_rewrite gm_tyf none (gm_Sp gm_MT (d + 4)) G X → (∀ o6 o7, gO67 o6 o7 → G 450 [some (.ref 24), some (.int (nI i)), some (.int 116), some (.int (l.getD i 32)), some (.int (nI (i + 1))), some (.int (nI (tE l i))), o6, o7] [] (gw A' F' nw nx LO DO) 0 0) → G 36 [some (.ref 24), some (.int (nI i)), some (.int 116), some (.int (l.getD i 32)), some (.int (nI (i + 1))), some (.int (nI (tE l i))), none, none] [] (gw A F nw nx LO DO) 0 0 := by
  obtain ⟨A1, F1, h1, s1⟩ := gM2.put (nw := nw) (nx := nx) (LO := LO) (DO := DO) (d := d + 3) h (by omega) 49
  refine ⟨A1, F1, ?_, fun G X hC hX => ?_⟩
  · rw [tBody_116]; exact h1
  have w196 : ∀ b : Int32, G 196 [some (.ref 24), some (.int (nI i)), some (.int 116), some (.int (l.getD i 32)), some (.int (nI (i + 1))), some (.int (nI (tE l i))), some (.int (nI (tE l (i + 1)))), some (.int b)] [] (gw A F nw nx LO DO) 0 0 := by
    intro b
    refine gm_run1 hC [36, 196, 450] 200 196 ?_
    exact gx_t (show ¬ (116 : Int32) = 100 from by decide) (gx_t (show ¬ (116 : Int32) = 115 from by decide) (gx_t (show ¬ (116 : Int32) = 122 from by decide) (gx_f (show ¬ ¬ (116 : Int32) = 116 from fun z => z rfl) (Or.inl ⟨_, _, _, _, s1, hX _ _ (Or.inr (Or.inr ⟨_, _, rfl, rfl⟩))⟩))))
  have hq := gM2.behind (nw := nw) (nx := nx) (LO := LO) (DO := DO) (d := d + 2) h hi
  obtain ⟨vp, ep⟩ := s_textAt (A := A) h.1.1 (by have := h.1.2.2.1; omega) hi
  refine gm_run1 hC [36, 196, 450] 200 36 ?_
  exact gx_t (show ¬ (116 : Int32) = 110 from by decide) (gx_t (show ¬ (116 : Int32) = 101 from by decide) (gx_t (show ¬ (116 : Int32) = 118 from by decide) (gx_f (show ¬ (116 : Int32) = 117 from by decide) (gx_t (show ¬ (116 : Int32) = 105 from by decide) (Or.inl ⟨_, _, _, _, hq, And.intro vp (And.intro (fun _ => w196 1) (fun _ => And.intro vp (And.intro (fun _ => w196 0) (fun _ => w196 1))))⟩)))))
theorem s_rew7_112 {i : Nat} (h : gM2 A0 F0 l o A F) (hi : i + 1 < l.length) (hw : tE l i ≤ l.length) (h3 : i + 1 ≤ tE l (i + 1)) (h4 : tE l (i + 1) ≤ tE l i) (ho : o.length + (tE l i - (i + 1)) ≤ 160) : ∃ A' F', gM2 A0 F0 l (o ++ tBody l i 112) A' F' ∧ ∀ (G : pG) (X : pX), gm_cl gm_mX7_rewrite gm_tyf none (gm_Sp gm_MT (d + 4)) G X → (∀ o6 o7, gO67 o6 o7 → G 450 [some (.ref 24), some (.int (nI i)), some (.int 112), some (.int (l.getD i 32)), some (.int (nI (i + 1))), some (.int (nI (tE l i))), o6, o7] [] (gw A' F' nw nx LO DO) 0 0) → G 36 [some (.ref 24), some (.int (nI i)), some (.int 112), some (.int (l.getD i 32)), some (.int (nI (i + 1))), some (.int (nI (tE l i))), none, none] [] (gw A F nw nx LO DO) 0 0 := by
  obtain ⟨A1, F1, h1, s1⟩ := gM2.part (nw := nw) (nx := nx) (LO := LO) (DO := DO) (d := d + 3) (a := (i + 1)) (b := (tE l (i + 1))) h (by omega) (by omega) (by omega)
  refine ⟨A1, F1, ?_, fun G X hC hX => ?_⟩
  · rw [tBody_112]; exact h1
  have w196 : ∀ b : Int32, G 196 [some (.ref 24), some (.int (nI i)), some (.int 112), some (.int (l.getD i 32)), some (.int (nI (i + 1))), some (.int (nI (tE l i))), some (.int (nI (tE l (i + 1)))), some (.int b)] [] (gw A F nw nx LO DO) 0 0 := by
    intro b
    refine gm_run1 hC [36, 196, 450] 200 196 ?_
    exact gx_t (show ¬ (112 : Int32) = 100 from by decide) (gx_t (show ¬ (112 : Int32) = 115 from by decide) (gx_t (show ¬ (112 : Int32) = 122 from by decide) (gx_t (show ¬ (112 : Int32) = 116 from by decide) (gx_t (show ¬ (112 : Int32) = 99 from by decide) (gx_f (show ¬ ¬ (112 : Int32) = 112 from fun z => z rfl) (Or.inl ⟨_, _, _, _, s1, hX _ _ (Or.inr (Or.inr ⟨_, _, rfl, rfl⟩))⟩))))))
  have hq := gM2.behind (nw := nw) (nx := nx) (LO := LO) (DO := DO) (d := d + 2) h hi
  obtain ⟨vp, ep⟩ := s_textAt (A := A) h.1.1 (by have := h.1.2.2.1; omega) hi
  refine gm_run1 hC [36, 196, 450] 200 36 ?_
  exact gx_t (show ¬ (112 : Int32) = 110 from by decide) (gx_t (show ¬ (112 : Int32) = 101 from by decide) (gx_t (show ¬ (112 : Int32) = 118 from by decide) (gx_f (show ¬ (112 : Int32) = 117 from by decide) (gx_t (show ¬ (112 : Int32) = 105 from by decide) (Or.inl ⟨_, _, _, _, hq, And.intro vp (And.intro (fun _ => w196 1) (fun _ => And.intro vp (And.intro (fun _ => w196 0) (fun _ => w196 1))))⟩)))))
theorem s_rew7_99a {i : Nat} (h : gM2 A0 F0 l o A F) (hi : i + 1 < l.length) (hw : tE l i ≤ l.length) (ho : o.length < 160) (hk : l.getD i 32 = 73 ∨ l.getD i 32 = 85) : ∃ A' F', gM2 A0 F0 l (o ++ tBody l i 99) A' F' ∧ (¬ l.getD i 32 = 73 → gm_Sp gm_MT (d + 4) 8032 [.ref 24, .int 49] (gw A F nw nx LO DO) (.inl none) (gw A' F' nw nx LO DO) 0 0) ∧ (l.getD i 32 = 73 → gm_Sp gm_MT (d + 4) 8032 [.ref 24, .int 48] (gw A F nw nx LO DO) (.inl none) (gw A' F' nw nx LO DO) 0 0) := by
  rw [tBody_99]
  rcases hk with c | c
  · obtain ⟨A1, F1, h1, s1⟩ := gM2.put (nw := nw) (nx := nx) (LO := LO) (DO := DO) (d := d + 3) h ho 48
    rw [if_neg (by rw [c]; decide)]
    exact ⟨A1, F1, h1, fun z => absurd c z, fun _ => s1⟩
  · obtain ⟨A1, F1, h1, s1⟩ := gM2.put (nw := nw) (nx := nx) (LO := LO) (DO := DO) (d := d + 3) h ho 49
    rw [if_pos c]
    exact ⟨A1, F1, h1, fun _ => s1, fun z => absurd (c.symm.trans z) (by decide)⟩
theorem s_rew7_99 {i : Nat} (h : gM2 A0 F0 l o A F) (hi : i + 1 < l.length) (hw : tE l i ≤ l.length) (ho : o.length < 160) (hk : l.getD i 32 = 73 ∨ l.getD i 32 = 85) : ∃ A' F', gM2 A0 F0 l (o ++ tBody l i 99) A' F' ∧ ∀ (G : pG) (X : pX), gm_cl gm_mX7_rewrite gm_tyf none (gm_Sp gm_MT (d + 4)) G X → (∀ o6 o7, gO67 o6 o7 → G 450 [some (.ref 24), some (.int (nI i)), some (.int 99), some (.int (l.getD i 32)), some (.int (nI (i + 1))), some (.int (nI (tE l i))), o6, o7] [] (gw A' F' nw nx LO DO) 0 0) → G 36 [some (.ref 24), some (.int (nI i)), some (.int 99), some (.int (l.getD i 32)), some (.int (nI (i + 1))), some (.int (nI (tE l i))), none, none] [] (gw A F nw nx LO DO) 0 0 := by
  obtain ⟨A1, F1, h1, s1, s2⟩ := s_rew7_99a (nw := nw) (nx := nx) (LO := LO) (DO := DO) (d := d) h hi hw ho hk
  refine ⟨A1, F1, ?_, fun G X hC hX => ?_⟩
  · exact h1
  have w196 : ∀ b : Int32, G 196 [some (.ref 24), some (.int (nI i)), some (.int 99), some (.int (l.getD i 32)), some (.int (nI (i + 1))), some (.int (nI (tE l i))), some (.int (nI (tE l (i + 1)))), some (.int b)] [] (gw A F nw nx LO DO) 0 0 := by
    intro b
    refine gm_run1 hC [36, 196, 450] 200 196 ?_
    exact gx_t (show ¬ (99 : Int32) = 100 from by decide) (gx_t (show ¬ (99 : Int32) = 115 from by decide) (gx_t (show ¬ (99 : Int32) = 122 from by decide) (gx_t (show ¬ (99 : Int32) = 116 from by decide) (gx_f (show ¬ ¬ (99 : Int32) = 99 from fun z => z rfl) (And.intro (fun (c : ¬ l.getD i 32 = 73) => Or.inl ⟨_, _, _, _, s1 c, hX _ _ (Or.inr (Or.inr ⟨_, _, rfl, rfl⟩))⟩) (fun (c : ¬ ¬ l.getD i 32 = 73) => Or.inl ⟨_, _, _, _, s2 (Decidable.of_not_not c), hX _ _ (Or.inr (Or.inr ⟨_, _, rfl, rfl⟩))⟩))))))
  have hq := gM2.behind (nw := nw) (nx := nx) (LO := LO) (DO := DO) (d := d + 2) h hi
  obtain ⟨vp, ep⟩ := s_textAt (A := A) h.1.1 (by have := h.1.2.2.1; omega) hi
  refine gm_run1 hC [36, 196, 450] 200 36 ?_
  exact gx_t (show ¬ (99 : Int32) = 110 from by decide) (gx_t (show ¬ (99 : Int32) = 101 from by decide) (gx_t (show ¬ (99 : Int32) = 118 from by decide) (gx_f (show ¬ (99 : Int32) = 117 from by decide) (gx_t (show ¬ (99 : Int32) = 105 from by decide) (Or.inl ⟨_, _, _, _, hq, And.intro vp (And.intro (fun _ => w196 1) (fun _ => And.intro vp (And.intro (fun _ => w196 0) (fun _ => w196 1))))⟩)))))
theorem s_rew7_111a {i : Nat} (h : gM2 A0 F0 l o A F) (hi : i + 1 < l.length) (hw : tE l i ≤ l.length) (h3 : i + 1 ≤ tE l (i + 1)) (h4 : tE l (i + 1) ≤ tE l i) (ho : o.length + (tE l i - (i + 1)) ≤ 160) : ∃ A' F', gM2 A0 F0 l (o ++ tBody l i 111) A' F' ∧ (l.getD (i + 1) 32 = 49 → gm_Sp gm_MT (d + 4) 8033 [.ref 24, .int (nI (tE l (i + 1))), .int (nI (tE l i))] (gw A F nw nx LO DO) (.inl none) (gw A' F' nw nx LO DO) 0 0) ∧ (¬ l.getD (i + 1) 32 = 49 → gm_Sp gm_MT (d + 4) 8033 [.ref 24, .int (nI (i + 1)), .int (nI (tE l (i + 1)))] (gw A F nw nx LO DO) (.inl none) (gw A' F' nw nx LO DO) 0 0) := by
  rw [tBody_111]
  by_cases c : l.getD (i + 1) 32 = 49
  · rw [if_pos c]
    obtain ⟨A1, F1, h1, s1⟩ := gM2.part (nw := nw) (nx := nx) (LO := LO) (DO := DO) (d := d + 3) (a := tE l (i + 1)) (b := tE l i) h h4 hw (by omega)
    exact ⟨A1, F1, h1, fun _ => s1, fun z => absurd c z⟩
  · rw [if_neg c]
    obtain ⟨A1, F1, h1, s1⟩ := gM2.part (nw := nw) (nx := nx) (LO := LO) (DO := DO) (d := d + 3) (a := i + 1) (b := tE l (i + 1)) h h3 (by omega) (by omega)
    exact ⟨A1, F1, h1, fun z => absurd z c, fun _ => s1⟩
theorem s_rew7_111 {i : Nat} (h : gM2 A0 F0 l o A F) (hi : i + 1 < l.length) (hw : tE l i ≤ l.length) (h3 : i + 1 ≤ tE l (i + 1)) (h4 : tE l (i + 1) ≤ tE l i) (ho : o.length + (tE l i - (i + 1)) ≤ 160) : ∃ A' F', gM2 A0 F0 l (o ++ tBody l i 111) A' F' ∧ ∀ (G : pG) (X : pX), gm_cl gm_mX7_rewrite gm_tyf none (gm_Sp gm_MT (d + 4)) G X → (∀ o6 o7, gO67 o6 o7 → G 450 [some (.ref 24), some (.int (nI i)), some (.int 111), some (.int (l.getD i 32)), some (.int (nI (i + 1))), some (.int (nI (tE l i))), o6, o7] [] (gw A' F' nw nx LO DO) 0 0) → G 36 [some (.ref 24), some (.int (nI i)), some (.int 111), some (.int (l.getD i 32)), some (.int (nI (i + 1))), some (.int (nI (tE l i))), none, none] [] (gw A F nw nx LO DO) 0 0 := by
  obtain ⟨A1, F1, h1, s1, s2⟩ := s_rew7_111a (nw := nw) (nx := nx) (LO := LO) (DO := DO) (d := d) h hi hw h3 h4 ho
  obtain ⟨vp2, ep2⟩ := s_textAt (A := A) h.1.1 (by have := h.1.2.2.1; omega) hi
  refine ⟨A1, F1, ?_, fun G X hC hX => ?_⟩
  · exact h1
  have wa : l.getD (i + 1) 32 = 49 → ∀ b : Int32, G 383 [some (.ref 24), some (.int (nI i)), some (.int 111), some (.int (l.getD i 32)), some (.int (nI (i + 1))), some (.int (nI (tE l i))), some (.int (nI (tE l (i + 1)))), some (.int b)] [.int (nI (tE l (i + 1))), .ref 24] (gw A F nw nx LO DO) 0 0 := by
    intro c b
    have s1 := s1 c
    refine gm_run1 hC [36, 196, 363, 383, 450] 200 383 ?_
    exact And.intro vp2 (gx_f (show ¬ ¬ A 33 (nI (i + 1)).toNatClampNeg = 49 from fun z => z (ep2.trans c)) (Or.inl ⟨_, _, _, _, s1, hX _ _ (Or.inr (Or.inr ⟨_, _, rfl, rfl⟩))⟩))
  have wb : ¬ l.getD (i + 1) 32 = 49 → ∀ b : Int32, G 383 [some (.ref 24), some (.int (nI i)), some (.int 111), some (.int (l.getD i 32)), some (.int (nI (i + 1))), some (.int (nI (tE l i))), some (.int (nI (tE l (i + 1)))), some (.int b)] [.int (nI (i + 1)), .ref 24] (gw A F nw nx LO DO) 0 0 := by
    intro c b
    have s2 := s2 c
    refine gm_run1 hC [36, 196, 363, 383, 450] 200 383 ?_
    exact And.intro vp2 (gx_t (show ¬ A 33 (nI (i + 1)).toNatClampNeg = 49 from fun z => c (ep2.symm.trans z)) (Or.inl ⟨_, _, _, _, s2, hX _ _ (Or.inr (Or.inr ⟨_, _, rfl, rfl⟩))⟩))
  have w363 : ∀ b : Int32, G 363 [some (.ref 24), some (.int (nI i)), some (.int 111), some (.int (l.getD i 32)), some (.int (nI (i + 1))), some (.int (nI (tE l i))), some (.int (nI (tE l (i + 1)))), some (.int b)] [] (gw A F nw nx LO DO) 0 0 := by
    intro b
    refine gm_run1 hC [36, 196, 363, 383, 450] 200 363 ?_
    exact And.intro vp2 (And.intro (fun (c : ¬ A 33 (nI (i + 1)).toNatClampNeg = 49) => wb (fun z => c (ep2.trans z)) b) (fun (c : ¬ ¬ A 33 (nI (i + 1)).toNatClampNeg = 49) => wa (ep2.symm.trans (Decidable.of_not_not c)) b))
  have w196 : ∀ b : Int32, G 196 [some (.ref 24), some (.int (nI i)), some (.int 111), some (.int (l.getD i 32)), some (.int (nI (i + 1))), some (.int (nI (tE l i))), some (.int (nI (tE l (i + 1)))), some (.int b)] [] (gw A F nw nx LO DO) 0 0 := by
    intro b
    refine gm_run1 hC [36, 196, 363, 450] 200 196 ?_
    exact gx_t (show ¬ (111 : Int32) = 100 from by decide) (gx_t (show ¬ (111 : Int32) = 115 from by decide) (gx_t (show ¬ (111 : Int32) = 122 from by decide) (gx_t (show ¬ (111 : Int32) = 116 from by decide) (gx_t (show ¬ (111 : Int32) = 99 from by decide) (gx_t (show ¬ (111 : Int32) = 112 from by decide) (gx_f (show ¬ ¬ (111 : Int32) = 111 from fun z => z rfl) (w363 b)))))))
  have hq := gM2.behind (nw := nw) (nx := nx) (LO := LO) (DO := DO) (d := d + 2) h hi
  obtain ⟨vp, ep⟩ := s_textAt (A := A) h.1.1 (by have := h.1.2.2.1; omega) hi
  refine gm_run1 hC [36, 196, 450] 200 36 ?_
  exact gx_t (show ¬ (111 : Int32) = 110 from by decide) (gx_t (show ¬ (111 : Int32) = 101 from by decide) (gx_t (show ¬ (111 : Int32) = 118 from by decide) (gx_f (show ¬ (111 : Int32) = 117 from by decide) (gx_t (show ¬ (111 : Int32) = 105 from by decide) (Or.inl ⟨_, _, _, _, hq, And.intro vp (And.intro (fun _ => w196 1) (fun _ => And.intro vp (And.intro (fun _ => w196 0) (fun _ => w196 1))))⟩)))))
theorem s_rew7_121a {i : Nat} (h : gM2 A0 F0 l o A F) (hi : i + 1 < l.length) (hw : tE l i ≤ l.length) (h3 : i + 1 ≤ tE l (i + 1)) (h4 : tE l (i + 1) ≤ tE l i) (ho : o.length + (tE l i - (i + 1)) ≤ 160) : ∃ A' F', gM2 A0 F0 l (o ++ tBody l i 121) A' F' ∧ (l.getD (i + 1) 32 = 48 → gm_Sp gm_MT (d + 4) 8033 [.ref 24, .int (nI (tE l (i + 1))), .int (nI (tE l i))] (gw A F nw nx LO DO) (.inl none) (gw A' F' nw nx LO DO) 0 0) ∧ (¬ l.getD (i + 1) 32 = 48 → gm_Sp gm_MT (d + 4) 8033 [.ref 24, .int (nI (i + 1)), .int (nI (tE l (i + 1)))] (gw A F nw nx LO DO) (.inl none) (gw A' F' nw nx LO DO) 0 0) := by
  rw [tBody_121]
  by_cases c : l.getD (i + 1) 32 = 48
  · rw [if_pos c]
    obtain ⟨A1, F1, h1, s1⟩ := gM2.part (nw := nw) (nx := nx) (LO := LO) (DO := DO) (d := d + 3) (a := tE l (i + 1)) (b := tE l i) h h4 hw (by omega)
    exact ⟨A1, F1, h1, fun _ => s1, fun z => absurd c z⟩
  · rw [if_neg c]
    obtain ⟨A1, F1, h1, s1⟩ := gM2.part (nw := nw) (nx := nx) (LO := LO) (DO := DO) (d := d + 3) (a := i + 1) (b := tE l (i + 1)) h h3 (by omega) (by omega)
    exact ⟨A1, F1, h1, fun z => absurd z c, fun _ => s1⟩
set_option maxRecDepth 4000 in
theorem s_rew7_121 {i : Nat} (h : gM2 A0 F0 l o A F) (hi : i + 1 < l.length) (hw : tE l i ≤ l.length) (h3 : i + 1 ≤ tE l (i + 1)) (h4 : tE l (i + 1) ≤ tE l i) (ho : o.length + (tE l i - (i + 1)) ≤ 160) : ∃ A' F', gM2 A0 F0 l (o ++ tBody l i 121) A' F' ∧ ∀ (G : pG) (X : pX), gm_cl gm_mX7_rewrite gm_tyf none (gm_Sp gm_MT (d + 4)) G X → (∀ o6 o7, gO67 o6 o7 → G 450 [some (.ref 24), some (.int (nI i)), some (.int 121), some (.int (l.getD i 32)), some (.int (nI (i + 1))), some (.int (nI (tE l i))), o6, o7] [] (gw A' F' nw nx LO DO) 0 0) → G 36 [some (.ref 24), some (.int (nI i)), some (.int 121), some (.int (l.getD i 32)), some (.int (nI (i + 1))), some (.int (nI (tE l i))), none, none] [] (gw A F nw nx LO DO) 0 0 := by
  obtain ⟨A1, F1, h1, s1, s2⟩ := s_rew7_121a (nw := nw) (nx := nx) (LO := LO) (DO := DO) (d := d) h hi hw h3 h4 ho
  obtain ⟨vp2, ep2⟩ := s_textAt (A := A) h.1.1 (by have := h.1.2.2.1; omega) hi
  refine ⟨A1, F1, ?_, fun G X hC hX => ?_⟩
  · exact h1
  have wa : l.getD (i + 1) 32 = 48 → ∀ b : Int32, G 428 [some (.ref 24), some (.int (nI i)), some (.int 121), some (.int (l.getD i 32)), some (.int (nI (i + 1))), some (.int (nI (tE l i))), some (.int (nI (tE l (i + 1)))), some (.int b)] [.int (nI (tE l (i + 1))), .ref 24] (gw A F nw nx LO DO) 0 0 := by
    intro c b
    have s1 := s1 c
    refine gm_run1 hC [36, 196, 408, 428, 450] 200 428 ?_
    exact And.intro vp2 (gx_f (show ¬ ¬ A 33 (nI (i + 1)).toNatClampNeg = 48 from fun z => z (ep2.trans c)) (Or.inl ⟨_, _, _, _, s1, hX _ _ (Or.inr (Or.inr ⟨_, _, rfl, rfl⟩))⟩))
  have wb : ¬ l.getD (i + 1) 32 = 48 → ∀ b : Int32, G 428 [some (.ref 24), some (.int (nI i)), some (.int 121), some (.int (l.getD i 32)), some (.int (nI (i + 1))), some (.int (nI (tE l i))), some (.int (nI (tE l (i + 1)))), some (.int b)] [.int (nI (i + 1)), .ref 24] (gw A F nw nx LO DO) 0 0 := by
    intro c b
    have s2 := s2 c
    refine gm_run1 hC [36, 196, 408, 428, 450] 200 428 ?_
    exact And.intro vp2 (gx_t (show ¬ A 33 (nI (i + 1)).toNatClampNeg = 48 from fun z => c (ep2.symm.trans z)) (Or.inl ⟨_, _, _, _, s2, hX _ _ (Or.inr (Or.inr ⟨_, _, rfl, rfl⟩))⟩))
  have w408 : ∀ b : Int32, G 408 [some (.ref 24), some (.int (nI i)), some (.int 121), some (.int (l.getD i 32)), some (.int (nI (i + 1))), some (.int (nI (tE l i))), some (.int (nI (tE l (i + 1)))), some (.int b)] [] (gw A F nw nx LO DO) 0 0 := by
    intro b
    refine gm_run1 hC [36, 196, 408, 428, 450] 200 408 ?_
    exact And.intro vp2 (And.intro (fun (c : ¬ A 33 (nI (i + 1)).toNatClampNeg = 48) => wb (fun z => c (ep2.trans z)) b) (fun (c : ¬ ¬ A 33 (nI (i + 1)).toNatClampNeg = 48) => wa (ep2.symm.trans (Decidable.of_not_not c)) b))
  have w196 : ∀ b : Int32, G 196 [some (.ref 24), some (.int (nI i)), some (.int 121), some (.int (l.getD i 32)), some (.int (nI (i + 1))), some (.int (nI (tE l i))), some (.int (nI (tE l (i + 1)))), some (.int b)] [] (gw A F nw nx LO DO) 0 0 := by
    intro b
    refine gm_run1 hC [36, 196, 408, 450] 200 196 ?_
    exact gx_t (show ¬ (121 : Int32) = 100 from by decide) (gx_t (show ¬ (121 : Int32) = 115 from by decide) (gx_t (show ¬ (121 : Int32) = 122 from by decide) (gx_t (show ¬ (121 : Int32) = 116 from by decide) (gx_t (show ¬ (121 : Int32) = 99 from by decide) (gx_t (show ¬ (121 : Int32) = 112 from by decide) (gx_t (show ¬ (121 : Int32) = 111 from by decide) (w408 b)))))))
  have hq := gM2.behind (nw := nw) (nx := nx) (LO := LO) (DO := DO) (d := d + 2) h hi
  obtain ⟨vp, ep⟩ := s_textAt (A := A) h.1.1 (by have := h.1.2.2.1; omega) hi
  refine gm_run1 hC [36, 196, 450] 200 36 ?_
  exact gx_t (show ¬ (121 : Int32) = 110 from by decide) (gx_t (show ¬ (121 : Int32) = 101 from by decide) (gx_t (show ¬ (121 : Int32) = 118 from by decide) (gx_f (show ¬ (121 : Int32) = 117 from by decide) (gx_t (show ¬ (121 : Int32) = 105 from by decide) (Or.inl ⟨_, _, _, _, hq, And.intro vp (And.intro (fun _ => w196 1) (fun _ => And.intro vp (And.intro (fun _ => w196 0) (fun _ => w196 1))))⟩)))))
theorem s_rew7 {i : Nat} (h : gM2 A0 F0 l o A F) (hi : i < l.length) (hru : ¬ tRule l i = 32) (ho : o.length = i) : ∃ A' F', gM2 A0 F0 l (o ++ tBody l i (tRule l i)) A' F' ∧ ∀ (G : pG) (X : pX), gm_cl gm_mX7_rewrite gm_tyf none (gm_Sp gm_MT (d + 4)) G X → (∀ o6 o7, gO67 o6 o7 → G 450 [some (.ref 24), some (.int (nI i)), some (.int (tRule l i)), some (.int (l.getD i 32)), some (.int (nI (i + 1))), some (.int (nI (tE l i))), o6, o7] [] (gw A' F' nw nx LO DO) 0 0) → G 36 [some (.ref 24), some (.int (nI i)), some (.int (tRule l i)), some (.int (l.getD i 32)), some (.int (nI (i + 1))), some (.int (nI (tE l i))), none, none] [] (gw A F nw nx LO DO) 0 0 := by
  have hv := h.1.2.2.2.1
  have h40 := h.1.2.2.1
  have hg := tE_gt hi
  have hl := tE_le (l := l) (Nat.le_of_lt hi)
  rcases tRule_shape hru with ⟨h67, hh⟩ | ⟨ha, hh⟩
  · obtain ⟨p1, p2⟩ := tE_one hv hi h67
    rcases hh with ⟨hr, hk⟩ | ⟨hr, hk⟩ | ⟨hr, hk⟩ | ⟨hr, hk⟩ | ⟨hr, hk⟩
    · obtain ⟨q1, q2⟩ := tE_one hv p1 hk
      have hg2 := tE_gt q1
      rw [hr]
      exact s_rew7_110 h p1 hl (by omega) (by omega)
    · rw [hr]
      exact s_rew7_101 h p1 hl (by omega)
    · rw [hr]
      exact s_rew7_118 h p1 hl (by omega)
    · obtain ⟨q1, q2, q3, q4, q5, q6⟩ := tE_two hv p1 (by rw [hk]; rfl)
      rw [show i + 1 + 1 = i + 2 from rfl] at q1 q2 q3 q4
      rw [hr]
      exact s_rew7_105 h p1 hl q1 (by omega) (by omega)
    · obtain ⟨q1, q2, q3, q4, q5, q6⟩ := tE_two hv p1 (by rw [hk]; rfl)
      rw [show i + 1 + 1 = i + 2 from rfl] at q1 q2 q3 q4
      rw [hr]
      exact s_rew7_117 h p1 hl q1 (by omega) (by omega)
  · obtain ⟨q1, q2, q3, q4, q5, q6⟩ := tE_two hv hi ha
    rcases hh with hr | hr | hr | hr | hr | ⟨hr, hk⟩ | hr | hr
    · rw [hr]
      exact s_rew7_100 h q1 hl (by omega) (by omega) (by omega)
    · rw [hr]
      exact s_rew7_115 h q1 hl (by omega) (by omega) (by omega)
    · rw [hr]
      exact s_rew7_111 h q1 hl (by omega) (by omega) (by omega)
    · rw [hr]
      exact s_rew7_121 h q1 hl (by omega) (by omega) (by omega)
    · rw [hr]
      exact s_rew7_112 h q1 hl (by omega) (by omega) (by omega)
    · rw [hr]
      exact s_rew7_99 h q1 hl (by omega) hk
    · rw [hr]
      exact s_rew7_116 h q1 hl (by omega)
    · rw [hr]
      exact s_rew7_122 h q1 hl (by omega)
end X