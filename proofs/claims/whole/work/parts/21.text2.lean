/-! TEXTS: loops -/
/-- both texts: the first, the second -/
def gXX (x r e fl fc y r2 e2 fl2 fc2 : Nat) : Prop := (x = 8 ∧ r = 9 ∧ e = 10 ∧ fl = 3 ∧ fc = 4 ∧ y = 11 ∧ r2 = 12 ∧ e2 = 13 ∧ fl2 = 5 ∧ fc2 = 6) ∨ (x = 11 ∧ r = 12 ∧ e = 13 ∧ fl = 5 ∧ fc = 6 ∧ y = 8 ∧ r2 = 9 ∧ e2 = 10 ∧ fl2 = 3 ∧ fc2 = 4)
theorem gXX.l {x r e fl fc y r2 e2 fl2 fc2 : Nat} (h : gXX x r e fl fc y r2 e2 fl2 fc2) : gX x r e fl fc := by
  rcases h with ⟨rfl, rfl, rfl, rfl, rfl, -⟩ | ⟨rfl, rfl, rfl, rfl, rfl, -⟩
  · exact Or.inl ⟨rfl, rfl, rfl, rfl, rfl⟩
  · exact Or.inr ⟨rfl, rfl, rfl, rfl, rfl⟩
theorem gXX.r {x r e fl fc y r2 e2 fl2 fc2 : Nat} (h : gXX x r e fl fc y r2 e2 fl2 fc2) : gX y r2 e2 fl2 fc2 := by
  rcases h with ⟨-, -, -, -, -, rfl, rfl, rfl, rfl, rfl⟩ | ⟨-, -, -, -, -, rfl, rfl, rfl, rfl, rfl⟩
  · exact Or.inr ⟨rfl, rfl, rfl, rfl, rfl⟩
  · exact Or.inl ⟨rfl, rfl, rfl, rfl, rfl⟩
theorem gXX.ne {x r e fl fc y r2 e2 fl2 fc2 : Nat} (h : gXX x r e fl fc y r2 e2 fl2 fc2) : fl2 ≠ fl ∧ r2 ≠ r ∧ r2 ≠ e ∧ e2 ≠ r := by
  rcases h with ⟨rfl, rfl, rfl, rfl, rfl, rfl, rfl, rfl, rfl, rfl⟩ | ⟨rfl, rfl, rfl, rfl, rfl, rfl, rfl, rfl, rfl, rfl⟩ <;> decide
theorem g_up2 {α : Type} (f : Nat → α) (k : Nat) (v u : α) : va_up (va_up f k v) k u = va_up f k u := bx_uu f k v u
theorem g_upS {α : Type} {f : Nat → α} {k : Nat} {v : α} (h : f k = v) : va_up f k v = f := by
  funext j
  by_cases hj : j = k
  · subst hj; simp [va_up, h]
  · simp [va_up, hj]
theorem g_upn {α : Type} {f : Nat → α} {k j : Nat} {v : α} (h : j ≠ k) : va_up f k v j = f j := by simp [va_up, h]
theorem g_upe {α : Type} {f : Nat → α} {k : Nat} {v : α} : va_up f k v k = v := by simp [va_up]
section X
variable {nw nx : Nat} {LO : Nat → Int64} {DO : Nat → UInt64} {d : Nat} {x r e fl fc y r2 e2 fl2 fc2 : Nat}
theorem s_putPart_loop {l2 : List Int32} {t : Nat} {s0 : Int32} (hxy : gXX x r e fl fc y r2 e2 fl2 fc2) (ht : t ≤ l2.length) (hl2 : l2.length ≤ 81) (hc2 : gCh l2) : ∀ (k i : Nat) (A : Nat → Nat → Int32) (F : Nat → Int32) (l : List Int32), i + k = t → F fl = nI l.length → gR (A r) l → l.length + k ≤ 81 → F fl2 = nI l2.length → gR (A r2) l2 →
    ∃ f, gR f (l ++ (l2.drop i).take k) ∧ ∀ (G : pG) (X : pX), gm_cl gm_mX5_putPart gm_tyf none (gm_Sp gm_MT (d + 1)) G X → X (.inl none) (gw (va_up A r f) (va_up F fl (nI (l.length + k))) nw nx LO DO) 0 0 → G 3 [some (.ref x), some (.ref y), some (.int s0), some (.int (nI t)), some (.int (nI i))] [] (gw A F nw nx LO DO) 0 0 := by
  intro k
  induction k with
  | zero =>
    intro i A F l hi hF hr hlen hF2 hr2
    refine ⟨A r, by simpa using hr, fun G X hC hX => ?_⟩
    rw [g_upS rfl, g_upS (by simpa using hF)] at hX
    refine gm_run1 hC [3] 200 3 ?_
    have hle : nI t ≤ nI i := nI_le (by omega) (by omega)
    exact And.intro (fun _ => hX) (fun c => absurd hle c)
  | succ k ih =>
    intro i A F l hi hF hr hlen hF2 hr2
    have hil : i < l2.length := by omega
    have hg : l2.getD i 32 = A r2 i := hr2.at hil
    have hch := hr2.ch hc2 hil
    obtain ⟨hn1, hn2, -, -⟩ := hxy.ne
    obtain ⟨f, hf, hrun⟩ := ih (i + 1) (va_up A r (upd (A r) l.length (A r2 i))) (va_up F fl (nI (l.length + 1))) (l ++ [A r2 i]) (by omega) (by rw [g_upe]; simp) (by rw [g_upe]; exact hr.push _) (by simp; omega) (by rw [g_upn hn1]; exact hF2) (by rw [g_upn hn2]; exact hr2)
    refine ⟨f, ?_, fun G X hC hX => ?_⟩
    · rw [List.drop_eq_getElem_cons hil, List.take_succ_cons]
      have e1 : l2[i] = A r2 i := by
        have := hr2 i hil
        rw [List.getElem?_eq_getElem hil] at this
        exact Option.some.inj this
      rw [e1]
      simpa using hf
    · have hX2 := hrun G X hC (by
        rw [g_up2, g_up2]
        simpa [Nat.add_assoc, Nat.add_comm 1 k] using hX)
      rw [← nI_1] at hX2
      have hlt : ¬ nI t ≤ nI i := nI_ge (by omega) (by omega)
      have h81 : ¬ nI 81 ≤ nI i := nI_ge (by omega) (by omega)
      have hat : ∀ A F, F fl2 = nI l2.length → gR (A r2) l2 → gm_Sp gm_MT (d + 1) 6006 [.ref y, .int (nI i)] (gw A F nw nx LO DO) (.inl (some (.int (A r2 i)))) (gw A F nw nx LO DO) 0 0 := fun A F h1 h2 => by
        have := s_at (d := d) (nw := nw) (nx := nx) (LO := LO) (DO := DO) hxy.r h1 hl2 h2 hc2 (nI i)
        rw [tAt_nI hil hl2, h2.at hil] at this
        exact this
      have hput := s_put (A := A) (nw := nw) (nx := nx) (LO := LO) (DO := DO) (d := d) hxy.l hF (by omega) (A r2 i) hch
      have h9 := hat A F hF2 hr2
      clear hat ih hrun hg
      refine gm_run1 hC [3] 200 3 ?_
      rcases hxy with ⟨rfl, rfl, rfl, rfl, rfl, rfl, rfl, rfl, rfl, rfl⟩ | ⟨rfl, rfl, rfl, rfl, rfl, rfl, rfl, rfl, rfl, rfl⟩
      · exact And.intro (fun c => absurd c hlt) (fun _ => And.intro (fun c => absurd c h81) (fun _ => Or.inl ⟨_, _, _, _, h9, Or.inl ⟨_, _, _, _, hput, hX2⟩⟩))
      · exact And.intro (fun c => absurd c hlt) (fun _ => And.intro (fun c => absurd c h81) (fun _ => Or.inl ⟨_, _, _, _, h9, Or.inl ⟨_, _, _, _, hput, hX2⟩⟩))
theorem s_putPart {A : Nat → Nat → Int32} {F : Nat → Int32} {l l2 : List Int32} {a k : Nat} (hxy : gXX x r e fl fc y r2 e2 fl2 fc2) (ht : a + k ≤ l2.length) (hl2 : l2.length ≤ 81) (hc2 : gCh l2) (hF : F fl = nI l.length) (hr : gR (A r) l) (hlen : l.length + k ≤ 81) (hF2 : F fl2 = nI l2.length) (hr2 : gR (A r2) l2) :
    ∃ f, gR f (l ++ (l2.drop a).take k) ∧ gm_Sp gm_MT (d + 2) 6008 [.ref x, .ref y, .int (nI a), .int (nI (a + k))] (gw A F nw nx LO DO) (.inl none) (gw (va_up A r f) (va_up F fl (nI (l.length + k))) nw nx LO DO) 0 0 := by
  obtain ⟨f, hf, hrun⟩ := s_putPart_loop (d := d) (nw := nw) (nx := nx) (LO := LO) (DO := DO) (s0 := nI a) hxy ht hl2 hc2 k a A F l rfl hF hr hlen hF2 hr2
  refine ⟨f, hf, gm_mk gm_mX5_putPart rfl ⟨Or.inr rfl, rfl, rfl, trivial⟩ (fun G X hC hX => ?_)⟩
  refine gm_runs hC [3] 200 _ _ _ _ _ _ ?_
  exact hrun G X hC hX
end X