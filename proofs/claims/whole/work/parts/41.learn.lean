/-! LEARNING a text, on both sides -/
/-- a text is known as a term, or all stays -/
def rAll (l : List Int32) (rows : List (Int32 × Int32 × Int32)) : Option Nat × List (Int32 × Int32 × Int32) := match tPar 40 l rows with
  | (some j, rows', _) => (some j, rows')
  | (none, _, _) => (none, rows)
def gOz (o : Option Nat) : Int32 := match o with
  | some j => nI j
  | none => 0
theorem tE_all {l : List Int32} (hv : tV l) : tE l 0 = l.length ∧ tS l 0 = l := by
  have h : tlen l 1 = l.length := tlen_all hv
  refine ⟨by unfold tE; rw [List.drop_zero, h, Nat.zero_add], ?_⟩
  unfold tS
  rw [List.drop_zero, h, List.take_length]
/-- what learning leaves of the rows -/
def gLe (l : List Int32) (rows : List (Int32 × Int32 × Int32)) (sp sp' : Nat → List Int32) : Prop := (∀ t, t < rows.length → sp' t = sp t) ∧ (∃ more, (rAll l rows).2 = rows ++ more) ∧ (∀ j, (rAll l rows).1 = some j → j < (rAll l rows).2.length ∧ sp' j = l)
section X
variable {nw nx : Nat} {LO : Nat → Int64} {DO : Nat → UInt64} {d : Nat} {l : List Int32} {r e fl fc : Nat} {A : Nat → Nat → Int32} {F : Nat → Int32} {rows : List (Int32 × Int32 × Int32)} {sp : Nat → List Int32}
theorem s_makeAll (hx : gX nw r e fl fc) (hl : l.length ≤ 40) (hv : tV l) (hsg : gSl l) (hch : gCh l) (hr : gR (A r) l) (hFl : F fl = nI l.length) (hR : gRp A rows sp) (hF0 : F 0 = nI rows.length) : ∃ A' F' sp', gRp A' (rAll l rows).2 sp' ∧ F' 0 = nI (rAll l rows).2.length ∧ gLe l rows sp sp' ∧ gKn fc A F A' F' ∧ gm_Sp gm_MT (d + 46) 5012 [.ref 1, .ref nw] (gw A F nw nx LO DO) (.inl (some (.int (gOI (rAll l rows).1)))) (gw A' F' nw nx LO DO) 0 0 := by
  have hfc0 : 0 ≠ fc ∧ fl ≠ fc := by rcases hx with ⟨rfl, rfl, rfl, rfl, rfl⟩ | ⟨rfl, rfl, rfl, rfl, rfl⟩ <;> decide
  have hpos : 0 < l.length := trun_le hv
  obtain ⟨eE, eS⟩ := tE_all hv
  have hrw := s_rewind (A := A) (F := F) (nw := nw) (nx := nx) (LO := LO) (DO := DO) (d := d + 44) hx
  obtain ⟨A1, F1, sp1, ⟨a1, a2, ⟨a3, a4, a5⟩, a6, a7⟩, a8⟩ := s_makeNext (nw := nw) (nx := nx) (LO := LO) (DO := DO) (d := d) hx hl hv hsg hch 40 0 0 A (va_up F fc 0) rows sp rfl hpos (by rw [eE]; omega) hr (by rw [g_upn hfc0.2]; exact hFl) (by rw [g_upe]; rfl) hR (by rw [g_upn hfc0.1]; exact hF0)
  rw [List.drop_zero] at a1 a2 a4 a5 a6 a8
  have hk1 : gKn fc A F A (va_up F fc 0) := ⟨fun _ _ => rfl, fun j _ b => g_upn b⟩
  cases hres : tPar 40 l rows with
  | mk o rest =>
    obtain ⟨rows1, l1⟩ := rest
    rw [hres] at a1 a2 a4 a5 a6 a8
    cases o with
    | some j =>
      have hA : rAll l rows = (some j, rows1) := by unfold rAll; rw [hres]
      obtain ⟨b1, b2, -⟩ := a5 j rfl
      unfold gLe
      rw [hA]
      refine ⟨A1, F1, sp1, a1, a2, ⟨a3, a4, fun i hi => ?_⟩, hk1.trans a7, gm_mk gm_mX4_makeAll rfl ⟨Or.inr rfl, rfl, rfl, trivial⟩ (fun G X hC hX => ?_)⟩
      · cases hi
        exact ⟨b1, by rw [b2, eS]⟩
      · have na : ¬ nI j = gm_lit (-1) := fun z => nI_pos (n := j) (by have := a1.1.1; have b1 : j < rows1.length := b1; have c1 : rows1.length ≤ 120 := this; omega) (by rw [z]; decide)
        clear hk1 hfc0
        rcases hx with ⟨rfl, rfl, rfl, rfl, rfl⟩ | ⟨rfl, rfl, rfl, rfl, rfl⟩
        all_goals
          refine gm_runs hC [] 200 _ _ _ _ _ _ ?_
          exact Or.inl ⟨_, _, _, _, hrw, Or.inl ⟨_, _, _, _, a8, gx_t na hX⟩⟩
    | none =>
      have hA : rAll l rows = (none, rows) := by unfold rAll; rw [hres]
      obtain ⟨more, b4⟩ := a4
      have b4 : rows1 = rows ++ more := b4
      have a1 : gRp A1 rows1 sp1 := a1
      rw [b4] at a1
      unfold gLe
      rw [hA]
      refine ⟨A1, va_up F1 0 (F 0), sp1, gRo.cut a1, by rw [g_upe]; exact hF0, ⟨a3, ⟨[], by simp⟩, fun i hi => (by cases hi)⟩, ⟨fun j hj => (hk1.trans a7).1 j hj, fun j h1 h2 => by rw [g_upn h1]; exact (hk1.trans a7).2 j h1 h2⟩, gm_mk gm_mX4_makeAll rfl ⟨Or.inr rfl, rfl, rfl, trivial⟩ (fun G X hC hX => ?_)⟩
      clear hk1 hfc0
      rcases hx with ⟨rfl, rfl, rfl, rfl, rfl⟩ | ⟨rfl, rfl, rfl, rfl, rfl⟩
      all_goals
        refine gm_runs hC [] 200 _ _ _ _ _ _ ?_
        exact Or.inl ⟨_, _, _, _, hrw, Or.inl ⟨_, _, _, _, a8, gx_f (show ¬ ¬ (-1 : Int32) = gm_lit (-1) from by decide) hX⟩⟩
/-- all but the reference's terms, its cursor and its thrown is as before -/
def gKl (A : Nat → Nat → Int32) (F : Nat → Int32) (A' : Nat → Nat → Int32) (F' : Nat → Int32) : Prop := (∀ j, j < 25 ∨ 29 < j → A' j = A j) ∧ (∀ j, j ≠ 20 → j ≠ 21 → j ≠ 25 → F' j = F j)
theorem s_learns (hl : l.length ≤ 40) (hv : tV l) (hsg : gSl l) (hr : gR (A 33) l) (hR : gRm A rows sp) (hF21 : F 21 = nI rows.length) (c : Int32) : ∃ A' F' sp', gRm A' (rAll l rows).2 sp' ∧ F' 21 = nI (rAll l rows).2.length ∧ F' 20 = (if (rAll l rows).1.isSome then 0 else c) ∧ gLe l rows sp sp' ∧ gKl A F A' F' ∧ gm_Sp gm_MT (d + 45) 8036 [.ref 24, .int c] (gw A F nw nx LO DO) (.inl (some (.int (gOz (rAll l rows).1)))) (gw A' F' nw nx LO DO) 0 0 := by
  have hpos : 0 < l.length := trun_le hv
  obtain ⟨eE, eS⟩ := tE_all hv
  obtain ⟨A1, F1, sp1, ⟨a1, a2, ⟨a3, a4, a5⟩, a6, a7⟩, a8⟩ := s_parse (nw := nw) (nx := nx) (LO := LO) (DO := DO) (d := d) hl hv hsg 40 0 A (va_up F 25 0) rows sp hpos (by rw [eE]; omega) hr (by rw [g_upe]; rfl) hR (by rw [g_upn (by decide)]; exact hF21)
  rw [List.drop_zero] at a1 a2 a4 a5 a6 a8
  have hk1 : gKr A F A (va_up F 25 0) := ⟨fun _ _ => rfl, fun j _ b => g_upn b⟩
  cases hres : tPar 40 l rows with
  | mk o rest =>
    obtain ⟨rows1, l1⟩ := rest
    rw [hres] at a1 a2 a4 a5 a6 a8
    cases o with
    | some j =>
      have hA : rAll l rows = (some j, rows1) := by unfold rAll; rw [hres]
      obtain ⟨b1, b2, -⟩ := a5 j rfl
      have hj : j < 2 ^ 31 := by have := a1.1.1; have b1 : j < rows1.length := b1; have c1 : rows1.length ≤ 120 := this; omega
      unfold gLe
      rw [hA]
      refine ⟨A1, va_up F1 20 0, sp1, a1, by rw [g_upn (by decide)]; exact a2, by rw [g_upe]; rfl, ⟨a3, a4, fun i hi => ?_⟩, ⟨fun j hj => (hk1.trans a7).1 j hj, fun j h0 h1 h2 => by rw [g_upn h0]; exact (hk1.trans a7).2 j h1 h2⟩, gm_mk gm_mX7_learns rfl ⟨Or.inr rfl, rfl, rfl, trivial⟩ (fun G X hC hX => ?_)⟩
      · cases hi
        exact ⟨b1, by rw [b2, eS]⟩
      · refine gm_runs hC [] 200 _ _ _ _ _ _ ?_
        exact Or.inl ⟨_, _, _, _, a8, gx_t (show (0 : Int32) ≤ nI j from nI_pos' hj) (gx_f (show ¬ nI j < 0 from nI_pos hj) hX)⟩
    | none =>
      have hA : rAll l rows = (none, rows) := by unfold rAll; rw [hres]
      obtain ⟨more, b4⟩ := a4
      have b4 : rows1 = rows ++ more := b4
      have a1 : gRm A1 rows1 sp1 := a1
      rw [b4] at a1
      unfold gLe
      rw [hA]
      refine ⟨A1, va_up (va_up F1 20 c) 21 (F 21), sp1, gRo.cut a1, by rw [g_upe]; exact hF21, by rw [g_upn (by decide), g_upe]; rfl, ⟨a3, ⟨[], by simp⟩, fun i hi => (by cases hi)⟩, ⟨fun j hj => (hk1.trans a7).1 j hj, fun j h0 h1 h2 => by rw [g_upn h1, g_upn h0]; exact (hk1.trans a7).2 j h1 h2⟩, gm_mk gm_mX7_learns rfl ⟨Or.inr rfl, rfl, rfl, trivial⟩ (fun G X hC hX => ?_)⟩
      refine gm_runs hC [] 200 _ _ _ _ _ _ ?_
      exact Or.inl ⟨_, _, _, _, a8, gx_f (show ¬ (0 : Int32) ≤ -1 from by decide) (gx_t (show (-1 : Int32) < 0 from by decide) hX)⟩
end X