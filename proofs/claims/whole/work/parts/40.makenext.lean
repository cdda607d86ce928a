/-! READING a text back, the prover -/
def gKn (fc : Nat) (A : Nat → Nat → Int32) (F : Nat → Int32) (A' : Nat → Nat → Int32) (F' : Nat → Int32) : Prop := (∀ j, j < 2 ∨ 6 < j → A' j = A j) ∧ (∀ j, j ≠ 0 → j ≠ fc → F' j = F j)
theorem gKn.trans {fc : Nat} {A A1 A2 : Nat → Nat → Int32} {F F1 F2 : Nat → Int32} (h : gKn fc A F A1 F1) (k : gKn fc A1 F1 A2 F2) : gKn fc A F A2 F2 := ⟨fun j a => (k.1 j a).trans (h.1 j a), fun j a b => (k.2 j a b).trans (h.2 j a b)⟩
theorem gKt.n {A A' : Nat → Nat → Int32} {F F' : Nat → Int32} (h : gKt A F A' F') (fc : Nat) : gKn fc A F A' F' := ⟨h.1, fun j a _ => h.2 j a⟩
section X
variable {nw nx : Nat} {LO : Nat → Int64} {DO : Nat → UInt64} {d : Nat} {l : List Int32} {r e fl fc : Nat}
/-- what a reading leaves in the prover's world -/
def gPq (fc : Nat) (A : Nat → Nat → Int32) (F : Nat → Int32) (l : List Int32) (p : Nat) (rows : List (Int32 × Int32 × Int32)) (sp : Nat → List Int32) (res : Option Nat × List (Int32 × Int32 × Int32) × List Int32) (A' : Nat → Nat → Int32) (F' : Nat → Int32) (sp' : Nat → List Int32) : Prop := gRp A' res.2.1 sp' ∧ F' 0 = nI res.2.1.length ∧ gPr l p rows sp res sp' ∧ (∀ j, res.1 = some j → F' fc = nI (tE l p)) ∧ gKn fc A F A' F'
theorem s_makeNext (hx : gX nw r e fl fc) (hl : l.length ≤ 40) (hv : tV l) (hsg : gSl l) (hch : gCh l) : ∀ (f i p : Nat) (A : Nat → Nat → Int32) (F : Nat → Int32) (rows : List (Int32 × Int32 × Int32)) (sp : Nat → List Int32), i + f = 40 → p < l.length → tE l p - p ≤ f → gR (A r) l → F fl = nI l.length → F fc = nI p → gRp A rows sp → F 0 = nI rows.length →
    ∃ A' F' sp', gPq fc A F l p rows sp (tPar f (l.drop p) rows) A' F' sp' ∧ gm_Sp gm_MT (d + f + 5) 5013 [.ref 1, .ref nw, .int (nI i)] (gw A F nw nx LO DO) (.inl (some (.int (gOI (tPar f (l.drop p) rows).1)))) (gw A' F' nw nx LO DO) 0 0 := by
  have hfc0 : 0 ≠ fc ∧ fl ≠ fc ∧ fl ≠ 0 ∧ fc ≠ 0 ∧ 6 < r := by rcases hx with ⟨rfl, rfl, rfl, rfl, rfl⟩ | ⟨rfl, rfl, rfl, rfl, rfl⟩ <;> decide
  intro f
  induction f with
  | zero =>
    intro i p A F rows sp hi hp hE
    have := tE_gt hp
    omega
  | succ f ih =>
    intro i p A F rows sp hi hp hE hr hFl hF hR hF21
    obtain ⟨e0, e1, e2⟩ := tE_step hv hp
    obtain ⟨s0, s1, s2⟩ := tS_parts hv hp
    have hsk := gSl_at hsg hp
    have hgp := tE_gt hp
    have hlp := tE_le (l := l) (Nat.le_of_lt hp)
    have hSlen := tS_len l p
    have hd : l.drop p = l.getD p 32 :: l.drop (p + 1) := by
      rw [List.drop_eq_getElem_cons hp]
      congr 1
      rw [List.getD_eq_getElem?_getD, List.getElem?_eq_getElem hp]
      rfl
    have hi40 : nI i < nI 40 := nI_lt (by omega) (by omega)
    have hrd := s_read (A := A) (nw := nw) (nx := nx) (LO := LO) (DO := DO) (d := d + f + 3) hx hFl (by omega) hr hch
    have eK : tAt l (F fc) = l.getD p 32 := by rw [hF]; exact tAt_nI hp (by omega)
    rw [eK] at hrd
    have eF : va_up F fc (F fc + 1) fc = nI (p + 1) := by rw [g_upe, hF]; exact nI_1 p
    have eF21 : va_up F fc (F fc + 1) 0 = nI rows.length := by rw [g_upn hfc0.1]; exact hF21
    have eFl : va_up F fc (F fc + 1) fl = nI l.length := by rw [g_upn hfc0.2.1]; exact hFl
    have hk1 : gKn fc A F A (va_up F fc (F fc + 1)) := ⟨fun _ _ => rfl, fun j _ b => g_upn b⟩
    have hpr := s_partsOf (A := A) (F := va_up F fc (F fc + 1)) (nw := nw) (nx := nx) (LO := LO) (DO := DO) (d := d + f + 4) (l.getD p 32)
    rw [hd]
    rcases tAr_012 (l.getD p 32) with h | h | h
    · rw [tPar_0 h]
      obtain ⟨A', F', sp', m1, m2, m3, m4, m5⟩ := s_makeR (nw := nw) (nx := nx) (LO := LO) (DO := DO) (d := d + f + 1) hR eF21 (k := l.getD p 32) (l := -1) (r := -1) ⟨hsk, Or.inl ⟨h, rfl, rfl⟩⟩ (by rw [rSp_0]; simp)
      refine ⟨A', F', sp', ⟨m1, m2, ⟨m3.1, m3.2.2, fun j hj => ?_⟩, fun j hj => ?_, hk1.trans (m4.n fc)⟩, gm_mk gm_mX4_makeNext rfl ⟨Or.inr rfl, rfl, rfl, trivial⟩ (fun G X hC hX => ?_)⟩
      · obtain ⟨q1, q2⟩ := m3.2.1 j hj
        refine ⟨q1, ?_, ?_⟩
        · rw [q2, rSp_0, s0 h]
        · rw [e0 h]
      · rw [m4.2 fc hfc0.2.2.2.1, eF, e0 h]
      · rw [h] at hpr
        clear hk1 hfc0 ih eFl eF
        rcases hx with ⟨rfl, rfl, rfl, rfl, rfl⟩ | ⟨rfl, rfl, rfl, rfl, rfl⟩
        all_goals
          refine gm_runs hC [] 200 _ _ _ _ _ _ ?_
          exact gx_t hi40 (Or.inl ⟨_, _, _, _, hrd, Or.inl ⟨_, _, _, _, hpr, gx_t (show nI 0 ≤ 0 from by decide) (gx_t (show nI 0 ≤ gm_lit 1 from by decide) (Or.inl ⟨_, _, _, _, m5, hX⟩))⟩⟩)
    · obtain ⟨p1, p2⟩ := e1 h
      have g1 := tE_gt p1
      obtain ⟨A1, F1, sp1, ⟨a1, a2, ⟨a3, a4, a5⟩, a6, a7⟩, a8⟩ := ih (i + 1) (p + 1) A (va_up F fc (F fc + 1)) rows sp (by omega) p1 (by omega) hr eFl eF hR eF21
      rw [← nI_1 i] at a8
      rw [h] at hpr
      cases hres : tPar f (l.drop (p + 1)) rows with
      | mk o rest =>
        obtain ⟨rows1, l1⟩ := rest
        rw [hres] at a1 a2 a4 a5 a6 a8
        cases o with
        | none =>
          rw [tPar_n (by omega) hres]
          refine ⟨A1, F1, sp1, ⟨a1, a2, ⟨a3, a4, fun j hj => (by cases hj)⟩, (fun j hj => (by cases hj)), hk1.trans a7⟩, gm_mk gm_mX4_makeNext rfl ⟨Or.inr rfl, rfl, rfl, trivial⟩ (fun G X hC hX => ?_)⟩
          clear hk1 hfc0 ih eFl eF
          rcases hx with ⟨rfl, rfl, rfl, rfl, rfl⟩ | ⟨rfl, rfl, rfl, rfl, rfl⟩
          all_goals
            refine gm_runs hC [] 200 _ _ _ _ _ _ ?_
            exact gx_t hi40 (Or.inl ⟨_, _, _, _, hrd, Or.inl ⟨_, _, _, _, hpr, gx_f (show ¬ nI 1 ≤ 0 from by decide) (Or.inl ⟨_, _, _, _, a8, gx_f (show ¬ ¬ (-1 : Int32) = gm_lit (-1) from by decide) (gx_i hX gm_m1 rfl)⟩)⟩⟩)
        | some a =>
          rw [tPar_1 h hres]
          obtain ⟨b1, b2, b3⟩ := a5 a rfl
          obtain ⟨more, b4⟩ := a4
          have b4 : rows1 = rows ++ more := b4
          have b1 : a < rows1.length := b1
          have b3 : l1 = l.drop (tE l (p + 1)) := b3
          have hn1 := a1.1.1
          have hspell : l.getD p 32 :: sp1 a = tS l p := by rw [b2, s1 h]
          obtain ⟨A', F', sp', m1, m2, m3, m4, m5⟩ := s_makeR (nw := nw) (nx := nx) (LO := LO) (DO := DO) (d := d + f + 1) a1 a2 (k := l.getD p 32) (l := nI a) (r := -1) ⟨hsk, Or.inr (Or.inl ⟨h, rfl, a, b1, rfl⟩)⟩ (by rw [rSp_1 sp1 b1 hn1, hspell, hSlen]; omega)
          refine ⟨A', F', sp', ⟨m1, m2, ⟨fun t ht => ?_, ?_, fun j hj => ?_⟩, fun j hj => ?_, (hk1.trans a7).trans (m4.n fc)⟩, gm_mk gm_mX4_makeNext rfl ⟨Or.inr rfl, rfl, rfl, trivial⟩ (fun G X hC hX => ?_)⟩
          · rw [m3.1 t (by rw [b4, List.length_append]; omega)]
            exact a3 t ht
          · obtain ⟨more2, c1⟩ := m3.2.2
            exact ⟨more ++ more2, by rw [← List.append_assoc, ← b4]; exact c1⟩
          · obtain ⟨q1, q2⟩ := m3.2.1 j hj
            refine ⟨q1, ?_, ?_⟩
            · rw [q2, rSp_1 sp1 b1 hn1, hspell]
            · rw [p2]; exact b3
          · rw [m4.2 fc hfc0.2.2.2.1, a6 a rfl, p2]
          · have na : ¬ nI a = gm_lit (-1) := fun z => nI_pos (n := a) (by omega) (by rw [z]; decide)
            clear hk1 hfc0 ih eFl eF
            rcases hx with ⟨rfl, rfl, rfl, rfl, rfl⟩ | ⟨rfl, rfl, rfl, rfl, rfl⟩
            all_goals
              refine gm_runs hC [] 200 _ _ _ _ _ _ ?_
              exact gx_t hi40 (Or.inl ⟨_, _, _, _, hrd, Or.inl ⟨_, _, _, _, hpr, gx_f (show ¬ nI 1 ≤ 0 from by decide) (Or.inl ⟨_, _, _, _, a8, gx_t na (gx_t (show nI 1 ≤ gm_lit 1 from by decide) (Or.inl ⟨_, _, _, _, m5, hX⟩))⟩)⟩⟩)
    · obtain ⟨p1, p2, p3⟩ := e2 h
      have g1 := tE_gt p1
      have g2 := tE_gt p2
      rw [h] at hpr
      obtain ⟨A1, F1, sp1, ⟨a1, a2, ⟨a3, a4, a5⟩, a6, a7⟩, a8⟩ := ih (i + 1) (p + 1) A (va_up F fc (F fc + 1)) rows sp (by omega) p1 (by omega) hr eFl eF hR eF21
      rw [← nI_1 i] at a8
      cases hres : tPar f (l.drop (p + 1)) rows with
      | mk o rest =>
        obtain ⟨rows1, l1⟩ := rest
        rw [hres] at a1 a2 a4 a5 a6 a8
        cases o with
        | none =>
          rw [tPar_n (by omega) hres]
          refine ⟨A1, F1, sp1, ⟨a1, a2, ⟨a3, a4, fun j hj => (by cases hj)⟩, (fun j hj => (by cases hj)), hk1.trans a7⟩, gm_mk gm_mX4_makeNext rfl ⟨Or.inr rfl, rfl, rfl, trivial⟩ (fun G X hC hX => ?_)⟩
          clear hk1 hfc0 ih eFl eF
          rcases hx with ⟨rfl, rfl, rfl, rfl, rfl⟩ | ⟨rfl, rfl, rfl, rfl, rfl⟩
          all_goals
            refine gm_runs hC [] 200 _ _ _ _ _ _ ?_
            exact gx_t hi40 (Or.inl ⟨_, _, _, _, hrd, Or.inl ⟨_, _, _, _, hpr, gx_f (show ¬ nI 2 ≤ 0 from by decide) (Or.inl ⟨_, _, _, _, a8, gx_f (show ¬ ¬ (-1 : Int32) = gm_lit (-1) from by decide) (gx_i hX gm_m1 rfl)⟩)⟩⟩)
        | some a =>
          obtain ⟨b1, b2, b3⟩ := a5 a rfl
          obtain ⟨more, b4⟩ := a4
          have b4 : rows1 = rows ++ more := b4
          have b1 : a < rows1.length := b1
          have b3 : l1 = l.drop (tE l (p + 1)) := b3
          have hn1 := a1.1.1
          have na : ¬ nI a = gm_lit (-1) := fun z => nI_pos (n := a) (by omega) (by rw [z]; decide)
          obtain ⟨A2, F2, sp2, ⟨c1, c2, ⟨c3, c4, c5⟩, c6, c7⟩, c8⟩ := ih (i + 1) (tE l (p + 1)) A1 F1 rows1 sp1 (by omega) p2 (by omega) (by rw [a7.1 r (Or.inr hfc0.2.2.2.2)]; exact hr) (by rw [a7.2 fl hfc0.2.2.1 hfc0.2.1]; exact eFl) (a6 a rfl) a1 a2
          rw [← nI_1 i] at c8
          cases hres2 : tPar f (l.drop (tE l (p + 1))) rows1 with
          | mk o2 rest2 =>
            obtain ⟨rows2, l2⟩ := rest2
            rw [hres2] at c1 c2 c4 c5 c6 c8
            rw [← b3] at hres2
            obtain ⟨more2, d4⟩ := c4
            have d4 : rows2 = rows1 ++ more2 := d4
            cases o2 with
            | none =>
              rw [tPar_2n h hres hres2]
              refine ⟨A2, F2, sp2, ⟨c1, c2, ⟨fun t ht => ?_, ⟨more ++ more2, by rw [← List.append_assoc, ← b4]; exact d4⟩, fun j hj => (by cases hj)⟩, (fun j hj => (by cases hj)), (hk1.trans a7).trans c7⟩, gm_mk gm_mX4_makeNext rfl ⟨Or.inr rfl, rfl, rfl, trivial⟩ (fun G X hC hX => ?_)⟩
              · rw [c3 t (by rw [b4, List.length_append]; omega)]
                exact a3 t ht
              · skip
                clear hk1 hfc0 ih eFl eF
                rcases hx with ⟨rfl, rfl, rfl, rfl, rfl⟩ | ⟨rfl, rfl, rfl, rfl, rfl⟩
                all_goals
                  refine gm_runs hC [] 200 _ _ _ _ _ _ ?_
                  exact gx_t hi40 (Or.inl ⟨_, _, _, _, hrd, Or.inl ⟨_, _, _, _, hpr, gx_f (show ¬ nI 2 ≤ 0 from by decide) (Or.inl ⟨_, _, _, _, a8, gx_t na (gx_f (show ¬ nI 2 ≤ gm_lit 1 from by decide) (Or.inl ⟨_, _, _, _, c8, gx_f (show ¬ ¬ (-1 : Int32) = gm_lit (-1) from by decide) (gx_i hX gm_m1 rfl)⟩))⟩)⟩⟩)
            | some b =>
              rw [tPar_2 h hres hres2]
              obtain ⟨d1, d2, d3⟩ := c5 b rfl
              have d1 : b < rows2.length := d1
              have d3 : l2 = l.drop (tE l (tE l (p + 1))) := d3
              have d4 : rows2 = rows1 ++ more2 := d4
              have c1 : gRp A2 rows2 sp2 := c1
              have c2 : F2 0 = nI rows2.length := c2
              have hn2 : rows2.length ≤ 120 := c1.1.1
              have b1' : a < rows2.length := by rw [d4, List.length_append]; omega
              have nb : ¬ nI b = gm_lit (-1) := fun z => nI_pos (n := b) (by omega) (by rw [z]; decide)
              have hspell : l.getD p 32 :: (sp2 a ++ sp2 b) = tS l p := by rw [c3 a b1, b2, d2, s2 h]
              obtain ⟨A', F', sp', m1, m2, m3, m4, m5⟩ := s_makeR (nw := nw) (nx := nx) (LO := LO) (DO := DO) (d := d + f + 1) c1 c2 (k := l.getD p 32) (l := nI a) (r := nI b) ⟨hsk, Or.inr (Or.inr ⟨h, a, b, b1', d1, rfl, rfl⟩)⟩ (by rw [rSp_2 sp2 b1' d1 hn2, hspell, hSlen]; omega)
              refine ⟨A', F', sp', ⟨m1, m2, ⟨fun t ht => ?_, ?_, fun j hj => ?_⟩, fun j hj => ?_, ((hk1.trans a7).trans c7).trans (m4.n fc)⟩, gm_mk gm_mX4_makeNext rfl ⟨Or.inr rfl, rfl, rfl, trivial⟩ (fun G X hC hX => ?_)⟩
              · have t1 : t < rows1.length := by rw [b4, List.length_append]; omega
                rw [m3.1 t (by rw [d4, List.length_append]; omega), c3 t t1]
                exact a3 t ht
              · obtain ⟨more3, z1⟩ := m3.2.2
                exact ⟨more ++ more2 ++ more3, by rw [← List.append_assoc, ← List.append_assoc, ← b4, ← d4]; exact z1⟩
              · obtain ⟨q1, q2⟩ := m3.2.1 j hj
                refine ⟨q1, ?_, ?_⟩
                · rw [q2, rSp_2 sp2 b1' d1 hn2, hspell]
                · rw [p3]; exact d3
              · rw [m4.2 fc hfc0.2.2.2.1, c6 b rfl, p3]
              · skip
                clear hk1 hfc0 ih eFl eF
                rcases hx with ⟨rfl, rfl, rfl, rfl, rfl⟩ | ⟨rfl, rfl, rfl, rfl, rfl⟩
                all_goals
                  refine gm_runs hC [] 200 _ _ _ _ _ _ ?_
                  exact gx_t hi40 (Or.inl ⟨_, _, _, _, hrd, Or.inl ⟨_, _, _, _, hpr, gx_f (show ¬ nI 2 ≤ 0 from by decide) (Or.inl ⟨_, _, _, _, a8, gx_t na (gx_f (show ¬ nI 2 ≤ gm_lit 1 from by decide) (Or.inl ⟨_, _, _, _, c8, gx_t nb (Or.inl ⟨_, _, _, _, m5, hX⟩)⟩))⟩)⟩⟩)
end X