/-! TEXTS: where terms end, as the prover keeps it -/
theorem gx_t {p A B : Prop} (h : p) (a : A) : (p → A) ∧ (¬ p → B) := ⟨fun _ => a, fun c => absurd h c⟩
theorem gx_f {p A B : Prop} (h : ¬ p) (b : B) : (p → A) ∧ (¬ p → B) := ⟨fun c => absurd c h, fun _ => b⟩
theorem nI_subN {a b : Nat} (h : a ≤ b) : nI b - nI a = nI (b - a) := by
  have e : nI (b - a) + nI a = nI b := by rw [nI_add]; congr 1; omega
  rw [← e]
  exact Int32.add_sub_cancel _ _
theorem nI_m1 (a : Nat) : nI a + gm_lit (-1) = nI a - 1 := by
  rw [gm_m1, Int32.sub_eq_add_neg]
theorem tAr_012 (k : Int32) : tAr k = 0 ∨ tAr k = 1 ∨ tAr k = 2 := by
  unfold tAr
  split
  · exact Or.inr (Or.inl rfl)
  · split
    · exact Or.inr (Or.inr rfl)
    · exact Or.inl rfl
/-- the row of ends holds where terms end -/
def gEn (f : Nat → Int32) (l : List Int32) : Prop := ∀ j, j < l.length → f j = nI (tE l j)
theorem tS_len (l : List Int32) (i : Nat) : (tS l i).length = tE l i - i := by
  unfold tS tE
  rw [List.length_take, Nat.min_eq_left (tlen_le _ _)]
  omega
theorem tS_eq (l : List Int32) (i : Nat) : tS l i = (l.drop i).take (tE l i - i) := by
  unfold tS tE
  congr 1
  omega
theorem tSame_step {l : List Int32} {a b m : Nat} (ha : a < l.length) (hb : b < l.length) : ((l.drop a).take (m + 1) = (l.drop b).take (m + 1)) ↔ (l.getD a 32 = l.getD b 32 ∧ (l.drop (a + 1)).take m = (l.drop (b + 1)).take m) := by
  rw [List.drop_eq_getElem_cons ha, List.drop_eq_getElem_cons hb, List.take_succ_cons, List.take_succ_cons, List.cons.injEq]
  rw [List.getD_eq_getElem?_getD, List.getElem?_eq_getElem ha, List.getD_eq_getElem?_getD, List.getElem?_eq_getElem hb]
  rfl
theorem tS_inj {l : List Int32} {i j : Nat} (h : tS l i = tS l j) : tE l i - i = tE l j - j := by rw [← tS_len, ← tS_len, h]
section X
variable {nw nx : Nat} {LO : Nat → Int64} {DO : Nat → UInt64} {d : Nat} {x r e fl fc : Nat}
theorem s_min {A : Nat → Nat → Int32} {F : Nat → Int32} (a b : Int32) : gm_Sp gm_MT (d + 1) 9001 [.int a, .int b] (gw A F nw nx LO DO) (.inl (some (.int (if b < a then b else a)))) (gw A F nw nx LO DO) 0 0 := by
  refine gm_mk gm_mJ9_min_7cf53 rfl ⟨Or.inr rfl, rfl, rfl, trivial⟩ (fun G X hC hX => ?_)
  refine gm_runs hC [] 200 _ _ _ _ _ _ ?_
  exact And.intro (fun (c : b < a) => gx_i hX (if_pos c).symm rfl) (fun (c : ¬ b < a) => gx_i hX (if_neg c).symm rfl)
theorem s_measure_loop {F : Nat → Int32} {l : List Int32} (hx : gX x r e fl fc) (hF : F fl = nI l.length) (hl : l.length ≤ 81) (hv : tV l) : ∀ (i : Nat) (A : Nat → Nat → Int32), i ≤ l.length → gR (A r) l → (∀ j, i ≤ j → j < l.length → A e j = nI (tE l j)) →
    ∃ f, gEn f l ∧ ∀ (o2 o3 o4 : Option Value) (G : pG) (X : pX), gm_cl gm_mX5_measure gm_tyf none (gm_Sp gm_MT (d + 1)) G X → X (.inl none) (gw (va_up A e f) F nw nx LO DO) 0 0 → G 12 [some (.ref x), some (.int (nI i - 1)), o2, o3, o4] [] (gw A F nw nx LO DO) 0 0 := by
  intro i
  induction i with
  | zero =>
    intro A _ hr hj
    refine ⟨A e, fun j hjl => hj j (Nat.zero_le _) hjl, fun o2 o3 o4 G X hC hX => ?_⟩
    rw [g_upS rfl] at hX
    refine gm_run1 hC [12] 200 12 ?_
    exact gx_t (show nI 0 - 1 < 0 from by decide) hX
  | succ i ih =>
    intro A hi hr hj
    have hil : i < l.length := by omega
    have hne : r ≠ e := by rcases hx with ⟨rfl, rfl, rfl, rfl, rfl⟩ | ⟨rfl, rfl, rfl, rfl, rfl⟩ <;> decide
    have hcl : (nI i).toNatClampNeg = i := nI_clamp (by omega)
    obtain ⟨f, hf, hrun⟩ := ih (va_up A e (upd (A e) (nI i).toNatClampNeg (nI (tE l i)))) (by omega) (by rw [g_upn hne]; exact hr) (by
      intro j h1 h2
      rw [g_upe, hcl]
      by_cases he : j = i
      · subst he; simp [upd]
      · have := hj j (by omega) h2
        simp [upd, he, this])
    refine ⟨f, hf, fun o2 o3 o4 G X hC hX => ?_⟩
    have hN := fun o2 o3 o4 => hrun o2 o3 o4 G X hC (by rw [g_up2]; exact hX)
    rw [nI_pred]
    have hvp := vp_in_nI (n := i) (N := 81) (by omega) (by omega)
    have h0 : ¬ nI i < 0 := nI_pos (by omega)
    have hk : tAr (A r (nI i).toNatClampNeg) = tAr (l.getD i 32) := by rw [hcl, hr.at hil]
    have hp := s_partsOf (A := A) (F := F) (nw := nw) (nx := nx) (LO := LO) (DO := DO) (d := d) (A r (nI i).toNatClampNeg)
    obtain ⟨t0, t1, t2⟩ := tE_step hv hil
    rw [hk] at hp
    have hE : ∀ t, t < l.length → i < t → gm_Sp gm_MT (d + 1) 6010 [.ref x, .int (nI t)] (gw A F nw nx LO DO) (.inl (some (.int (nI (tE l t))))) (gw A F nw nx LO DO) 0 0 := fun t h1 h2 => by
      have := s_endOf (A := A) (nw := nw) (nx := nx) (LO := LO) (DO := DO) (d := d) hx hF hl (nI t)
      rw [gT_nI h1 (by omega)] at this
      have e1 : gO (A e) (some t) (nI l.length) = nI (tE l t) := hj t h2 h1
      rw [e1] at this
      exact this
    rcases tAr_012 (l.getD i 32) with h | h | h
    · have e0 := t0 h
      have e1 : nI (tE l i) = nI i + 1 := by rw [e0, nI_1]
      rw [h] at hp
      rw [e1] at hN
      clear hrun ih hE
      rcases hx with ⟨rfl, rfl, rfl, rfl, rfl⟩ | ⟨rfl, rfl, rfl, rfl, rfl⟩
      all_goals
        refine gm_run1 hC [12] 200 12 ?_
        refine gx_f h0 (And.intro hvp (Or.inl ⟨_, _, _, _, hp, gx_t (show nI 0 ≤ gm_lit 0 from by decide) (And.intro hvp ?_)⟩))
        have h9 := hN (some (.int (nI i + 1))) (some (.int (nI 0))) (some (.int (gm_lit 0)))
        rw [← nI_m1] at h9
        exact h9
    · obtain ⟨t3, e0⟩ := t1 h
      rw [h] at hp
      have he := hE (i + 1) t3 (by omega)
      rw [← e0, ← nI_1] at he
      clear hrun ih hE
      rcases hx with ⟨rfl, rfl, rfl, rfl, rfl⟩ | ⟨rfl, rfl, rfl, rfl, rfl⟩
      all_goals
        refine gm_run1 hC [12] 200 12 ?_
        refine gx_f h0 (And.intro hvp (Or.inl ⟨_, _, _, _, hp, gx_f (show ¬ nI 1 ≤ gm_lit 0 from by decide) (Or.inl ⟨_, _, _, _, he, gx_t (show nI 1 ≤ gm_lit 0 + gm_lit 1 from by decide) (And.intro hvp ?_)⟩)⟩))
        have h9 := hN (some (.int (nI (tE l i)))) (some (.int (nI 1))) (some (.int (gm_lit 0 + gm_lit 1)))
        rw [← nI_m1] at h9
        exact h9
    · obtain ⟨t3, t4, e0⟩ := t2 h
      rw [h] at hp
      have he := hE (i + 1) t3 (by omega)
      have hgt := tE_gt t3
      have he2 := hE (tE l (i + 1)) t4 (by omega)
      rw [← e0] at he2
      rw [← nI_1] at he
      clear hrun ih hE
      rcases hx with ⟨rfl, rfl, rfl, rfl, rfl⟩ | ⟨rfl, rfl, rfl, rfl, rfl⟩
      all_goals
        refine gm_run1 hC [12] 200 12 ?_
        refine gx_f h0 (And.intro hvp (Or.inl ⟨_, _, _, _, hp, gx_f (show ¬ nI 2 ≤ gm_lit 0 from by decide) (Or.inl ⟨_, _, _, _, he, gx_f (show ¬ nI 2 ≤ gm_lit 0 + gm_lit 1 from by decide) (Or.inl ⟨_, _, _, _, he2, gx_t (show nI 2 ≤ gm_lit 0 + gm_lit 1 + gm_lit 1 from by decide) (And.intro hvp ?_)⟩)⟩)⟩))
        have h9 := hN (some (.int (nI (tE l i)))) (some (.int (nI 2))) (some (.int (gm_lit 0 + gm_lit 1 + gm_lit 1)))
        rw [← nI_m1] at h9
        exact h9
theorem s_measure {A : Nat → Nat → Int32} {F : Nat → Int32} {l : List Int32} (hx : gX x r e fl fc) (hF : F fl = nI l.length) (hl : l.length ≤ 81) (hv : tV l) (hr : gR (A r) l) :
    ∃ f, gEn f l ∧ gm_Sp gm_MT (d + 2) 6009 [.ref x] (gw A F nw nx LO DO) (.inl none) (gw (va_up A e f) F nw nx LO DO) 0 0 := by
  obtain ⟨f, hf, hrun⟩ := s_measure_loop (d := d) (nw := nw) (nx := nx) (LO := LO) (DO := DO) hx hF hl hv l.length A (Nat.le_refl _) hr (fun j h1 h2 => by omega)
  refine ⟨f, hf, gm_mk gm_mX5_measure rfl ⟨Or.inr rfl, rfl, rfl, trivial⟩ (fun G X hC hX => ?_)⟩
  have hm := s_min (A := A) (F := F) (nw := nw) (nx := nx) (LO := LO) (DO := DO) (d := d) (F fl) 81
  have e1 : (if (81 : Int32) < F fl then (81 : Int32) else F fl) = nI l.length := by
    rw [hF]
    exact if_neg (show ¬ nI 81 < nI l.length from nI_nlt hl (by omega))
  rw [e1] at hm
  have h9 := hrun none none none G X hC hX
  clear hrun
  rcases hx with ⟨rfl, rfl, rfl, rfl, rfl⟩ | ⟨rfl, rfl, rfl, rfl, rfl⟩
  all_goals
    refine gm_runs hC [12] 200 _ _ _ _ _ _ ?_
    exact Or.inl ⟨_, _, _, _, hm, h9⟩
variable {A : Nat → Nat → Int32} {F : Nat → Int32} {l : List Int32}
theorem s_end (hx : gX x r e fl fc) (hF : F fl = nI l.length) (hl : l.length ≤ 81) (he : gEn (A e) l) {i : Nat} (hi : i < l.length) : gm_Sp gm_MT (d + 1) 6010 [.ref x, .int (nI i)] (gw A F nw nx LO DO) (.inl (some (.int (nI (tE l i))))) (gw A F nw nx LO DO) 0 0 := by
  have := s_endOf (A := A) (nw := nw) (nx := nx) (LO := LO) (DO := DO) (d := d) hx hF hl (nI i)
  rw [gT_nI hi (by omega)] at this
  have e1 : gO (A e) (some i) (nI l.length) = nI (tE l i) := he i hi
  rw [e1] at this
  exact this
theorem s_atN (hx : gX x r e fl fc) (hF : F fl = nI l.length) (hl : l.length ≤ 81) (hr : gR (A r) l) (hc : gCh l) {i : Nat} (hi : i < l.length) : gm_Sp gm_MT (d + 1) 6006 [.ref x, .int (nI i)] (gw A F nw nx LO DO) (.inl (some (.int (l.getD i 32)))) (gw A F nw nx LO DO) 0 0 := by
  have := s_at (nw := nw) (nx := nx) (LO := LO) (DO := DO) (d := d) hx hF hl hr hc (nI i)
  rw [tAt_nI hi hl] at this
  exact this
theorem s_isSame (hx : gX x r e fl fc) (hF : F fl = nI l.length) (hl : l.length ≤ 81) (hr : gR (A r) l) (hc : gCh l) (he : gEn (A e) l) {i j : Nat} (hi : i < l.length) (hj : j < l.length) : gm_Sp gm_MT (d + 2) 6011 [.ref x, .int (nI i), .int (nI j)] (gw A F nw nx LO DO) (.inl (some (.int (gB (decide (tS l i = tS l j)))))) (gw A F nw nx LO DO) 0 0 := by
  refine gm_mk gm_mX5_isSame rfl ⟨Or.inr rfl, rfl, rfl, trivial⟩ (fun G X hC hX => ?_)
  have hie := s_end (nw := nw) (nx := nx) (LO := LO) (DO := DO) (d := d) hx hF hl he hi
  have hje := s_end (nw := nw) (nx := nx) (LO := LO) (DO := DO) (d := d) hx hF hl he hj
  have hgi := tE_gt hi
  have hgj := tE_gt hj
  have hli := tE_le (l := l) (Nat.le_of_lt hi)
  have hlj := tE_le (l := l) (Nat.le_of_lt hj)
  have si := nI_subN (Nat.le_of_lt hgi)
  have sj := nI_subN (Nat.le_of_lt hgj)
  have loop : ∀ (m k : Nat), k + m = tE l i - i → tE l i - i = tE l j - j → X (.inl (some (.int (gB (decide ((l.drop (i + k)).take m = (l.drop (j + k)).take m)))))) (gw A F nw nx LO DO) 0 0 → G 24 [some (.ref x), some (.int (nI i)), some (.int (nI j)), some (.int (nI (tE l i - i))), some (.int (nI k))] [] (gw A F nw nx LO DO) 0 0 := by
    intro m
    induction m with
    | zero =>
      intro k hk hlen hY
      have hY : X (.inl (some (.int 1))) (gw A F nw nx LO DO) 0 0 := by simpa [gB] using hY
      refine gm_run1 hC [24] 200 24 ?_
      exact gx_t (show nI (tE l i - i) ≤ nI k from nI_le (by omega) (by omega)) (gx_z hY (Or.inr rfl) rfl rfl)
    | succ m ih =>
      intro k hk hlen hY
      have ha := s_atN (nw := nw) (nx := nx) (LO := LO) (DO := DO) (d := d) hx hF hl hr hc (i := i + k) (by omega)
      have hb := s_atN (nw := nw) (nx := nx) (LO := LO) (DO := DO) (d := d) hx hF hl hr hc (i := j + k) (by omega)
      rw [← nI_add] at ha hb
      have hst := tSame_step (l := l) (a := i + k) (b := j + k) (m := m) (by omega) (by omega)
      have hX1 : l.getD (i + k) 32 = l.getD (j + k) 32 → G 24 [some (.ref x), some (.int (nI i)), some (.int (nI j)), some (.int (nI (tE l i - i))), some (.int (nI k + 1))] [] (gw A F nw nx LO DO) 0 0 := fun c => by
        rw [nI_1]
        exact ih (k + 1) (by omega) hlen (by
          have e1 : decide ((l.drop (i + k)).take (m + 1) = (l.drop (j + k)).take (m + 1)) = decide ((l.drop (i + (k + 1))).take m = (l.drop (j + (k + 1))).take m) := by
            apply decide_eq_decide.mpr
            rw [hst]
            exact ⟨fun z => z.2, fun z => ⟨c, z⟩⟩
          rw [e1] at hY
          exact hY)
      have hX2 : ¬ l.getD (i + k) 32 = l.getD (j + k) 32 → X (.inl (some (.int 0))) (gw A F nw nx LO DO) 0 0 := fun c => by
        have e1 : decide ((l.drop (i + k)).take (m + 1) = (l.drop (j + k)).take (m + 1)) = false := decide_eq_false (fun z => c (hst.mp z).1)
        rw [e1] at hY
        exact hY
      clear ih
      rcases hx with ⟨rfl, rfl, rfl, rfl, rfl⟩ | ⟨rfl, rfl, rfl, rfl, rfl⟩
      all_goals
        refine gm_run1 hC [24] 200 24 ?_
        exact gx_f (show ¬ nI (tE l i - i) ≤ nI k from nI_ge (by omega) (by omega)) (Or.inl ⟨_, _, _, _, ha, Or.inl ⟨_, _, _, _, hb, And.intro (fun (c : l.getD (i + k) 32 = l.getD (j + k) 32) => hX1 c) (fun (c : ¬ l.getD (i + k) 32 = l.getD (j + k) 32) => gx_z (hX2 c) (Or.inl rfl) rfl rfl)⟩⟩)
  have hrunE : tE l i - i = tE l j - j → G 24 [some (.ref x), some (.int (nI i)), some (.int (nI j)), some (.int (nI (tE l i - i))), some (.int (nI 0))] [] (gw A F nw nx LO DO) 0 0 := fun hlen => loop (tE l i - i) 0 (by omega) hlen (by
    rw [tS_eq l i, tS_eq l j, ← hlen] at hX
    exact hX)
  rw [← si] at hrunE
  clear loop
  have hX0 : ¬ tE l i - i = tE l j - j → X (.inl (some (.int 0))) (gw A F nw nx LO DO) 0 0 := fun hlen => by
    have e1 : decide (tS l i = tS l j) = false := decide_eq_false (fun z => hlen (tS_inj z))
    rw [e1] at hX
    exact hX
  rcases hx with ⟨rfl, rfl, rfl, rfl, rfl⟩ | ⟨rfl, rfl, rfl, rfl, rfl⟩
  all_goals
    refine gm_runs hC [24] 200 _ _ _ _ _ _ ?_
    refine Or.inl ⟨_, _, _, _, hie, Or.inl ⟨_, _, _, _, hje, And.intro (fun (c : nI (tE l j) - nI j = nI (tE l i) - nI i) => hrunE ?_) (fun (c : ¬ nI (tE l j) - nI j = nI (tE l i) - nI i) => gx_z (hX0 ?_) (Or.inl rfl) rfl rfl)⟩⟩
    · rw [si, sj] at c
      exact ((nI_eq (by omega) (by omega)).mp c).symm
    · intro z
      rw [si, sj, z] at c
      exact c rfl
end X