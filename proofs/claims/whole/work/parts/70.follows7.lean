/-! THE REFERENCE: what follows, why, the witness -/
/-- all but the reference's scratch is as before -/
def gKz (A : Nat → Nat → Int32) (F : Nat → Int32) (A' : Nat → Nat → Int32) (F' : Nat → Int32) : Prop := (∀ j, j < 33 → A' j = A j) ∧ (∀ j, j ≠ 20 → j ≠ 24 → j ≠ 25 → j ≠ 26 → j ≠ 30 → F' j = F j)
theorem gKz.th (A : Nat → Nat → Int32) (F : Nat → Int32) (x : Int32) : gKz A F A (va_up F 20 x) := ⟨fun _ _ => rfl, fun j a _ _ _ _ => g_upn a⟩
theorem gKz.trans {A A1 A2 : Nat → Nat → Int32} {F F1 F2 : Nat → Int32} (h : gKz A F A1 F1) (k : gKz A1 F1 A2 F2) : gKz A F A2 F2 := ⟨fun j a => (k.1 j a).trans (h.1 j a), fun j a b c e f => (k.2 j a b c e f).trans (h.2 j a b c e f)⟩
theorem gKz.refl (A : Nat → Nat → Int32) (F : Nat → Int32) : gKz A F A F := ⟨fun _ _ => rfl, fun _ _ _ _ _ _ => rfl⟩
theorem gKz.dm (A : Nat → Nat → Int32) (F : Nat → Int32) (f : Nat → Int32) (x y : Int32) : gKz A F (va_up A 36 f) (va_up (va_up F 20 x) 26 y) := ⟨fun j a => g_upn (by omega), fun j a _ _ b _ => by rw [g_upn b, g_upn a]⟩
section X
variable {nw nx : Nat} {LO : Nat → Int64} {DO : Nat → UInt64} {d n : Nat} {A : Nat → Nat → Int32} {F : Nat → Int32}
theorem s_follows7 (h : mOk A n) (hF : F 22 = nI n) (hg : gOk F) (h1 : F 23 = 1) : ∃ A' F', gKz A F A' F' ∧ F' 20 = 0 ∧ gm_Sp gm_MT (d + 6) 8064 [.ref 24] (gw A F nw nx LO DO) (.inl (some (.int (gB (mFo A F n))))) (gw A' F' nw nx LO DO) 0 0 := by
  have hn := s_noGoal1 (A := A) (nw := nw) (nx := nx) (LO := LO) (DO := DO) (d := d + 4) h1
  obtain ⟨f, g1, g2⟩ := s_isFollowing (F := va_up F 20 0) (nw := nw) (nx := nx) (LO := LO) (DO := DO) (d := d) h (h.th hF) hg
  have e : mFo A (va_up F 20 0) n = mFo A F n := rfl
  rw [e] at g2
  generalize nI (mDl A (va_up F 20 0) n).length = y at g2
  refine ⟨_, va_up (va_up F 20 0) 26 y, gKz.dm A F f 0 y, by rw [g_upn (by decide), g_upe], gm_mk gm_mX7_follows rfl ⟨Or.inr rfl, rfl, rfl, trivial⟩ (fun G X hC hX => ?_)⟩
  refine gm_runs hC [] 200 _ _ _ _ _ _ ?_
  cases c : mFo A F n with
  | false =>
    rw [c] at g2 hX
    exact Or.inl ⟨_, _, _, _, hn, gx_f (show ¬ ¬ (0 : Int32) = 0 from fun z => z rfl) (Or.inl ⟨_, _, _, _, g2, gx_t (show (0 : Int32) = 0 from rfl) (gx_z hX (Or.inl rfl) rfl rfl)⟩)⟩
  | true =>
    rw [c] at g2 hX
    exact Or.inl ⟨_, _, _, _, hn, gx_f (show ¬ ¬ (0 : Int32) = 0 from fun z => z rfl) (Or.inl ⟨_, _, _, _, g2, gx_f (show ¬ (1 : Int32) = 0 from by decide) (gx_z hX (Or.inr rfl) rfl rfl)⟩)⟩
theorem s_follows7n (h0 : F 23 = 0) : gm_Sp gm_MT (d + 2) 8064 [.ref 24] (gw A F nw nx LO DO) (.inl (some (.int 0))) (gw A (va_up F 20 1) nw nx LO DO) 0 0 := by
  have hn := s_noGoal2 (A := A) (nw := nw) (nx := nx) (LO := LO) (DO := DO) (d := d) h0
  refine gm_mk gm_mX7_follows rfl ⟨Or.inr rfl, rfl, rfl, trivial⟩ (fun G X hC hX => ?_)
  refine gm_runs hC [] 200 _ _ _ _ _ _ ?_
  exact Or.inl ⟨_, _, _, _, hn, gx_t (show ¬ (1 : Int32) = 0 from by decide) (gx_z hX (Or.inl rfl) rfl rfl)⟩
def whC (A : Nat → Nat → Int32) (F : Nat → Int32) (n : Nat) : Int32 := if (sMod (mD A) (mP A) n (mAl A n)).isNone = true then (if sDem (F 27) = true then 119 else 114) else 109
theorem s_why7 (h : mOk A n) (hF : F 22 = nI n) (hg : gOk F) (h1 : F 23 = 1) : ∃ A' F', gKz A F A' F' ∧ F' 20 = (if mFo A F n = true then 0 else 2) ∧ gm_Sp gm_MT (d + 6) 8065 [.ref 24] (gw A F nw nx LO DO) (.inl (some (.int (if mFo A F n = true then whC A F n else 109)))) (gw A' F' nw nx LO DO) 0 0 := by
  have hn := s_noGoal1 (A := A) (nw := nw) (nx := nx) (LO := LO) (DO := DO) (d := d + 4) h1
  obtain ⟨f, g1, g2⟩ := s_isFollowing (F := va_up F 20 0) (nw := nw) (nx := nx) (LO := LO) (DO := DO) (d := d) h (h.th hF) hg
  have e : mFo A (va_up F 20 0) n = mFo A F n := rfl
  rw [e] at g2
  generalize nI (mDl A (va_up F 20 0) n).length = y at g2
  cases c : mFo A F n with
  | false =>
    rw [c] at g2
    rw [if_neg (by decide), if_neg (by decide)]
    refine ⟨_, va_up (va_up (va_up F 20 0) 26 y) 20 2, (gKz.dm A F f 0 y).trans (gKz.th _ _ 2), g_upe, gm_mk gm_mX7_why rfl ⟨Or.inr rfl, rfl, rfl, trivial⟩ (fun G X hC hX => ?_)⟩
    refine gm_runs hC [] 200 _ _ _ _ _ _ ?_
    exact Or.inl ⟨_, _, _, _, hn, gx_t (show (0 : Int32) = 0 from rfl) (Or.inl ⟨_, _, _, _, g2, gx_t (show (0 : Int32) = 0 from rfl) (gx_f (show ¬ (2 : Int32) = 0 from by decide) (gx_c (r := 109) hX (by decide) rfl rfl))⟩)⟩
  | true =>
    rw [c] at g2
    rw [if_pos rfl, if_pos rfl]
    have hc : gm_Sp gm_MT (d + 5) 8059 [.ref 24] (gw (va_up A 36 f) (va_up (va_up (va_up F 20 0) 26 y) 20 0) nw nx LO DO) (.inl (some (.int (gB (sMod (mD A) (mP A) n (mAl A n)).isNone)))) (gw (va_up A 36 f) (va_up (va_up (va_up F 20 0) 26 y) 20 0) nw nx LO DO) 0 0 := s_isConsistent7 (A := va_up A 36 f) (F := va_up (va_up (va_up F 20 0) 26 y) 20 0) (d := d + 1) h hF
    have hd : gm_Sp gm_MT (d + 5) 8048 [.int (F 27)] (gw (va_up A 36 f) (va_up (va_up (va_up F 20 0) 26 y) 20 0) nw nx LO DO) (.inl (some (.int (gB (sDem (F 27)))))) (gw (va_up A 36 f) (va_up (va_up (va_up F 20 0) 26 y) 20 0) nw nx LO DO) 0 0 := s_isDemand7 (d := d + 4) (F 27)
    refine ⟨_, va_up (va_up (va_up F 20 0) 26 y) 20 0, (gKz.dm A F f 0 y).trans (gKz.th _ _ 0), g_upe, gm_mk gm_mX7_why rfl ⟨Or.inr rfl, rfl, rfl, trivial⟩ (fun G X hC hX => ?_)⟩
    unfold whC at hX
    cases c2 : (sMod (mD A) (mP A) n (mAl A n)).isNone with
    | false =>
      rw [c2] at hc hX
      rw [if_neg (by decide)] at hX
      refine gm_runs hC [] 200 _ _ _ _ _ _ ?_
      exact Or.inl ⟨_, _, _, _, hn, gx_t (show (0 : Int32) = 0 from rfl) (Or.inl ⟨_, _, _, _, g2, gx_f (show ¬ (1 : Int32) = 0 from by decide) (gx_t (show (0 : Int32) = 0 from rfl) (Or.inl ⟨_, _, _, _, hc, gx_f (show ¬ ¬ (0 : Int32) = 0 from fun z => z rfl) (gx_c (r := 109) hX (by decide) rfl rfl)⟩))⟩)⟩
    | true =>
      rw [c2] at hc hX
      rw [if_pos rfl] at hX
      cases c3 : sDem (F 27) with
      | false =>
        rw [c3] at hd hX
        rw [if_neg (by decide)] at hX
        refine gm_runs hC [] 200 _ _ _ _ _ _ ?_
        exact Or.inl ⟨_, _, _, _, hn, gx_t (show (0 : Int32) = 0 from rfl) (Or.inl ⟨_, _, _, _, g2, gx_f (show ¬ (1 : Int32) = 0 from by decide) (gx_t (show (0 : Int32) = 0 from rfl) (Or.inl ⟨_, _, _, _, hc, gx_t (show ¬ (1 : Int32) = 0 from by decide) (Or.inl ⟨_, _, _, _, hd, gx_t (show (0 : Int32) = 0 from rfl) (gx_c (r := 114) hX (by decide) rfl rfl)⟩)⟩))⟩)⟩
      | true =>
        rw [c3] at hd hX
        rw [if_pos rfl] at hX
        refine gm_runs hC [] 200 _ _ _ _ _ _ ?_
        exact Or.inl ⟨_, _, _, _, hn, gx_t (show (0 : Int32) = 0 from rfl) (Or.inl ⟨_, _, _, _, g2, gx_f (show ¬ (1 : Int32) = 0 from by decide) (gx_t (show (0 : Int32) = 0 from rfl) (Or.inl ⟨_, _, _, _, hc, gx_t (show ¬ (1 : Int32) = 0 from by decide) (Or.inl ⟨_, _, _, _, hd, gx_f (show ¬ (1 : Int32) = 0 from by decide) (gx_c (r := 119) hX (by decide) rfl rfl)⟩)⟩))⟩)⟩
theorem s_why7n (h0 : F 23 = 0) : gm_Sp gm_MT (d + 2) 8065 [.ref 24] (gw A F nw nx LO DO) (.inl (some (.int 109))) (gw A (va_up F 20 1) nw nx LO DO) 0 0 := by
  have hn := s_noGoal2 (A := A) (nw := nw) (nx := nx) (LO := LO) (DO := DO) (d := d) h0
  refine gm_mk gm_mX7_why rfl ⟨Or.inr rfl, rfl, rfl, trivial⟩ (fun G X hC hX => ?_)
  refine gm_runs hC [] 200 _ _ _ _ _ _ ?_
  exact Or.inl ⟨_, _, _, _, hn, gx_f (show ¬ (1 : Int32) = 0 from by decide) (gx_c (r := 109) hX (by decide) rfl rfl)⟩
theorem s_witness7_loop (h : mOk A n) (hF : F 22 = nI n) {x : Int32} (G : pG) (X : pX) (hC : gm_cl gm_mX7_witness gm_tyf none (gm_Sp gm_MT (d + 3)) G X) : ∀ (m i : Nat), i + m = n → ((∀ j, sFst (fun i => decide (¬ mD A i = 0 ∧ mP A i &&& x = 0)) m i = some j → X (.inl (some (.int (nI j)))) (gw A F nw nx LO DO) 0 0) ∧ (sFst (fun i => decide (¬ mD A i = 0 ∧ mP A i &&& x = 0)) m i = none → X (.inl (some (.int 0))) (gw A (va_up F 20 3) nw nx LO DO) 0 0)) → G 39 [some (.ref 24), some (.int x), some (.int (nI i))] [] (gw A F nw nx LO DO) 0 0 := by
  have h6 := h.1
  intro m
  induction m with
  | zero =>
    intro i hi hY
    have hf := s_fail (A := A) (F := F) (nw := nw) (nx := nx) (LO := LO) (DO := DO) (d := d + 2) 3
    refine gm_run1 hC [39] 200 39 ?_
    exact gx_t (show F 22 ≤ nI i from by rw [hF]; exact nI_le (by omega) (by omega)) (Or.inl ⟨_, _, _, _, hf, hY.2 rfl⟩)
  | succ m ih =>
    intro i hi hY
    have n1 : ¬ F 22 ≤ nI i := by rw [hF]; exact nI_ge (by omega) (by omega)
    have hd := s_isDemandN (A := A) (F := F) (nw := nw) (nx := nx) (LO := LO) (DO := DO) (d := d + 2) i (by omega)
    have ha := s_assumed (F := F) (nw := nw) (nx := nx) (LO := LO) (DO := DO) (d := d + 1) h (j := i) (by omega)
    unfold sFst at hY
    have nxt : ¬ (¬ mD A i = 0 ∧ mP A i &&& x = 0) → G 39 [some (.ref 24), some (.int x), some (.int (nI i + 1))] [] (gw A F nw nx LO DO) 0 0 := fun c => by
      rw [if_neg (by rw [decide_eq_true_iff]; exact c)] at hY
      rw [nI_1]
      exact ih (i + 1) (by omega) hY
    clear ih
    by_cases c1 : mD A i = 0
    · have nxt := nxt (fun z => z.1 c1)
      refine gm_run1 hC [39] 200 39 ?_
      exact gx_f n1 (And.intro (nI_in (by omega) (by decide)) (Or.inl ⟨_, _, _, _, hd, gx_t (show mD A i = 0 from c1) nxt⟩))
    · by_cases c2 : mP A i &&& x = 0
      · rw [if_pos (by rw [decide_eq_true_iff]; exact ⟨c1, c2⟩)] at hY
        have hY := hY.1 i rfl
        refine gm_run1 hC [39] 200 39 ?_
        exact gx_f n1 (And.intro (nI_in (by omega) (by decide)) (Or.inl ⟨_, _, _, _, hd, gx_f (show ¬ mD A i = 0 from c1) (Or.inl ⟨_, _, _, _, ha, gx_f (show ¬ ¬ mP A i &&& x = 0 from fun z => z c2) (gx_i hY rfl rfl)⟩)⟩))
      · have nxt := nxt (fun z => c2 z.2)
        refine gm_run1 hC [39] 200 39 ?_
        exact gx_f n1 (And.intro (nI_in (by omega) (by decide)) (Or.inl ⟨_, _, _, _, hd, gx_f (show ¬ mD A i = 0 from c1) (Or.inl ⟨_, _, _, _, ha, gx_t (show ¬ mP A i &&& x = 0 from c2) nxt⟩)⟩))
theorem s_witness7n (h0 : F 23 = 0) : gm_Sp gm_MT (d + 2) 8066 [.ref 24] (gw A F nw nx LO DO) (.inl (some (.int 0))) (gw A (va_up F 20 1) nw nx LO DO) 0 0 := by
  have hn := s_noGoal2 (A := A) (nw := nw) (nx := nx) (LO := LO) (DO := DO) (d := d) h0
  refine gm_mk gm_mX7_witness rfl ⟨Or.inr rfl, rfl, rfl, trivial⟩ (fun G X hC hX => ?_)
  refine gm_runs hC [] 200 _ _ _ _ _ _ ?_
  exact Or.inl ⟨_, _, _, _, hn, gx_f (show ¬ (1 : Int32) = 0 from by decide) hX⟩
theorem s_witness7d (h1 : F 23 = 1) (hd : sDem (F 27) = false) : gm_Sp gm_MT (d + 2) 8066 [.ref 24] (gw A F nw nx LO DO) (.inl (some (.int 0))) (gw A (va_up (va_up F 20 0) 20 2) nw nx LO DO) 0 0 := by
  have hn := s_noGoal1 (A := A) (nw := nw) (nx := nx) (LO := LO) (DO := DO) (d := d) h1
  have hdm : gm_Sp gm_MT (d + 1) 8048 [.int (F 27)] (gw A (va_up F 20 0) nw nx LO DO) (.inl (some (.int (gB (sDem (F 27)))))) (gw A (va_up F 20 0) nw nx LO DO) 0 0 := s_isDemand7 (d := d) (F 27)
  have hf := s_fail (A := A) (F := va_up F 20 0) (nw := nw) (nx := nx) (LO := LO) (DO := DO) (d := d) 2
  rw [hd] at hdm
  refine gm_mk gm_mX7_witness rfl ⟨Or.inr rfl, rfl, rfl, trivial⟩ (fun G X hC hX => ?_)
  refine gm_runs hC [] 200 _ _ _ _ _ _ ?_
  exact Or.inl ⟨_, _, _, _, hn, gx_t (show (0 : Int32) = 0 from rfl) (Or.inl ⟨_, _, _, _, hdm, gx_f (show ¬ ¬ (0 : Int32) = 0 from fun z => z rfl) (Or.inl ⟨_, _, _, _, hf, hX⟩)⟩)⟩
theorem s_witness7 (h : mOk A n) (hF : F 22 = nI n) (hg : gOk F) (h1 : F 23 = 1) (hd : sDem (F 27) = true) : (∀ j, sMod (mD A) (mP A) n (mAl A n &&& (mG A F ^^^ (-1))) = some j → gm_Sp gm_MT (d + 4) 8066 [.ref 24] (gw A F nw nx LO DO) (.inl (some (.int (nI j)))) (gw A (va_up F 20 0) nw nx LO DO) 0 0) ∧ (sMod (mD A) (mP A) n (mAl A n &&& (mG A F ^^^ (-1))) = none → gm_Sp gm_MT (d + 4) 8066 [.ref 24] (gw A F nw nx LO DO) (.inl (some (.int 0))) (gw A (va_up (va_up F 20 0) 20 3) nw nx LO DO) 0 0) := by
  have hn := s_noGoal1 (A := A) (nw := nw) (nx := nx) (LO := LO) (DO := DO) (d := d + 2) h1
  have hdm : gm_Sp gm_MT (d + 3) 8048 [.int (F 27)] (gw A (va_up F 20 0) nw nx LO DO) (.inl (some (.int (gB (sDem (F 27)))))) (gw A (va_up F 20 0) nw nx LO DO) 0 0 := s_isDemand7 (d := d + 2) (F 27)
  rw [hd] at hdm
  have ha := s_allowed7 (F := va_up F 20 0) (nw := nw) (nx := nx) (LO := LO) (DO := DO) (d := d) h (h.th hF)
  have hgo : gm_Sp gm_MT (d + 3) 8051 [.ref 24] (gw A (va_up F 20 0) nw nx LO DO) (.inl (some (.int (mG A F)))) (gw A (va_up F 20 0) nw nx LO DO) 0 0 := s_goal7 (A := A) (F := va_up F 20 0) (d := d + 1) hg
  refine ⟨fun j hj => gm_mk gm_mX7_witness rfl ⟨Or.inr rfl, rfl, rfl, trivial⟩ (fun G X hC hX => ?_), fun hj => gm_mk gm_mX7_witness rfl ⟨Or.inr rfl, rfl, rfl, trivial⟩ (fun G X hC hX => ?_)⟩
  all_goals
    unfold sMod at hj
    have h9 := s_witness7_loop h (h.th hF (x := 0)) (nw := nw) (nx := nx) (LO := LO) (DO := DO) (d := d) (x := mAl A n &&& (mG A F ^^^ (-1))) G X hC n 0 (by omega) (by
      rw [hj]
      refine ⟨fun i hi => ?_, fun z => ?_⟩
      · first | (cases hi; exact hX) | cases hi
      · first | exact hX | cases z)
    refine gm_runs hC [39] 200 _ _ _ _ _ _ ?_
    exact Or.inl ⟨_, _, _, _, hn, gx_t (show (0 : Int32) = 0 from rfl) (Or.inl ⟨_, _, _, _, hdm, gx_t (show ¬ (1 : Int32) = 0 from by decide) (Or.inl ⟨_, _, _, _, ha, Or.inl ⟨_, _, _, _, hgo, h9⟩⟩)⟩)⟩
theorem s_noCounter1 (h : mOk A n) (hF : F 22 = nI n) (hg : gOk F) (h1 : F 23 = 1) : ∃ A' F', gKz A F A' F' ∧ F' 20 = (if mFo A F n = true then 2 else 0) ∧ gm_Sp gm_MT (d + 6) 8069 [.ref 24] (gw A F nw nx LO DO) (.inl (some (.int (gB (mFo A F n))))) (gw A' F' nw nx LO DO) 0 0 := by
  have hn := s_noGoal1 (A := A) (nw := nw) (nx := nx) (LO := LO) (DO := DO) (d := d + 4) h1
  obtain ⟨f, g1, g2⟩ := s_isFollowing (F := va_up F 20 0) (nw := nw) (nx := nx) (LO := LO) (DO := DO) (d := d) h (h.th hF) hg
  have e : mFo A (va_up F 20 0) n = mFo A F n := rfl
  rw [e] at g2
  generalize nI (mDl A (va_up F 20 0) n).length = y at g2
  cases c : mFo A F n with
  | false =>
    rw [c] at g2
    rw [if_neg (by decide)]
    refine ⟨_, va_up (va_up (va_up F 20 0) 26 y) 20 0, (gKz.dm A F f 0 y).trans (gKz.th _ _ 0), g_upe, gm_mk gm_mX7_noCounterexample rfl ⟨Or.inr rfl, rfl, rfl, trivial⟩ (fun G X hC hX => ?_)⟩
    refine gm_runs hC [] 200 _ _ _ _ _ _ ?_
    exact Or.inl ⟨_, _, _, _, hn, gx_t (show (0 : Int32) = 0 from rfl) (Or.inl ⟨_, _, _, _, g2, gx_t (show (0 : Int32) = 0 from rfl) (gx_t (show (0 : Int32) = 0 from rfl) (gx_z hX (Or.inl rfl) rfl rfl))⟩)⟩
  | true =>
    rw [c] at g2
    rw [if_pos rfl]
    refine ⟨_, va_up (va_up (va_up F 20 0) 26 y) 20 2, (gKz.dm A F f 0 y).trans (gKz.th _ _ 2), g_upe, gm_mk gm_mX7_noCounterexample rfl ⟨Or.inr rfl, rfl, rfl, trivial⟩ (fun G X hC hX => ?_)⟩
    refine gm_runs hC [] 200 _ _ _ _ _ _ ?_
    exact Or.inl ⟨_, _, _, _, hn, gx_t (show (0 : Int32) = 0 from rfl) (Or.inl ⟨_, _, _, _, g2, gx_f (show ¬ (1 : Int32) = 0 from by decide) (gx_f (show ¬ (2 : Int32) = 0 from by decide) (gx_z hX (Or.inr rfl) rfl rfl))⟩)⟩
theorem s_noCounter2 (h0 : F 23 = 0) : gm_Sp gm_MT (d + 2) 8069 [.ref 24] (gw A F nw nx LO DO) (.inl (some (.int 1))) (gw A (va_up F 20 1) nw nx LO DO) 0 0 := by
  have hn := s_noGoal2 (A := A) (nw := nw) (nx := nx) (LO := LO) (DO := DO) (d := d) h0
  refine gm_mk gm_mX7_noCounterexample rfl ⟨Or.inr rfl, rfl, rfl, trivial⟩ (fun G X hC hX => ?_)
  refine gm_runs hC [] 200 _ _ _ _ _ _ ?_
  exact Or.inl ⟨_, _, _, _, hn, gx_f (show ¬ (1 : Int32) = 0 from by decide) (gx_z hX (Or.inr rfl) rfl rfl)⟩
end X