/-! THE REFERENCE'S COUNTEREXAMPLES: the demands, whether one can't be met -/
def mL (D P : Nat → Int32) : Nat → Nat → List Int32
  | 0, _ => []
  | m + 1, i => if D i = 0 then mL D P m (i + 1) else P i :: mL D P m (i + 1)
theorem mL_len (D P : Nat → Int32) : ∀ m i, (mL D P m i).length ≤ m
  | 0, _ => Nat.le_refl _
  | m + 1, i => by
    unfold mL
    have := mL_len D P m (i + 1)
    split
    · omega
    · simp only [List.length_cons]; omega
theorem mL_any (D P : Nat → Int32) (q : Int32 → Bool) : ∀ m i, (mL D P m i).any q = (sFst (fun j => decide (¬ D j = 0) && q (P j)) m i).isSome
  | 0, _ => rfl
  | m + 1, i => by
    unfold mL sFst
    by_cases c : D i = 0
    · rw [if_pos c, decide_eq_false (fun z => z c), Bool.false_and, if_neg (by decide)]
      exact mL_any D P q m (i + 1)
    · rw [if_neg c, decide_eq_true c, Bool.true_and, List.any_cons]
      cases hq : q (P i) with
      | true => rw [if_pos rfl, Bool.true_or]; rfl
      | false => rw [if_neg (by decide), Bool.false_or]; exact mL_any D P q m (i + 1)
/-- where elements of a counterexample may be, and the demands -/
def mAl (A : Nat → Nat → Int32) (n : Nat) : Int32 := sAl (mD A) (mP A) n 0 65535
def mInn (A : Nat → Nat → Int32) (F : Nat → Int32) (n : Nat) : Int32 := if sDem (F 27) = true then mAl A n &&& (mG A F ^^^ (-1)) else mAl A n
def mDl (A : Nat → Nat → Int32) (F : Nat → Int32) (n : Nat) : List Int32 := if sDem (F 27) = true then mL (mD A) (mP A) n 0 else mL (mD A) (mP A) n 0 ++ [mG A F]
def mFo (A : Nat → Nat → Int32) (F : Nat → Int32) (n : Nat) : Bool := (mDl A F n).any (fun p => decide (p &&& mInn A F n = 0))
theorem mDl_len {A : Nat → Nat → Int32} {F : Nat → Int32} {n : Nat} (h : n ≤ 6) : (mDl A F n).length ≤ 7 := by
  have := mL_len (mD A) (mP A) n 0
  unfold mDl
  split
  · omega
  · rw [List.length_append, List.length_singleton]; omega
theorem mFo_sPr (A : Nat → Nat → Int32) (F : Nat → Int32) (n : Nat) : mFo A F n = sPr (mD A) (mP A) n (gB (sDem (F 27))) (mG A F) := by
  have e : ∀ (x : Int32), (fun j => decide (¬ mD A j = 0) && decide (mP A j &&& x = 0)) = (fun i => decide (¬ mD A i = 0 ∧ mP A i &&& x = 0)) := fun x => by
    funext j
    exact (Bool.decide_and _ _).symm
  unfold mFo mDl mInn sPr sMod
  cases c : sDem (F 27) with
  | true =>
    rw [if_pos rfl, if_pos rfl, if_neg (show ¬ gB true = 0 from by decide), mL_any, e]
    rfl
  | false =>
    rw [if_neg (by decide), if_neg (by decide), if_pos (show gB false = 0 from rfl), List.any_append, mL_any, e]
    show ((sFst _ n 0).isSome || (decide (mG A F &&& mAl A n = 0) || false)) = _
    rw [Bool.or_false, Int32.and_comm]
    rfl
section X
variable {nw nx : Nat} {LO : Nat → Int64} {DO : Nat → UInt64} {d n : Nat} {A : Nat → Nat → Int32} {F : Nat → Int32}
theorem s_counter_loop (h : mOk A n) (hF : F 22 = nI n) {y : Int32} : ∀ (m i : Nat) (f : Nat → Int32) (o : List Int32), i + m = n → o.length + m ≤ 7 → gR f o → ∃ f', gR f' (o ++ mL (mD A) (mP A) m i) ∧ ∀ (G : pG) (X : pX), gm_cl gm_mX7_counter gm_tyf none (gm_Sp gm_MT (d + 3)) G X → G 59 [some (.ref 24), some (.int y), some (.int (nI n))] [] (gw (va_up A 36 f') (va_up F 26 (nI (o ++ mL (mD A) (mP A) m i).length)) nw nx LO DO) 0 0 → G 12 [some (.ref 24), some (.int y), some (.int (nI i))] [] (gw (va_up A 36 f) (va_up F 26 (nI o.length)) nw nx LO DO) 0 0 := by
  have h6 := h.1
  intro m
  induction m with
  | zero =>
    intro i f o hi ho hf
    have hi : i = n := by omega
    subst hi
    refine ⟨f, by rw [show mL (mD A) (mP A) 0 i = [] from rfl, List.append_nil]; exact hf, fun G X hC hY => ?_⟩
    rw [show mL (mD A) (mP A) 0 i = [] from rfl, List.append_nil] at hY
    refine gm_run1 hC [12, 59] 200 12 ?_
    exact gx_t (show F 22 ≤ nI i from by rw [hF]; exact nI_le (by omega) (by omega)) hY
  | succ m ih =>
    intro i f o hi ho hf
    have n1 : ¬ F 22 ≤ nI i := by rw [hF]; exact nI_ge (by omega) (by omega)
    have hd := s_isDemandN (A := A) (F := va_up F 26 (nI o.length)) (nw := nw) (nx := nx) (LO := LO) (DO := DO) (d := d + 2) i (by omega)
    have hd : gm_Sp gm_MT (d + 3) 8048 [.int (A 30 (nI i).toNatClampNeg)] (gw (va_up A 36 f) (va_up F 26 (nI o.length)) nw nx LO DO) (.inl (some (.int (mD A i)))) (gw (va_up A 36 f) (va_up F 26 (nI o.length)) nw nx LO DO) 0 0 := s_isDemandN (A := va_up A 36 f) (F := va_up F 26 (nI o.length)) (nw := nw) (nx := nx) (LO := LO) (DO := DO) (d := d + 2) i (by omega)
    unfold mL
    by_cases c : mD A i = 0
    · rw [if_pos c]
      obtain ⟨f', g1, g2⟩ := ih (i + 1) f o (by omega) (by omega) hf
      refine ⟨f', g1, fun G X hC hY => ?_⟩
      have h9 := g2 G X hC hY
      rw [← nI_1] at h9
      refine gm_run1 hC [12, 59] 200 12 ?_
      exact gx_f n1 (And.intro (nI_in (by omega) (by decide)) (Or.inl ⟨_, _, _, _, hd, gx_t c h9⟩))
    · rw [if_neg c]
      have hg : gR (upd f o.length (mP A i)) (o ++ [mP A i]) := hf.push (mP A i)
      obtain ⟨f', g1, g2⟩ := ih (i + 1) (upd f o.length (mP A i)) (o ++ [mP A i]) (by omega) (by rw [List.length_append, List.length_singleton]; omega) hg
      rw [List.append_assoc] at g1
      refine ⟨f', g1, fun G X hC hY => ?_⟩
      have hY : G 59 [some (.ref 24), some (.int y), some (.int (nI n))] [] (gw (va_up A 36 f') (va_up F 26 (nI (o ++ [mP A i] ++ mL (mD A) (mP A) m (i + 1)).length)) nw nx LO DO) 0 0 := by rw [List.append_assoc]; exact hY
      have h9 := g2 G X hC hY
      rw [← nI_1, List.length_append, List.length_singleton, ← nI_1] at h9
      have ha : gm_Sp gm_MT (d + 3) 8050 [.ref 24, .int (nI i)] (gw (va_up A 36 f) (va_up (va_up F 26 (nI o.length)) 26 (nI o.length + 1)) nw nx LO DO) (.inl (some (.int (mP A i)))) (gw (va_up A 36 f) (va_up (va_up F 26 (nI o.length)) 26 (nI o.length + 1)) nw nx LO DO) 0 0 := s_assumed (A := va_up A 36 f) (F := va_up (va_up F 26 (nI o.length)) 26 (nI o.length + 1)) (nw := nw) (nx := nx) (LO := LO) (DO := DO) (d := d + 1) h (j := i) (by omega)
      have k0 := nI_clamp (n := o.length) (by omega)
      refine gm_run1 hC [12, 59] 200 12 ?_
      refine gx_f n1 (And.intro (nI_in (by omega) (by decide)) (Or.inl ⟨_, _, _, _, hd, gx_f c (Or.inl ⟨_, _, _, _, ha, And.intro (nI_in (by omega) (by decide)) ?_⟩)⟩))
      show G 12 [some (.ref 24), some (.int y), some (.int (nI i + 1))] [] (gw (va_up A 36 (upd f (nI o.length).toNatClampNeg (mP A i))) (va_up F 26 (nI o.length + 1)) nw nx LO DO) 0 0
      rw [k0]
      exact h9
theorem s_counter (h : mOk A n) (hF : F 22 = nI n) (hg : gOk F) : ∃ f, gR f (mDl A F n) ∧ gm_Sp gm_MT (d + 4) 8061 [.ref 24] (gw A F nw nx LO DO) (.inl (some (.int (mInn A F n)))) (gw (va_up A 36 f) (va_up F 26 (nI (mDl A F n).length)) nw nx LO DO) 0 0 := by
  have h6 := h.1
  have ha := s_allowed7 (nw := nw) (nx := nx) (LO := LO) (DO := DO) (d := d) h hF
  obtain ⟨f, g1, g2⟩ := s_counter_loop (nw := nw) (nx := nx) (LO := LO) (DO := DO) (d := d) h hF (y := mAl A n) n 0 (A 36) [] (by omega) (by rw [List.length_nil]; omega) (fun i hi => by rw [List.length_nil] at hi; omega)
  rw [List.nil_append] at g1 g2
  have hlen := mL_len (mD A) (mP A) n 0
  unfold mDl mInn
  generalize hl : mL (mD A) (mP A) n 0 = l at g1 g2 hlen
  cases c : sDem (F 27) with
  | true =>
    rw [if_pos rfl, if_pos rfl]
    refine ⟨f, g1, gm_mk gm_mX7_counter rfl ⟨Or.inr rfl, rfl, rfl, trivial⟩ (fun G X hC hX => ?_)⟩
    have hd : gm_Sp gm_MT (d + 3) 8048 [.int (F 27)] (gw (va_up A 36 f) (va_up F 26 (nI l.length)) nw nx LO DO) (.inl (some (.int (gB (sDem (F 27)))))) (gw (va_up A 36 f) (va_up F 26 (nI l.length)) nw nx LO DO) 0 0 := s_isDemand7 (d := d + 2) (F 27)
    rw [c] at hd
    have hgo : gm_Sp gm_MT (d + 3) 8051 [.ref 24] (gw (va_up A 36 f) (va_up F 26 (nI l.length)) nw nx LO DO) (.inl (some (.int (mG A F)))) (gw (va_up A 36 f) (va_up F 26 (nI l.length)) nw nx LO DO) 0 0 := s_goal7 (A := va_up A 36 f) (F := va_up F 26 (nI l.length)) (d := d + 1) hg
    have h9 := g2 G X hC (by
      refine gm_runs hC [12] 200 _ _ _ _ _ _ ?_
      exact Or.inl ⟨_, _, _, _, hd, gx_f (show ¬ (1 : Int32) = 0 from by decide) (Or.inl ⟨_, _, _, _, hgo, hX⟩)⟩)
    refine gm_runs hC [12] 200 _ _ _ _ _ _ ?_
    exact Or.inl ⟨_, _, _, _, ha, h9⟩
  | false =>
    rw [if_neg (by decide), if_neg (by decide)]
    refine ⟨upd f l.length (mG A F), g1.push (mG A F), gm_mk gm_mX7_counter rfl ⟨Or.inr rfl, rfl, rfl, trivial⟩ (fun G X hC hX => ?_)⟩
    have hd : gm_Sp gm_MT (d + 3) 8048 [.int (F 27)] (gw (va_up A 36 f) (va_up F 26 (nI l.length)) nw nx LO DO) (.inl (some (.int (gB (sDem (F 27)))))) (gw (va_up A 36 f) (va_up F 26 (nI l.length)) nw nx LO DO) 0 0 := s_isDemand7 (d := d + 2) (F 27)
    rw [c] at hd
    have hgo : gm_Sp gm_MT (d + 3) 8051 [.ref 24] (gw (va_up A 36 f) (va_up (va_up F 26 (nI l.length)) 26 (nI l.length + 1)) nw nx LO DO) (.inl (some (.int (mG A F)))) (gw (va_up A 36 f) (va_up (va_up F 26 (nI l.length)) 26 (nI l.length + 1)) nw nx LO DO) 0 0 := s_goal7 (A := va_up A 36 f) (F := va_up (va_up F 26 (nI l.length)) 26 (nI l.length + 1)) (d := d + 1) hg
    rw [List.length_append, List.length_singleton, ← nI_1] at hX
    have k0 := nI_clamp (n := l.length) (by omega)
    have h9 := g2 G X hC (by
      refine gm_runs hC [12] 200 _ _ _ _ _ _ ?_
      refine Or.inl ⟨_, _, _, _, hd, gx_t (show (0 : Int32) = 0 from rfl) (Or.inl ⟨_, _, _, _, hgo, And.intro (nI_in (by omega) (by decide)) ?_⟩)⟩
      show X (.inl (some (.int (mAl A n)))) (gw (va_up A 36 (upd f (nI l.length).toNatClampNeg (mG A F))) (va_up F 26 (nI l.length + 1)) nw nx LO DO) 0 0
      rw [k0]
      exact hX)
    refine gm_runs hC [12] 200 _ _ _ _ _ _ ?_
    exact Or.inl ⟨_, _, _, _, ha, h9⟩
theorem s_isFollowing (h : mOk A n) (hF : F 22 = nI n) (hg : gOk F) : ∃ f, gR f (mDl A F n) ∧ gm_Sp gm_MT (d + 5) 8062 [.ref 24] (gw A F nw nx LO DO) (.inl (some (.int (gB (mFo A F n))))) (gw (va_up A 36 f) (va_up F 26 (nI (mDl A F n).length)) nw nx LO DO) 0 0 := by
  obtain ⟨f, g1, g2⟩ := s_counter (nw := nw) (nx := nx) (LO := LO) (DO := DO) (d := d) h hF hg
  have hlen := mDl_len (A := A) (F := F) h.1
  unfold mFo
  generalize hl : mDl A F n = l at g1 g2 hlen
  generalize mInn A F n = y at g2
  refine ⟨f, g1, gm_mk gm_mX7_isFollowing rfl ⟨Or.inr rfl, rfl, rfl, trivial⟩ (fun G X hC hX => ?_)⟩
  have loop : ∀ (s : List Int32) (i : Nat), i + s.length = l.length → (∀ t, t < s.length → s[t]? = some (f (i + t))) → X (.inl (some (.int (gB (s.any (fun p => decide (p &&& y = 0))))))) (gw (va_up A 36 f) (va_up F 26 (nI l.length)) nw nx LO DO) 0 0 → G 7 [some (.ref 24), some (.int y), some (.int (nI i))] [] (gw (va_up A 36 f) (va_up F 26 (nI l.length)) nw nx LO DO) 0 0 := by
    intro s
    induction s with
    | nil =>
      intro i hi hs hY
      rw [List.length_nil, Nat.add_zero] at hi
      subst hi
      have hY : X (.inl (some (.int 0))) (gw (va_up A 36 f) (va_up F 26 (nI l.length)) nw nx LO DO) 0 0 := hY
      refine gm_run1 hC [7] 200 7 ?_
      exact gx_t (show nI l.length ≤ nI l.length from Int32.le_refl _) (gx_z hY (Or.inl rfl) rfl rfl)
    | cons p s ih =>
      intro i hi hs hY
      rw [List.length_cons] at hi
      have n1 : ¬ nI l.length ≤ nI i := nI_ge (by omega) (by omega)
      have k0 := nI_clamp (n := i) (by omega)
      have ep : f i = p := by
        have := hs 0 (by rw [List.length_cons]; omega)
        rw [List.getElem?_cons_zero] at this
        exact (Option.some.inj this).symm
      rw [List.any_cons] at hY
      by_cases c : p &&& y = 0
      · rw [decide_eq_true c, Bool.true_or] at hY
        refine gm_run1 hC [7] 200 7 ?_
        exact gx_f n1 (And.intro (nI_in (by omega) (by decide)) (gx_f (show ¬ ¬ f (nI i).toNatClampNeg &&& y = 0 from by rw [k0, ep]; exact fun z => z c) (gx_z hY (Or.inr rfl) rfl rfl)))
      · rw [decide_eq_false c, Bool.false_or] at hY
        have h9 := ih (i + 1) (by omega) (fun t ht => by
          have := hs (t + 1) (by rw [List.length_cons]; omega)
          rw [List.getElem?_cons_succ] at this
          rw [this]
          congr 2
          omega) hY
        rw [← nI_1] at h9
        refine gm_run1 hC [7] 200 7 ?_
        exact gx_f n1 (And.intro (nI_in (by omega) (by decide)) (gx_t (show ¬ f (nI i).toNatClampNeg &&& y = 0 from by rw [k0, ep]; exact c) h9))
  have h9 := loop l 0 (by omega) (fun t ht => by rw [Nat.zero_add]; exact g1 t ht) hX
  refine gm_runs hC [7] 200 _ _ _ _ _ _ ?_
  exact Or.inl ⟨_, _, _, _, g2, h9⟩
end X