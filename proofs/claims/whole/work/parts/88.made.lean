/-! HOW BOTH SIDES ARE MADE: the constructors -/
section Z
variable {d : Nat} {h0 : pH}
theorem z_digitOf (c j : Int32) : gm_Sp gm_MT (d + 1) 1002 [.int c, .int j] h0 (.inl (some (.int (if j = 0 then c / 27 else if j = 1 then c / 9 - c / 9 / 3 * 3 else if j = 2 then c / 3 - c / 3 / 3 * 3 else c - c / 3 * 3)))) h0 0 0 := by
  refine gm_mk gm_mX0_digitOf rfl ⟨Or.inr rfl, rfl, rfl, trivial⟩ (fun G X hC hX => ?_)
  refine gm_runs hC [] 200 _ _ _ _ _ _ ?_
  refine And.intro (fun (h : j = 0) => ?_) (fun (h0 : ¬ j = 0) => And.intro (fun (h : j = 1) => ?_) (fun (h1 : ¬ j = 1) => And.intro (fun (h : j = 2) => ?_) (fun (h2 : ¬ j = 2) => ?_)))
  · rw [if_pos h] at hX
    exact And.intro (show ¬ (27 : Int32) = 0 from by decide) (gx_i hX rfl rfl)
  · rw [if_neg h0, if_pos h] at hX
    exact And.intro (show ¬ (9 : Int32) = 0 from by decide) (And.intro (show ¬ (3 : Int32) = 0 from by decide) (gx_i hX rfl rfl))
  · rw [if_neg h0, if_neg h1, if_pos h] at hX
    exact And.intro (show ¬ (3 : Int32) = 0 from by decide) (And.intro (show ¬ (3 : Int32) = 0 from by decide) (gx_i hX rfl rfl))
  · rw [if_neg h0, if_neg h1, if_neg h2] at hX
    exact And.intro (show ¬ (3 : Int32) = 0 from by decide) (gx_i hX rfl rfl)
theorem z_isIn (x s : Int32) : gm_Sp gm_MT (d + 1) 7021 [.int x, .int s] h0 (.inl (some (.int (gB (sIn x s))))) h0 0 0 := by
  refine gm_mk gm_mX6_isIn rfl ⟨Or.inr rfl, rfl, rfl, trivial⟩ (fun G X hC hX => ?_)
  unfold sIn at hX
  refine gm_runs hC [] 200 _ _ _ _ _ _ ?_
  refine And.intro (fun (c : ¬ (s >>> (x &&& 31)) &&& 1 = 1) => ?_) (fun (c : ¬ ¬ (s >>> (x &&& 31)) &&& 1 = 1) => ?_)
  · rw [decide_eq_false c] at hX
    exact gx_z hX (Or.inl rfl) rfl rfl
  · rw [decide_eq_true (Decidable.of_not_not c)] at hX
    exact gx_z hX (Or.inr rfl) rfl rfl
theorem z_contains (c x : Int32) : gm_Sp gm_MT (d + 2) 1005 [.int c, .int x] h0 (.inl (some (.int (gB (cCon c x 4 0))))) h0 0 0 := by
  refine gm_mk gm_mX0_contains rfl ⟨Or.inr rfl, rfl, rfl, trivial⟩ (fun G X hC hX => ?_)
  have loop : ∀ (m i : Nat) (o3 : Option Value), (o3 = none ∨ ∃ z : Int32, o3 = some (.int z)) → i + m = 4 → X (.inl (some (.int (gB (cCon c x m i))))) h0 0 0 → G 2 [some (.int c), some (.int x), some (.int (nI i)), o3] [] h0 0 0 := by
    intro m
    induction m with
    | zero =>
      intro i o3 h3 hi hY
      have hi : i = 4 := by omega
      subst hi
      have hY : X (.inl (some (.int 1))) h0 0 0 := hY
      rcases h3 with rfl | ⟨z, rfl⟩
      all_goals
        refine gm_run1 hC [2] 200 2 ?_
        exact gx_t (show nI 4 ≤ gm_lit 4 from by decide) (gx_z hY (Or.inr rfl) rfl rfl)
    | succ m ih =>
      intro i o3 h3 hi hY
      have hd := z_digitOf (h0 := h0) (d := d) c (nI i)
      have hs := z_isIn (h0 := h0) (d := d) (nI i) x
      have n1 : ¬ nI 4 ≤ nI i := nI_ge (by omega) (by omega)
      unfold cCon at hY
      have nxt : X (.inl (some (.int (gB (cCon c x m (i + 1)))))) h0 0 0 → G 2 [some (.int c), some (.int x), some (.int (nI i + 1)), some (.int (cDg c (nI i)))] [] h0 0 0 := fun z => by
        rw [nI_1]
        exact ih (i + 1) _ (Or.inr ⟨_, rfl⟩) (by omega) z
      clear ih
      rcases h3 with rfl | ⟨z3, rfl⟩
      all_goals
        refine gm_run1 hC [2] 200 2 ?_
        refine gx_f (show ¬ gm_lit 4 ≤ nI i from n1) (Or.inl ⟨_, _, _, _, hd, And.intro (fun (z : cDg c (nI i) = 0) => nxt (by rw [if_pos z] at hY; exact hY)) (fun (z : ¬ cDg c (nI i) = 0) => ⟨_, _, _, _, hs, And.intro (fun (y : ¬ cDg c (nI i) = 1) => ?_) (fun (y : ¬ ¬ cDg c (nI i) = 1) => ?_)⟩)⟩)
        · rw [if_neg z, decide_eq_false y] at hY
          cases hb : sIn (nI i) x with
          | true =>
            rw [hb, if_neg (by decide)] at hY
            exact gx_t (show ¬ (1 : Int32) = 0 from by decide) (nxt hY)
          | false =>
            rw [hb, if_pos rfl] at hY
            exact gx_f (show ¬ ¬ (0 : Int32) = 0 from fun z => z rfl) (gx_z hY (Or.inl rfl) rfl rfl)
        · rw [if_neg z, decide_eq_true (Decidable.of_not_not y)] at hY
          cases hb : sIn (nI i) x with
          | true =>
            rw [hb, if_pos rfl] at hY
            exact gx_f (show ¬ ¬ (1 : Int32) = 1 from fun z => z rfl) (gx_z hY (Or.inl rfl) rfl rfl)
          | false =>
            rw [hb, if_neg (by decide)] at hY
            exact gx_t (show ¬ (0 : Int32) = 1 from by decide) (nxt hY)
  refine gm_runs hC [2] 200 _ _ _ _ _ _ ?_
  exact loop 4 0 none (Or.inl rfl) rfl hX
theorem z_regionsIn (c : Int32) : gm_Sp gm_MT (d + 3) 1004 [.int c] h0 (.inl (some (.int (cReg c 16 0 0)))) h0 0 0 := by
  refine gm_mk gm_mX0_regionsIn rfl ⟨Or.inr rfl, rfl, rfl, trivial⟩ (fun G X hC hX => ?_)
  have loop : ∀ (m i : Nat) (acc : Int32), i + m = 16 → X (.inl (some (.int (cReg c m i acc)))) h0 0 0 → G 4 [some (.int c), some (.int acc), some (.int (nI i))] [] h0 0 0 := by
    intro m
    induction m with
    | zero =>
      intro i acc hi hY
      have hi : i = 16 := by omega
      subst hi
      refine gm_run1 hC [4] 200 4 ?_
      exact gx_t (show nI 16 ≤ nI 16 from by decide) (gx_i hY rfl rfl)
    | succ m ih =>
      intro i acc hi hY
      have hs := z_contains (h0 := h0) (d := d) c (nI i)
      have n1 : ¬ nI 16 ≤ nI i := nI_ge (by omega) (by omega)
      unfold cReg at hY
      have h9 := ih (i + 1) _ (by omega) hY
      rw [← nI_1] at h9
      clear ih
      cases hb : cCon c (nI i) 4 0 with
      | true =>
        rw [hb] at hs
        rw [if_pos hb] at h9
        refine gm_run1 hC [4] 200 4 ?_
        exact gx_f n1 (Or.inl ⟨_, _, _, _, hs, gx_f (show ¬ (1 : Int32) = 0 from by decide) h9⟩)
      | false =>
        rw [hb] at hs
        rw [if_neg (by rw [hb]; decide)] at h9
        refine gm_run1 hC [4] 200 4 ?_
        exact gx_f n1 (Or.inl ⟨_, _, _, _, hs, gx_t (show (0 : Int32) = 0 from rfl) h9⟩)
  refine gm_runs hC [4] 200 _ _ _ _ _ _ ?_
  exact loop 16 0 0 rfl hX
end Z
set_option maxRecDepth 4000 in
theorem k_terms {d : Nat} : gm_Sp gm_MT (d + 1) 5000 [.ref 1] [.inr (6, [.null, .null, .null, .null, .null]), .inr (4, [.null, .null, .null, .null, .null, .int 0])] (.inl none) [.inr (6, [.null, .null, .null, .null, .null]), .inr (4, [.ref 2, .ref 3, .ref 4, .ref 5, .ref 6, .int 0]), .inl (1, 120, .inl (fun _ => 0)), .inl (0, 120, .inl (fun _ => 0)), .inl (0, 120, .inl (fun _ => 0)), .inl (0, 120, .inl (fun _ => 0)), .inl (0, 120, .inl (fun _ => 0))] 5 600 := by
  refine gm_mk gm_mX4_init rfl ⟨Or.inl rfl, rfl, rfl, trivial⟩ (fun G X hC hX => ?_)
  refine gm_runs hC [] 200 _ _ _ _ _ _ ?_
  exact And.intro (show ¬ (120 : Int32) < 0 from by decide) (And.intro (show ¬ (120 : Int32) < 0 from by decide) (And.intro (show ¬ (120 : Int32) < 0 from by decide) (And.intro (show ¬ (120 : Int32) < 0 from by decide) (And.intro (show ¬ (120 : Int32) < 0 from by decide) (hX)))))
set_option maxRecDepth 4000 in
theorem k_text8 {d : Nat} : gm_Sp gm_MT (d + 1) 6000 [.ref 8] [.inr (6, [.ref 1, .null, .null, .null, .null]), .inr (4, [.ref 2, .ref 3, .ref 4, .ref 5, .ref 6, .int 0]), .inl (1, 120, .inl (fun _ => 0)), .inl (0, 120, .inl (fun _ => 0)), .inl (0, 120, .inl (fun _ => 0)), .inl (0, 120, .inl (fun _ => 0)), .inl (0, 120, .inl (fun _ => 0)), .inr (1, [.null, .null, .int 0, .int 0]), .inr (5, [.null, .null, .int 0, .int 0])] (.inl none) [.inr (6, [.ref 1, .null, .null, .null, .null]), .inr (4, [.ref 2, .ref 3, .ref 4, .ref 5, .ref 6, .int 0]), .inl (1, 120, .inl (fun _ => 0)), .inl (0, 120, .inl (fun _ => 0)), .inl (0, 120, .inl (fun _ => 0)), .inl (0, 120, .inl (fun _ => 0)), .inl (0, 120, .inl (fun _ => 0)), .inr (1, [.null, .null, .int 0, .int 0]), .inr (5, [.ref 9, .ref 10, .int 0, .int 0]), .inl (1, 81, .inl (fun _ => 0)), .inl (0, 81, .inl (fun _ => 0))] 2 162 := by
  refine gm_mk gm_mX5_init rfl ⟨Or.inl rfl, rfl, rfl, trivial⟩ (fun G X hC hX => ?_)
  refine gm_runs hC [] 200 _ _ _ _ _ _ ?_
  exact And.intro (show ¬ (81 : Int32) < 0 from by decide) (And.intro (show ¬ (81 : Int32) < 0 from by decide) (hX))
set_option maxRecDepth 4000 in
theorem k_text11 {d : Nat} : gm_Sp gm_MT (d + 1) 6000 [.ref 11] [.inr (6, [.ref 1, .null, .null, .null, .null]), .inr (4, [.ref 2, .ref 3, .ref 4, .ref 5, .ref 6, .int 0]), .inl (1, 120, .inl (fun _ => 0)), .inl (0, 120, .inl (fun _ => 0)), .inl (0, 120, .inl (fun _ => 0)), .inl (0, 120, .inl (fun _ => 0)), .inl (0, 120, .inl (fun _ => 0)), .inr (1, [.ref 8, .null, .int 0, .int 0]), .inr (5, [.ref 9, .ref 10, .int 0, .int 0]), .inl (1, 81, .inl (fun _ => 0)), .inl (0, 81, .inl (fun _ => 0)), .inr (5, [.null, .null, .int 0, .int 0])] (.inl none) [.inr (6, [.ref 1, .null, .null, .null, .null]), .inr (4, [.ref 2, .ref 3, .ref 4, .ref 5, .ref 6, .int 0]), .inl (1, 120, .inl (fun _ => 0)), .inl (0, 120, .inl (fun _ => 0)), .inl (0, 120, .inl (fun _ => 0)), .inl (0, 120, .inl (fun _ => 0)), .inl (0, 120, .inl (fun _ => 0)), .inr (1, [.ref 8, .null, .int 0, .int 0]), .inr (5, [.ref 9, .ref 10, .int 0, .int 0]), .inl (1, 81, .inl (fun _ => 0)), .inl (0, 81, .inl (fun _ => 0)), .inr (5, [.ref 12, .ref 13, .int 0, .int 0]), .inl (1, 81, .inl (fun _ => 0)), .inl (0, 81, .inl (fun _ => 0))] 2 162 := by
  refine gm_mk gm_mX5_init rfl ⟨Or.inl rfl, rfl, rfl, trivial⟩ (fun G X hC hX => ?_)
  refine gm_runs hC [] 200 _ _ _ _ _ _ ?_
  exact And.intro (show ¬ (81 : Int32) < 0 from by decide) (And.intro (show ¬ (81 : Int32) < 0 from by decide) (hX))
set_option maxRecDepth 4000 in
theorem k_rewriter {d : Nat} : gm_Sp gm_MT (d + 2) 2000 [.ref 7] [.inr (6, [.ref 1, .null, .null, .null, .null]), .inr (4, [.ref 2, .ref 3, .ref 4, .ref 5, .ref 6, .int 0]), .inl (1, 120, .inl (fun _ => 0)), .inl (0, 120, .inl (fun _ => 0)), .inl (0, 120, .inl (fun _ => 0)), .inl (0, 120, .inl (fun _ => 0)), .inl (0, 120, .inl (fun _ => 0)), .inr (1, [.null, .null, .int 0, .int 0])] (.inl none) [.inr (6, [.ref 1, .null, .null, .null, .null]), .inr (4, [.ref 2, .ref 3, .ref 4, .ref 5, .ref 6, .int 0]), .inl (1, 120, .inl (fun _ => 0)), .inl (0, 120, .inl (fun _ => 0)), .inl (0, 120, .inl (fun _ => 0)), .inl (0, 120, .inl (fun _ => 0)), .inl (0, 120, .inl (fun _ => 0)), .inr (1, [.ref 8, .ref 11, .int 0, .int 32]), .inr (5, [.ref 9, .ref 10, .int 0, .int 0]), .inl (1, 81, .inl (fun _ => 0)), .inl (0, 81, .inl (fun _ => 0)), .inr (5, [.ref 12, .ref 13, .int 0, .int 0]), .inl (1, 81, .inl (fun _ => 0)), .inl (0, 81, .inl (fun _ => 0))] 6 332 := by
  refine gm_mk gm_mX1_init rfl ⟨Or.inl rfl, rfl, rfl, trivial⟩ (fun G X hC hX => ?_)
  refine gm_runs hC [] 200 _ _ _ _ _ _ ?_
  exact ⟨_, _, _, k_text8, ⟨_, _, _, k_text11, And.intro (show (0 : Int32) ≤ 32 ∧ (32 : Int32) ≤ 65535 from by decide) hX⟩⟩
set_option maxRecDepth 4000 in
theorem k_cubes {d : Nat} : ∃ f : Nat → Int32, (∀ c, c < 81 → f c = nI (cTn c)) ∧ gm_Sp gm_MT (d + 4) 1000 [.ref 14] [.inr (6, [.ref 1, .ref 7, .null, .null, .null]), .inr (4, [.ref 2, .ref 3, .ref 4, .ref 5, .ref 6, .int 0]), .inl (1, 120, .inl (fun _ => 0)), .inl (0, 120, .inl (fun _ => 0)), .inl (0, 120, .inl (fun _ => 0)), .inl (0, 120, .inl (fun _ => 0)), .inl (0, 120, .inl (fun _ => 0)), .inr (1, [.ref 8, .ref 11, .int 0, .int 32]), .inr (5, [.ref 9, .ref 10, .int 0, .int 0]), .inl (1, 81, .inl (fun _ => 0)), .inl (0, 81, .inl (fun _ => 0)), .inr (5, [.ref 12, .ref 13, .int 0, .int 0]), .inl (1, 81, .inl (fun _ => 0)), .inl (0, 81, .inl (fun _ => 0)), .inr (0, [.null, .null, .null])] (.inl none) [.inr (6, [.ref 1, .ref 7, .null, .null, .null]), .inr (4, [.ref 2, .ref 3, .ref 4, .ref 5, .ref 6, .int 0]), .inl (1, 120, .inl (fun _ => 0)), .inl (0, 120, .inl (fun _ => 0)), .inl (0, 120, .inl (fun _ => 0)), .inl (0, 120, .inl (fun _ => 0)), .inl (0, 120, .inl (fun _ => 0)), .inr (1, [.ref 8, .ref 11, .int 0, .int 32]), .inr (5, [.ref 9, .ref 10, .int 0, .int 0]), .inl (1, 81, .inl (fun _ => 0)), .inl (0, 81, .inl (fun _ => 0)), .inr (5, [.ref 12, .ref 13, .int 0, .int 0]), .inl (1, 81, .inl (fun _ => 0)), .inl (0, 81, .inl (fun _ => 0)), .inr (0, [.ref 15, .ref 16, .ref 17]), .inl (0, 81, .inl f), .inl (2, 81, .inl (fun _ => 0)), .inl (2, 81, .inl (fun _ => 0))] 3 243 := by
  have loop : ∀ (m i : Nat) (f : Nat → Int32), i + m = 81 → (∀ c, c < i → f c = nI (cTn c)) → ∃ f' : Nat → Int32, (∀ c, c < 81 → f' c = nI (cTn c)) ∧ ∀ (G : pG) (X : pX), gm_cl gm_mX0_init gm_tyf none (gm_Sp gm_MT (d + 3)) G X → ∀ c s, X (.inl none) [.inr (6, [.ref 1, .ref 7, .null, .null, .null]), .inr (4, [.ref 2, .ref 3, .ref 4, .ref 5, .ref 6, .int 0]), .inl (1, 120, .inl (fun _ => 0)), .inl (0, 120, .inl (fun _ => 0)), .inl (0, 120, .inl (fun _ => 0)), .inl (0, 120, .inl (fun _ => 0)), .inl (0, 120, .inl (fun _ => 0)), .inr (1, [.ref 8, .ref 11, .int 0, .int 32]), .inr (5, [.ref 9, .ref 10, .int 0, .int 0]), .inl (1, 81, .inl (fun _ => 0)), .inl (0, 81, .inl (fun _ => 0)), .inr (5, [.ref 12, .ref 13, .int 0, .int 0]), .inl (1, 81, .inl (fun _ => 0)), .inl (0, 81, .inl (fun _ => 0)), .inr (0, [.ref 15, .ref 16, .ref 17]), .inl (0, 81, .inl f'), .inl (2, 81, .inl (fun _ => 0)), .inl (2, 81, .inl (fun _ => 0))] c s → G 30 [some (.ref 14), some (.int (nI i))] [] [.inr (6, [.ref 1, .ref 7, .null, .null, .null]), .inr (4, [.ref 2, .ref 3, .ref 4, .ref 5, .ref 6, .int 0]), .inl (1, 120, .inl (fun _ => 0)), .inl (0, 120, .inl (fun _ => 0)), .inl (0, 120, .inl (fun _ => 0)), .inl (0, 120, .inl (fun _ => 0)), .inl (0, 120, .inl (fun _ => 0)), .inr (1, [.ref 8, .ref 11, .int 0, .int 32]), .inr (5, [.ref 9, .ref 10, .int 0, .int 0]), .inl (1, 81, .inl (fun _ => 0)), .inl (0, 81, .inl (fun _ => 0)), .inr (5, [.ref 12, .ref 13, .int 0, .int 0]), .inl (1, 81, .inl (fun _ => 0)), .inl (0, 81, .inl (fun _ => 0)), .inr (0, [.ref 15, .ref 16, .ref 17]), .inl (0, 81, .inl f), .inl (2, 81, .inl (fun _ => 0)), .inl (2, 81, .inl (fun _ => 0))] c s := by
    intro m
    induction m with
    | zero =>
      intro i f hi hf
      have hi : i = 81 := by omega
      subst hi
      refine ⟨f, hf, fun G X hC c s hX => ?_⟩
      refine gm_run1 hC [30] 200 30 ?_
      exact gx_t (show (81 : Int32) ≤ nI 81 from by decide) hX
    | succ m ih =>
      intro i f hi hf
      have n1 : ¬ (81 : Int32) ≤ nI i := nI_ge (b := 81) (by omega) (by decide)
      have k0 := nI_clamp (n := i) (by omega)
      obtain ⟨f', g1, g2⟩ := ih (i + 1) (upd f i (nI (cTn i))) (by omega) (fun c hc => by
        by_cases e : c = i
        · rw [e, upd_at]
        · rw [upd_lt (by omega)]; exact hf c (by omega))
      refine ⟨f', g1, fun G X hC c s hX => ?_⟩
      have h9 := g2 G X hC c s hX
      rw [← nI_1] at h9
      have hr := z_regionsIn (h0 := [.inr (6, [.ref 1, .ref 7, .null, .null, .null]), .inr (4, [.ref 2, .ref 3, .ref 4, .ref 5, .ref 6, .int 0]), .inl (1, 120, .inl (fun _ => 0)), .inl (0, 120, .inl (fun _ => 0)), .inl (0, 120, .inl (fun _ => 0)), .inl (0, 120, .inl (fun _ => 0)), .inl (0, 120, .inl (fun _ => 0)), .inr (1, [.ref 8, .ref 11, .int 0, .int 32]), .inr (5, [.ref 9, .ref 10, .int 0, .int 0]), .inl (1, 81, .inl (fun _ => 0)), .inl (0, 81, .inl (fun _ => 0)), .inr (5, [.ref 12, .ref 13, .int 0, .int 0]), .inl (1, 81, .inl (fun _ => 0)), .inl (0, 81, .inl (fun _ => 0)), .inr (0, [.ref 15, .ref 16, .ref 17]), .inl (0, 81, .inl f), .inl (2, 81, .inl (fun _ => 0)), .inl (2, 81, .inl (fun _ => 0))]) (d := d) (nI i)
      rw [cT_reg i (by omega)] at hr
      refine gm_run1 hC [30] 200 30 ?_
      refine gx_f n1 (Or.inl ⟨_, _, _, _, hr, And.intro (nI_in (by omega) (by decide)) ?_⟩)
      rw [k0]
      exact h9
  obtain ⟨f, g1, g2⟩ := loop 81 0 (fun _ => 0) rfl (fun c hc => by omega)
  refine ⟨f, g1, gm_mk gm_mX0_init rfl ⟨Or.inl rfl, rfl, rfl, trivial⟩ (fun G X hC hX => ?_)⟩
  have h9 := g2 G X hC 3 243 hX
  refine gm_runs hC [30] 200 _ _ _ _ _ _ ?_
  exact And.intro (show ¬ (81 : Int32) < 0 from by decide) (And.intro (show ¬ (81 : Int32) < 0 from by decide) (And.intro (show ¬ (81 : Int32) < 0 from by decide) h9))
set_option maxRecDepth 4000 in
theorem k_stated {d : Nat} {f : Nat → Int32} : gm_Sp gm_MT (d + 1) 4000 [.ref 18] [.inr (6, [.ref 1, .ref 7, .ref 14, .null, .null]), .inr (4, [.ref 2, .ref 3, .ref 4, .ref 5, .ref 6, .int 0]), .inl (1, 120, .inl (fun _ => 0)), .inl (0, 120, .inl (fun _ => 0)), .inl (0, 120, .inl (fun _ => 0)), .inl (0, 120, .inl (fun _ => 0)), .inl (0, 120, .inl (fun _ => 0)), .inr (1, [.ref 8, .ref 11, .int 0, .int 32]), .inr (5, [.ref 9, .ref 10, .int 0, .int 0]), .inl (1, 81, .inl (fun _ => 0)), .inl (0, 81, .inl (fun _ => 0)), .inr (5, [.ref 12, .ref 13, .int 0, .int 0]), .inl (1, 81, .inl (fun _ => 0)), .inl (0, 81, .inl (fun _ => 0)), .inr (0, [.ref 15, .ref 16, .ref 17]), .inl (0, 81, .inl f), .inl (2, 81, .inl (fun _ => 0)), .inl (2, 81, .inl (fun _ => 0)), .inr (3, [.null, .null, .int 0, .int 0, .int 0, .int 0])] (.inl none) [.inr (6, [.ref 1, .ref 7, .ref 14, .null, .null]), .inr (4, [.ref 2, .ref 3, .ref 4, .ref 5, .ref 6, .int 0]), .inl (1, 120, .inl (fun _ => 0)), .inl (0, 120, .inl (fun _ => 0)), .inl (0, 120, .inl (fun _ => 0)), .inl (0, 120, .inl (fun _ => 0)), .inl (0, 120, .inl (fun _ => 0)), .inr (1, [.ref 8, .ref 11, .int 0, .int 32]), .inr (5, [.ref 9, .ref 10, .int 0, .int 0]), .inl (1, 81, .inl (fun _ => 0)), .inl (0, 81, .inl (fun _ => 0)), .inr (5, [.ref 12, .ref 13, .int 0, .int 0]), .inl (1, 81, .inl (fun _ => 0)), .inl (0, 81, .inl (fun _ => 0)), .inr (0, [.ref 15, .ref 16, .ref 17]), .inl (0, 81, .inl f), .inl (2, 81, .inl (fun _ => 0)), .inl (2, 81, .inl (fun _ => 0)), .inr (3, [.ref 19, .ref 20, .int 0, .int 0, .int 0, .int 0]), .inl (2, 6, .inl (fun _ => 0)), .inl (0, 6, .inl (fun _ => 0))] 2 12 := by
  refine gm_mk gm_mX3_init rfl ⟨Or.inl rfl, rfl, rfl, trivial⟩ (fun G X hC hX => ?_)
  refine gm_runs hC [] 200 _ _ _ _ _ _ ?_
  exact And.intro (show ¬ (6 : Int32) < 0 from by decide) (And.intro (show ¬ (6 : Int32) < 0 from by decide) (And.intro (Or.inl rfl) (And.intro (Or.inl rfl) hX)))
set_option maxRecDepth 4000 in
theorem k_search {d : Nat} {f : Nat → Int32} : gm_Sp gm_MT (d + 1) 3000 [.ref 21] [.inr (6, [.ref 1, .ref 7, .ref 14, .ref 18, .null]), .inr (4, [.ref 2, .ref 3, .ref 4, .ref 5, .ref 6, .int 0]), .inl (1, 120, .inl (fun _ => 0)), .inl (0, 120, .inl (fun _ => 0)), .inl (0, 120, .inl (fun _ => 0)), .inl (0, 120, .inl (fun _ => 0)), .inl (0, 120, .inl (fun _ => 0)), .inr (1, [.ref 8, .ref 11, .int 0, .int 32]), .inr (5, [.ref 9, .ref 10, .int 0, .int 0]), .inl (1, 81, .inl (fun _ => 0)), .inl (0, 81, .inl (fun _ => 0)), .inr (5, [.ref 12, .ref 13, .int 0, .int 0]), .inl (1, 81, .inl (fun _ => 0)), .inl (0, 81, .inl (fun _ => 0)), .inr (0, [.ref 15, .ref 16, .ref 17]), .inl (0, 81, .inl f), .inl (2, 81, .inl (fun _ => 0)), .inl (2, 81, .inl (fun _ => 0)), .inr (3, [.ref 19, .ref 20, .int 0, .int 0, .int 0, .int 0]), .inl (2, 6, .inl (fun _ => 0)), .inl (0, 6, .inl (fun _ => 0)), .inr (2, [.null, .null, .int 0])] (.inl none) [.inr (6, [.ref 1, .ref 7, .ref 14, .ref 18, .null]), .inr (4, [.ref 2, .ref 3, .ref 4, .ref 5, .ref 6, .int 0]), .inl (1, 120, .inl (fun _ => 0)), .inl (0, 120, .inl (fun _ => 0)), .inl (0, 120, .inl (fun _ => 0)), .inl (0, 120, .inl (fun _ => 0)), .inl (0, 120, .inl (fun _ => 0)), .inr (1, [.ref 8, .ref 11, .int 0, .int 32]), .inr (5, [.ref 9, .ref 10, .int 0, .int 0]), .inl (1, 81, .inl (fun _ => 0)), .inl (0, 81, .inl (fun _ => 0)), .inr (5, [.ref 12, .ref 13, .int 0, .int 0]), .inl (1, 81, .inl (fun _ => 0)), .inl (0, 81, .inl (fun _ => 0)), .inr (0, [.ref 15, .ref 16, .ref 17]), .inl (0, 81, .inl f), .inl (2, 81, .inl (fun _ => 0)), .inl (2, 81, .inl (fun _ => 0)), .inr (3, [.ref 19, .ref 20, .int 0, .int 0, .int 0, .int 0]), .inl (2, 6, .inl (fun _ => 0)), .inl (0, 6, .inl (fun _ => 0)), .inr (2, [.ref 22, .ref 23, .int 0]), .inl (0, 16, .inl (fun _ => 0)), .inl (0, 2176, .inl (fun _ => 0))] 2 2192 := by
  refine gm_mk gm_mX2_init rfl ⟨Or.inl rfl, rfl, rfl, trivial⟩ (fun G X hC hX => ?_)
  refine gm_runs hC [] 200 _ _ _ _ _ _ ?_
  exact And.intro (show ¬ (16 : Int32) < 0 from by decide) (And.intro (show ¬ (2176 : Int32) < 0 from by decide) (hX))
def kH (f : Nat → Int32) : pH := [.inr (6, [.ref 1, .ref 7, .ref 14, .ref 18, .ref 21]), .inr (4, [.ref 2, .ref 3, .ref 4, .ref 5, .ref 6, .int 0]), .inl (1, 120, .inl (fun _ => 0)), .inl (0, 120, .inl (fun _ => 0)), .inl (0, 120, .inl (fun _ => 0)), .inl (0, 120, .inl (fun _ => 0)), .inl (0, 120, .inl (fun _ => 0)), .inr (1, [.ref 8, .ref 11, .int 0, .int 32]), .inr (5, [.ref 9, .ref 10, .int 0, .int 0]), .inl (1, 81, .inl (fun _ => 0)), .inl (0, 81, .inl (fun _ => 0)), .inr (5, [.ref 12, .ref 13, .int 0, .int 0]), .inl (1, 81, .inl (fun _ => 0)), .inl (0, 81, .inl (fun _ => 0)), .inr (0, [.ref 15, .ref 16, .ref 17]), .inl (0, 81, .inl f), .inl (2, 81, .inl (fun _ => 0)), .inl (2, 81, .inl (fun _ => 0)), .inr (3, [.ref 19, .ref 20, .int 0, .int 0, .int 0, .int 0]), .inl (2, 6, .inl (fun _ => 0)), .inl (0, 6, .inl (fun _ => 0)), .inr (2, [.ref 22, .ref 23, .int 0]), .inl (0, 16, .inl (fun _ => 0)), .inl (0, 2176, .inl (fun _ => 0))]
set_option maxRecDepth 4000 in
theorem k_gimlet {d : Nat} : ∃ f : Nat → Int32, (∀ c, c < 81 → f c = nI (cTn c)) ∧ gm_Sp gm_MT (d + 5) 7000 [.ref 0] [.inr (6, [.null, .null, .null, .null, .null])] (.inl none) (kH f) 23 3401 := by
  obtain ⟨f, g1, g2⟩ := k_cubes (d := d)
  refine ⟨f, g1, gm_mk gm_mX6_init rfl ⟨Or.inl rfl, rfl, rfl, trivial⟩ (fun G X hC hX => ?_)⟩
  refine gm_runs hC [] 200 _ _ _ _ _ _ ?_
  exact ⟨_, _, _, k_terms (d := d + 3), ⟨_, _, _, k_rewriter (d := d + 2), ⟨_, _, _, g2, ⟨_, _, _, k_stated (d := d + 3), ⟨_, _, _, k_search (d := d + 3), hX⟩⟩⟩⟩⟩
set_option maxRecDepth 4000 in
theorem k_model {d : Nat} {f : Nat → Int32} : gm_Sp gm_MT (d + 1) 8000 [.ref 24] [.inr (6, [.ref 1, .ref 7, .ref 14, .ref 18, .ref 21]), .inr (4, [.ref 2, .ref 3, .ref 4, .ref 5, .ref 6, .int 0]), .inl (1, 120, .inl (fun _ => 0)), .inl (0, 120, .inl (fun _ => 0)), .inl (0, 120, .inl (fun _ => 0)), .inl (0, 120, .inl (fun _ => 0)), .inl (0, 120, .inl (fun _ => 0)), .inr (1, [.ref 8, .ref 11, .int 0, .int 32]), .inr (5, [.ref 9, .ref 10, .int 0, .int 0]), .inl (1, 81, .inl (fun _ => 0)), .inl (0, 81, .inl (fun _ => 0)), .inr (5, [.ref 12, .ref 13, .int 0, .int 0]), .inl (1, 81, .inl (fun _ => 0)), .inl (0, 81, .inl (fun _ => 0)), .inr (0, [.ref 15, .ref 16, .ref 17]), .inl (0, 81, .inl f), .inl (2, 81, .inl (fun _ => 0)), .inl (2, 81, .inl (fun _ => 0)), .inr (3, [.ref 19, .ref 20, .int 0, .int 0, .int 0, .int 0]), .inl (2, 6, .inl (fun _ => 0)), .inl (0, 6, .inl (fun _ => 0)), .inr (2, [.ref 22, .ref 23, .int 0]), .inl (0, 16, .inl (fun _ => 0)), .inl (0, 2176, .inl (fun _ => 0)), .inr (7, [.int 0, .int 0, .int 0, .int 0, .int 0, .int 0, .int 0, .null, .null, .null, .null, .null, .null, .null, .null, .int 0, .int 0, .int 0, .null, .null, .null, .null, .int 0])] (.inl none) [.inr (6, [.ref 1, .ref 7, .ref 14, .ref 18, .ref 21]), .inr (4, [.ref 2, .ref 3, .ref 4, .ref 5, .ref 6, .int 0]), .inl (1, 120, .inl (fun _ => 0)), .inl (0, 120, .inl (fun _ => 0)), .inl (0, 120, .inl (fun _ => 0)), .inl (0, 120, .inl (fun _ => 0)), .inl (0, 120, .inl (fun _ => 0)), .inr (1, [.ref 8, .ref 11, .int 0, .int 32]), .inr (5, [.ref 9, .ref 10, .int 0, .int 0]), .inl (1, 81, .inl (fun _ => 0)), .inl (0, 81, .inl (fun _ => 0)), .inr (5, [.ref 12, .ref 13, .int 0, .int 0]), .inl (1, 81, .inl (fun _ => 0)), .inl (0, 81, .inl (fun _ => 0)), .inr (0, [.ref 15, .ref 16, .ref 17]), .inl (0, 81, .inl f), .inl (2, 81, .inl (fun _ => 0)), .inl (2, 81, .inl (fun _ => 0)), .inr (3, [.ref 19, .ref 20, .int 0, .int 0, .int 0, .int 0]), .inl (2, 6, .inl (fun _ => 0)), .inl (0, 6, .inl (fun _ => 0)), .inr (2, [.ref 22, .ref 23, .int 0]), .inl (0, 16, .inl (fun _ => 0)), .inl (0, 2176, .inl (fun _ => 0)), .inr (7, [.int 0, .int 0, .int 0, .int 0, .int 0, .int 0, .int 0, .ref 25, .ref 26, .ref 27, .ref 28, .ref 29, .ref 30, .ref 31, .ref 32, .int 0, .int 0, .int 0, .ref 33, .ref 34, .ref 35, .ref 36, .int 0]), .inl (0, 120, .inl (fun _ => 0)), .inl (0, 120, .inl (fun _ => 0)), .inl (0, 120, .inl (fun _ => 0)), .inl (0, 120, .inl (fun _ => 0)), .inl (0, 120, .inl (fun _ => 0)), .inl (0, 6, .inl (fun _ => 0)), .inl (0, 6, .inl (fun _ => 0)), .inl (0, 6, .inl (fun _ => 0)), .inl (0, 160, .inl (fun _ => 0)), .inl (0, 160, .inl (fun _ => 0)), .inl (0, 8, .inl (fun _ => 0)), .inl (0, 8, .inl (fun _ => 0))] 12 954 := by
  refine gm_mk gm_mX7_init rfl ⟨Or.inl rfl, rfl, rfl, trivial⟩ (fun G X hC hX => ?_)
  refine gm_runs hC [4] 200 _ _ _ _ _ _ ?_
  show G 4 [some (.ref 24)] [] [.inr (6, [.ref 1, .ref 7, .ref 14, .ref 18, .ref 21]), .inr (4, [.ref 2, .ref 3, .ref 4, .ref 5, .ref 6, .int 0]), .inl (1, 120, .inl (fun _ => 0)), .inl (0, 120, .inl (fun _ => 0)), .inl (0, 120, .inl (fun _ => 0)), .inl (0, 120, .inl (fun _ => 0)), .inl (0, 120, .inl (fun _ => 0)), .inr (1, [.ref 8, .ref 11, .int 0, .int 32]), .inr (5, [.ref 9, .ref 10, .int 0, .int 0]), .inl (1, 81, .inl (fun _ => 0)), .inl (0, 81, .inl (fun _ => 0)), .inr (5, [.ref 12, .ref 13, .int 0, .int 0]), .inl (1, 81, .inl (fun _ => 0)), .inl (0, 81, .inl (fun _ => 0)), .inr (0, [.ref 15, .ref 16, .ref 17]), .inl (0, 81, .inl f), .inl (2, 81, .inl (fun _ => 0)), .inl (2, 81, .inl (fun _ => 0)), .inr (3, [.ref 19, .ref 20, .int 0, .int 0, .int 0, .int 0]), .inl (2, 6, .inl (fun _ => 0)), .inl (0, 6, .inl (fun _ => 0)), .inr (2, [.ref 22, .ref 23, .int 0]), .inl (0, 16, .inl (fun _ => 0)), .inl (0, 2176, .inl (fun _ => 0)), .inr (7, [.int 0, .int 0, .int 0, .int 0, .int 0, .int 0, .int 0, .null, .null, .null, .null, .null, .null, .null, .null, .int 0, .int 0, .int 0, .null, .null, .null, .null, .int 0])] 0 0
  refine gm_run1 hC [12] 200 4 ?_
  refine And.intro (show ¬ (120 : Int32) < 0 from by decide) ?_
  show G 12 [some (.ref 24)] [] [.inr (6, [.ref 1, .ref 7, .ref 14, .ref 18, .ref 21]), .inr (4, [.ref 2, .ref 3, .ref 4, .ref 5, .ref 6, .int 0]), .inl (1, 120, .inl (fun _ => 0)), .inl (0, 120, .inl (fun _ => 0)), .inl (0, 120, .inl (fun _ => 0)), .inl (0, 120, .inl (fun _ => 0)), .inl (0, 120, .inl (fun _ => 0)), .inr (1, [.ref 8, .ref 11, .int 0, .int 32]), .inr (5, [.ref 9, .ref 10, .int 0, .int 0]), .inl (1, 81, .inl (fun _ => 0)), .inl (0, 81, .inl (fun _ => 0)), .inr (5, [.ref 12, .ref 13, .int 0, .int 0]), .inl (1, 81, .inl (fun _ => 0)), .inl (0, 81, .inl (fun _ => 0)), .inr (0, [.ref 15, .ref 16, .ref 17]), .inl (0, 81, .inl f), .inl (2, 81, .inl (fun _ => 0)), .inl (2, 81, .inl (fun _ => 0)), .inr (3, [.ref 19, .ref 20, .int 0, .int 0, .int 0, .int 0]), .inl (2, 6, .inl (fun _ => 0)), .inl (0, 6, .inl (fun _ => 0)), .inr (2, [.ref 22, .ref 23, .int 0]), .inl (0, 16, .inl (fun _ => 0)), .inl (0, 2176, .inl (fun _ => 0)), .inr (7, [.int 0, .int 0, .int 0, .int 0, .int 0, .int 0, .int 0, .ref 25, .null, .null, .null, .null, .null, .null, .null, .int 0, .int 0, .int 0, .null, .null, .null, .null, .int 0]), .inl (0, 120, .inl (fun _ => 0))] 1 120
  refine gm_run1 hC [20] 200 12 ?_
  refine And.intro (show ¬ (120 : Int32) < 0 from by decide) ?_
  show G 20 [some (.ref 24)] [] [.inr (6, [.ref 1, .ref 7, .ref 14, .ref 18, .ref 21]), .inr (4, [.ref 2, .ref 3, .ref 4, .ref 5, .ref 6, .int 0]), .inl (1, 120, .inl (fun _ => 0)), .inl (0, 120, .inl (fun _ => 0)), .inl (0, 120, .inl (fun _ => 0)), .inl (0, 120, .inl (fun _ => 0)), .inl (0, 120, .inl (fun _ => 0)), .inr (1, [.ref 8, .ref 11, .int 0, .int 32]), .inr (5, [.ref 9, .ref 10, .int 0, .int 0]), .inl (1, 81, .inl (fun _ => 0)), .inl (0, 81, .inl (fun _ => 0)), .inr (5, [.ref 12, .ref 13, .int 0, .int 0]), .inl (1, 81, .inl (fun _ => 0)), .inl (0, 81, .inl (fun _ => 0)), .inr (0, [.ref 15, .ref 16, .ref 17]), .inl (0, 81, .inl f), .inl (2, 81, .inl (fun _ => 0)), .inl (2, 81, .inl (fun _ => 0)), .inr (3, [.ref 19, .ref 20, .int 0, .int 0, .int 0, .int 0]), .inl (2, 6, .inl (fun _ => 0)), .inl (0, 6, .inl (fun _ => 0)), .inr (2, [.ref 22, .ref 23, .int 0]), .inl (0, 16, .inl (fun _ => 0)), .inl (0, 2176, .inl (fun _ => 0)), .inr (7, [.int 0, .int 0, .int 0, .int 0, .int 0, .int 0, .int 0, .ref 25, .ref 26, .null, .null, .null, .null, .null, .null, .int 0, .int 0, .int 0, .null, .null, .null, .null, .int 0]), .inl (0, 120, .inl (fun _ => 0)), .inl (0, 120, .inl (fun _ => 0))] 2 240
  refine gm_run1 hC [28] 200 20 ?_
  refine And.intro (show ¬ (120 : Int32) < 0 from by decide) ?_
  show G 28 [some (.ref 24)] [] [.inr (6, [.ref 1, .ref 7, .ref 14, .ref 18, .ref 21]), .inr (4, [.ref 2, .ref 3, .ref 4, .ref 5, .ref 6, .int 0]), .inl (1, 120, .inl (fun _ => 0)), .inl (0, 120, .inl (fun _ => 0)), .inl (0, 120, .inl (fun _ => 0)), .inl (0, 120, .inl (fun _ => 0)), .inl (0, 120, .inl (fun _ => 0)), .inr (1, [.ref 8, .ref 11, .int 0, .int 32]), .inr (5, [.ref 9, .ref 10, .int 0, .int 0]), .inl (1, 81, .inl (fun _ => 0)), .inl (0, 81, .inl (fun _ => 0)), .inr (5, [.ref 12, .ref 13, .int 0, .int 0]), .inl (1, 81, .inl (fun _ => 0)), .inl (0, 81, .inl (fun _ => 0)), .inr (0, [.ref 15, .ref 16, .ref 17]), .inl (0, 81, .inl f), .inl (2, 81, .inl (fun _ => 0)), .inl (2, 81, .inl (fun _ => 0)), .inr (3, [.ref 19, .ref 20, .int 0, .int 0, .int 0, .int 0]), .inl (2, 6, .inl (fun _ => 0)), .inl (0, 6, .inl (fun _ => 0)), .inr (2, [.ref 22, .ref 23, .int 0]), .inl (0, 16, .inl (fun _ => 0)), .inl (0, 2176, .inl (fun _ => 0)), .inr (7, [.int 0, .int 0, .int 0, .int 0, .int 0, .int 0, .int 0, .ref 25, .ref 26, .ref 27, .null, .null, .null, .null, .null, .int 0, .int 0, .int 0, .null, .null, .null, .null, .int 0]), .inl (0, 120, .inl (fun _ => 0)), .inl (0, 120, .inl (fun _ => 0)), .inl (0, 120, .inl (fun _ => 0))] 3 360
  refine gm_run1 hC [36] 200 28 ?_
  refine And.intro (show ¬ (120 : Int32) < 0 from by decide) ?_
  show G 36 [some (.ref 24)] [] [.inr (6, [.ref 1, .ref 7, .ref 14, .ref 18, .ref 21]), .inr (4, [.ref 2, .ref 3, .ref 4, .ref 5, .ref 6, .int 0]), .inl (1, 120, .inl (fun _ => 0)), .inl (0, 120, .inl (fun _ => 0)), .inl (0, 120, .inl (fun _ => 0)), .inl (0, 120, .inl (fun _ => 0)), .inl (0, 120, .inl (fun _ => 0)), .inr (1, [.ref 8, .ref 11, .int 0, .int 32]), .inr (5, [.ref 9, .ref 10, .int 0, .int 0]), .inl (1, 81, .inl (fun _ => 0)), .inl (0, 81, .inl (fun _ => 0)), .inr (5, [.ref 12, .ref 13, .int 0, .int 0]), .inl (1, 81, .inl (fun _ => 0)), .inl (0, 81, .inl (fun _ => 0)), .inr (0, [.ref 15, .ref 16, .ref 17]), .inl (0, 81, .inl f), .inl (2, 81, .inl (fun _ => 0)), .inl (2, 81, .inl (fun _ => 0)), .inr (3, [.ref 19, .ref 20, .int 0, .int 0, .int 0, .int 0]), .inl (2, 6, .inl (fun _ => 0)), .inl (0, 6, .inl (fun _ => 0)), .inr (2, [.ref 22, .ref 23, .int 0]), .inl (0, 16, .inl (fun _ => 0)), .inl (0, 2176, .inl (fun _ => 0)), .inr (7, [.int 0, .int 0, .int 0, .int 0, .int 0, .int 0, .int 0, .ref 25, .ref 26, .ref 27, .ref 28, .null, .null, .null, .null, .int 0, .int 0, .int 0, .null, .null, .null, .null, .int 0]), .inl (0, 120, .inl (fun _ => 0)), .inl (0, 120, .inl (fun _ => 0)), .inl (0, 120, .inl (fun _ => 0)), .inl (0, 120, .inl (fun _ => 0))] 4 480
  refine gm_run1 hC [44] 200 36 ?_
  refine And.intro (show ¬ (120 : Int32) < 0 from by decide) ?_
  show G 44 [some (.ref 24)] [] [.inr (6, [.ref 1, .ref 7, .ref 14, .ref 18, .ref 21]), .inr (4, [.ref 2, .ref 3, .ref 4, .ref 5, .ref 6, .int 0]), .inl (1, 120, .inl (fun _ => 0)), .inl (0, 120, .inl (fun _ => 0)), .inl (0, 120, .inl (fun _ => 0)), .inl (0, 120, .inl (fun _ => 0)), .inl (0, 120, .inl (fun _ => 0)), .inr (1, [.ref 8, .ref 11, .int 0, .int 32]), .inr (5, [.ref 9, .ref 10, .int 0, .int 0]), .inl (1, 81, .inl (fun _ => 0)), .inl (0, 81, .inl (fun _ => 0)), .inr (5, [.ref 12, .ref 13, .int 0, .int 0]), .inl (1, 81, .inl (fun _ => 0)), .inl (0, 81, .inl (fun _ => 0)), .inr (0, [.ref 15, .ref 16, .ref 17]), .inl (0, 81, .inl f), .inl (2, 81, .inl (fun _ => 0)), .inl (2, 81, .inl (fun _ => 0)), .inr (3, [.ref 19, .ref 20, .int 0, .int 0, .int 0, .int 0]), .inl (2, 6, .inl (fun _ => 0)), .inl (0, 6, .inl (fun _ => 0)), .inr (2, [.ref 22, .ref 23, .int 0]), .inl (0, 16, .inl (fun _ => 0)), .inl (0, 2176, .inl (fun _ => 0)), .inr (7, [.int 0, .int 0, .int 0, .int 0, .int 0, .int 0, .int 0, .ref 25, .ref 26, .ref 27, .ref 28, .ref 29, .null, .null, .null, .int 0, .int 0, .int 0, .null, .null, .null, .null, .int 0]), .inl (0, 120, .inl (fun _ => 0)), .inl (0, 120, .inl (fun _ => 0)), .inl (0, 120, .inl (fun _ => 0)), .inl (0, 120, .inl (fun _ => 0)), .inl (0, 120, .inl (fun _ => 0))] 5 600
  refine gm_run1 hC [52] 200 44 ?_
  refine And.intro (show ¬ (6 : Int32) < 0 from by decide) ?_
  show G 52 [some (.ref 24)] [] [.inr (6, [.ref 1, .ref 7, .ref 14, .ref 18, .ref 21]), .inr (4, [.ref 2, .ref 3, .ref 4, .ref 5, .ref 6, .int 0]), .inl (1, 120, .inl (fun _ => 0)), .inl (0, 120, .inl (fun _ => 0)), .inl (0, 120, .inl (fun _ => 0)), .inl (0, 120, .inl (fun _ => 0)), .inl (0, 120, .inl (fun _ => 0)), .inr (1, [.ref 8, .ref 11, .int 0, .int 32]), .inr (5, [.ref 9, .ref 10, .int 0, .int 0]), .inl (1, 81, .inl (fun _ => 0)), .inl (0, 81, .inl (fun _ => 0)), .inr (5, [.ref 12, .ref 13, .int 0, .int 0]), .inl (1, 81, .inl (fun _ => 0)), .inl (0, 81, .inl (fun _ => 0)), .inr (0, [.ref 15, .ref 16, .ref 17]), .inl (0, 81, .inl f), .inl (2, 81, .inl (fun _ => 0)), .inl (2, 81, .inl (fun _ => 0)), .inr (3, [.ref 19, .ref 20, .int 0, .int 0, .int 0, .int 0]), .inl (2, 6, .inl (fun _ => 0)), .inl (0, 6, .inl (fun _ => 0)), .inr (2, [.ref 22, .ref 23, .int 0]), .inl (0, 16, .inl (fun _ => 0)), .inl (0, 2176, .inl (fun _ => 0)), .inr (7, [.int 0, .int 0, .int 0, .int 0, .int 0, .int 0, .int 0, .ref 25, .ref 26, .ref 27, .ref 28, .ref 29, .ref 30, .null, .null, .int 0, .int 0, .int 0, .null, .null, .null, .null, .int 0]), .inl (0, 120, .inl (fun _ => 0)), .inl (0, 120, .inl (fun _ => 0)), .inl (0, 120, .inl (fun _ => 0)), .inl (0, 120, .inl (fun _ => 0)), .inl (0, 120, .inl (fun _ => 0)), .inl (0, 6, .inl (fun _ => 0))] 6 606
  refine gm_run1 hC [60] 200 52 ?_
  refine And.intro (show ¬ (6 : Int32) < 0 from by decide) ?_
  show G 60 [some (.ref 24)] [] [.inr (6, [.ref 1, .ref 7, .ref 14, .ref 18, .ref 21]), .inr (4, [.ref 2, .ref 3, .ref 4, .ref 5, .ref 6, .int 0]), .inl (1, 120, .inl (fun _ => 0)), .inl (0, 120, .inl (fun _ => 0)), .inl (0, 120, .inl (fun _ => 0)), .inl (0, 120, .inl (fun _ => 0)), .inl (0, 120, .inl (fun _ => 0)), .inr (1, [.ref 8, .ref 11, .int 0, .int 32]), .inr (5, [.ref 9, .ref 10, .int 0, .int 0]), .inl (1, 81, .inl (fun _ => 0)), .inl (0, 81, .inl (fun _ => 0)), .inr (5, [.ref 12, .ref 13, .int 0, .int 0]), .inl (1, 81, .inl (fun _ => 0)), .inl (0, 81, .inl (fun _ => 0)), .inr (0, [.ref 15, .ref 16, .ref 17]), .inl (0, 81, .inl f), .inl (2, 81, .inl (fun _ => 0)), .inl (2, 81, .inl (fun _ => 0)), .inr (3, [.ref 19, .ref 20, .int 0, .int 0, .int 0, .int 0]), .inl (2, 6, .inl (fun _ => 0)), .inl (0, 6, .inl (fun _ => 0)), .inr (2, [.ref 22, .ref 23, .int 0]), .inl (0, 16, .inl (fun _ => 0)), .inl (0, 2176, .inl (fun _ => 0)), .inr (7, [.int 0, .int 0, .int 0, .int 0, .int 0, .int 0, .int 0, .ref 25, .ref 26, .ref 27, .ref 28, .ref 29, .ref 30, .ref 31, .null, .int 0, .int 0, .int 0, .null, .null, .null, .null, .int 0]), .inl (0, 120, .inl (fun _ => 0)), .inl (0, 120, .inl (fun _ => 0)), .inl (0, 120, .inl (fun _ => 0)), .inl (0, 120, .inl (fun _ => 0)), .inl (0, 120, .inl (fun _ => 0)), .inl (0, 6, .inl (fun _ => 0)), .inl (0, 6, .inl (fun _ => 0))] 7 612
  refine gm_run1 hC [68] 200 60 ?_
  refine And.intro (show ¬ (6 : Int32) < 0 from by decide) ?_
  show G 68 [some (.ref 24)] [] [.inr (6, [.ref 1, .ref 7, .ref 14, .ref 18, .ref 21]), .inr (4, [.ref 2, .ref 3, .ref 4, .ref 5, .ref 6, .int 0]), .inl (1, 120, .inl (fun _ => 0)), .inl (0, 120, .inl (fun _ => 0)), .inl (0, 120, .inl (fun _ => 0)), .inl (0, 120, .inl (fun _ => 0)), .inl (0, 120, .inl (fun _ => 0)), .inr (1, [.ref 8, .ref 11, .int 0, .int 32]), .inr (5, [.ref 9, .ref 10, .int 0, .int 0]), .inl (1, 81, .inl (fun _ => 0)), .inl (0, 81, .inl (fun _ => 0)), .inr (5, [.ref 12, .ref 13, .int 0, .int 0]), .inl (1, 81, .inl (fun _ => 0)), .inl (0, 81, .inl (fun _ => 0)), .inr (0, [.ref 15, .ref 16, .ref 17]), .inl (0, 81, .inl f), .inl (2, 81, .inl (fun _ => 0)), .inl (2, 81, .inl (fun _ => 0)), .inr (3, [.ref 19, .ref 20, .int 0, .int 0, .int 0, .int 0]), .inl (2, 6, .inl (fun _ => 0)), .inl (0, 6, .inl (fun _ => 0)), .inr (2, [.ref 22, .ref 23, .int 0]), .inl (0, 16, .inl (fun _ => 0)), .inl (0, 2176, .inl (fun _ => 0)), .inr (7, [.int 0, .int 0, .int 0, .int 0, .int 0, .int 0, .int 0, .ref 25, .ref 26, .ref 27, .ref 28, .ref 29, .ref 30, .ref 31, .ref 32, .int 0, .int 0, .int 0, .null, .null, .null, .null, .int 0]), .inl (0, 120, .inl (fun _ => 0)), .inl (0, 120, .inl (fun _ => 0)), .inl (0, 120, .inl (fun _ => 0)), .inl (0, 120, .inl (fun _ => 0)), .inl (0, 120, .inl (fun _ => 0)), .inl (0, 6, .inl (fun _ => 0)), .inl (0, 6, .inl (fun _ => 0)), .inl (0, 6, .inl (fun _ => 0))] 8 618
  refine gm_run1 hC [77] 200 68 ?_
  refine And.intro (show ¬ (160 : Int32) < 0 from by decide) ?_
  show G 77 [some (.ref 24)] [] [.inr (6, [.ref 1, .ref 7, .ref 14, .ref 18, .ref 21]), .inr (4, [.ref 2, .ref 3, .ref 4, .ref 5, .ref 6, .int 0]), .inl (1, 120, .inl (fun _ => 0)), .inl (0, 120, .inl (fun _ => 0)), .inl (0, 120, .inl (fun _ => 0)), .inl (0, 120, .inl (fun _ => 0)), .inl (0, 120, .inl (fun _ => 0)), .inr (1, [.ref 8, .ref 11, .int 0, .int 32]), .inr (5, [.ref 9, .ref 10, .int 0, .int 0]), .inl (1, 81, .inl (fun _ => 0)), .inl (0, 81, .inl (fun _ => 0)), .inr (5, [.ref 12, .ref 13, .int 0, .int 0]), .inl (1, 81, .inl (fun _ => 0)), .inl (0, 81, .inl (fun _ => 0)), .inr (0, [.ref 15, .ref 16, .ref 17]), .inl (0, 81, .inl f), .inl (2, 81, .inl (fun _ => 0)), .inl (2, 81, .inl (fun _ => 0)), .inr (3, [.ref 19, .ref 20, .int 0, .int 0, .int 0, .int 0]), .inl (2, 6, .inl (fun _ => 0)), .inl (0, 6, .inl (fun _ => 0)), .inr (2, [.ref 22, .ref 23, .int 0]), .inl (0, 16, .inl (fun _ => 0)), .inl (0, 2176, .inl (fun _ => 0)), .inr (7, [.int 0, .int 0, .int 0, .int 0, .int 0, .int 0, .int 0, .ref 25, .ref 26, .ref 27, .ref 28, .ref 29, .ref 30, .ref 31, .ref 32, .int 0, .int 0, .int 0, .ref 33, .null, .null, .null, .int 0]), .inl (0, 120, .inl (fun _ => 0)), .inl (0, 120, .inl (fun _ => 0)), .inl (0, 120, .inl (fun _ => 0)), .inl (0, 120, .inl (fun _ => 0)), .inl (0, 120, .inl (fun _ => 0)), .inl (0, 6, .inl (fun _ => 0)), .inl (0, 6, .inl (fun _ => 0)), .inl (0, 6, .inl (fun _ => 0)), .inl (0, 160, .inl (fun _ => 0))] 9 778
  refine gm_run1 hC [86] 200 77 ?_
  refine And.intro (show ¬ (160 : Int32) < 0 from by decide) ?_
  show G 86 [some (.ref 24)] [] [.inr (6, [.ref 1, .ref 7, .ref 14, .ref 18, .ref 21]), .inr (4, [.ref 2, .ref 3, .ref 4, .ref 5, .ref 6, .int 0]), .inl (1, 120, .inl (fun _ => 0)), .inl (0, 120, .inl (fun _ => 0)), .inl (0, 120, .inl (fun _ => 0)), .inl (0, 120, .inl (fun _ => 0)), .inl (0, 120, .inl (fun _ => 0)), .inr (1, [.ref 8, .ref 11, .int 0, .int 32]), .inr (5, [.ref 9, .ref 10, .int 0, .int 0]), .inl (1, 81, .inl (fun _ => 0)), .inl (0, 81, .inl (fun _ => 0)), .inr (5, [.ref 12, .ref 13, .int 0, .int 0]), .inl (1, 81, .inl (fun _ => 0)), .inl (0, 81, .inl (fun _ => 0)), .inr (0, [.ref 15, .ref 16, .ref 17]), .inl (0, 81, .inl f), .inl (2, 81, .inl (fun _ => 0)), .inl (2, 81, .inl (fun _ => 0)), .inr (3, [.ref 19, .ref 20, .int 0, .int 0, .int 0, .int 0]), .inl (2, 6, .inl (fun _ => 0)), .inl (0, 6, .inl (fun _ => 0)), .inr (2, [.ref 22, .ref 23, .int 0]), .inl (0, 16, .inl (fun _ => 0)), .inl (0, 2176, .inl (fun _ => 0)), .inr (7, [.int 0, .int 0, .int 0, .int 0, .int 0, .int 0, .int 0, .ref 25, .ref 26, .ref 27, .ref 28, .ref 29, .ref 30, .ref 31, .ref 32, .int 0, .int 0, .int 0, .ref 33, .ref 34, .null, .null, .int 0]), .inl (0, 120, .inl (fun _ => 0)), .inl (0, 120, .inl (fun _ => 0)), .inl (0, 120, .inl (fun _ => 0)), .inl (0, 120, .inl (fun _ => 0)), .inl (0, 120, .inl (fun _ => 0)), .inl (0, 6, .inl (fun _ => 0)), .inl (0, 6, .inl (fun _ => 0)), .inl (0, 6, .inl (fun _ => 0)), .inl (0, 160, .inl (fun _ => 0)), .inl (0, 160, .inl (fun _ => 0))] 10 938
  refine gm_run1 hC [94] 200 86 ?_
  refine And.intro (show ¬ (8 : Int32) < 0 from by decide) ?_
  show G 94 [some (.ref 24)] [] [.inr (6, [.ref 1, .ref 7, .ref 14, .ref 18, .ref 21]), .inr (4, [.ref 2, .ref 3, .ref 4, .ref 5, .ref 6, .int 0]), .inl (1, 120, .inl (fun _ => 0)), .inl (0, 120, .inl (fun _ => 0)), .inl (0, 120, .inl (fun _ => 0)), .inl (0, 120, .inl (fun _ => 0)), .inl (0, 120, .inl (fun _ => 0)), .inr (1, [.ref 8, .ref 11, .int 0, .int 32]), .inr (5, [.ref 9, .ref 10, .int 0, .int 0]), .inl (1, 81, .inl (fun _ => 0)), .inl (0, 81, .inl (fun _ => 0)), .inr (5, [.ref 12, .ref 13, .int 0, .int 0]), .inl (1, 81, .inl (fun _ => 0)), .inl (0, 81, .inl (fun _ => 0)), .inr (0, [.ref 15, .ref 16, .ref 17]), .inl (0, 81, .inl f), .inl (2, 81, .inl (fun _ => 0)), .inl (2, 81, .inl (fun _ => 0)), .inr (3, [.ref 19, .ref 20, .int 0, .int 0, .int 0, .int 0]), .inl (2, 6, .inl (fun _ => 0)), .inl (0, 6, .inl (fun _ => 0)), .inr (2, [.ref 22, .ref 23, .int 0]), .inl (0, 16, .inl (fun _ => 0)), .inl (0, 2176, .inl (fun _ => 0)), .inr (7, [.int 0, .int 0, .int 0, .int 0, .int 0, .int 0, .int 0, .ref 25, .ref 26, .ref 27, .ref 28, .ref 29, .ref 30, .ref 31, .ref 32, .int 0, .int 0, .int 0, .ref 33, .ref 34, .ref 35, .null, .int 0]), .inl (0, 120, .inl (fun _ => 0)), .inl (0, 120, .inl (fun _ => 0)), .inl (0, 120, .inl (fun _ => 0)), .inl (0, 120, .inl (fun _ => 0)), .inl (0, 120, .inl (fun _ => 0)), .inl (0, 6, .inl (fun _ => 0)), .inl (0, 6, .inl (fun _ => 0)), .inl (0, 6, .inl (fun _ => 0)), .inl (0, 160, .inl (fun _ => 0)), .inl (0, 160, .inl (fun _ => 0)), .inl (0, 8, .inl (fun _ => 0))] 11 946
  refine gm_run1 hC [102] 200 94 ?_
  refine And.intro (show ¬ (8 : Int32) < 0 from by decide) ?_
  show G 102 [some (.ref 24)] [] [.inr (6, [.ref 1, .ref 7, .ref 14, .ref 18, .ref 21]), .inr (4, [.ref 2, .ref 3, .ref 4, .ref 5, .ref 6, .int 0]), .inl (1, 120, .inl (fun _ => 0)), .inl (0, 120, .inl (fun _ => 0)), .inl (0, 120, .inl (fun _ => 0)), .inl (0, 120, .inl (fun _ => 0)), .inl (0, 120, .inl (fun _ => 0)), .inr (1, [.ref 8, .ref 11, .int 0, .int 32]), .inr (5, [.ref 9, .ref 10, .int 0, .int 0]), .inl (1, 81, .inl (fun _ => 0)), .inl (0, 81, .inl (fun _ => 0)), .inr (5, [.ref 12, .ref 13, .int 0, .int 0]), .inl (1, 81, .inl (fun _ => 0)), .inl (0, 81, .inl (fun _ => 0)), .inr (0, [.ref 15, .ref 16, .ref 17]), .inl (0, 81, .inl f), .inl (2, 81, .inl (fun _ => 0)), .inl (2, 81, .inl (fun _ => 0)), .inr (3, [.ref 19, .ref 20, .int 0, .int 0, .int 0, .int 0]), .inl (2, 6, .inl (fun _ => 0)), .inl (0, 6, .inl (fun _ => 0)), .inr (2, [.ref 22, .ref 23, .int 0]), .inl (0, 16, .inl (fun _ => 0)), .inl (0, 2176, .inl (fun _ => 0)), .inr (7, [.int 0, .int 0, .int 0, .int 0, .int 0, .int 0, .int 0, .ref 25, .ref 26, .ref 27, .ref 28, .ref 29, .ref 30, .ref 31, .ref 32, .int 0, .int 0, .int 0, .ref 33, .ref 34, .ref 35, .ref 36, .int 0]), .inl (0, 120, .inl (fun _ => 0)), .inl (0, 120, .inl (fun _ => 0)), .inl (0, 120, .inl (fun _ => 0)), .inl (0, 120, .inl (fun _ => 0)), .inl (0, 120, .inl (fun _ => 0)), .inl (0, 6, .inl (fun _ => 0)), .inl (0, 6, .inl (fun _ => 0)), .inl (0, 6, .inl (fun _ => 0)), .inl (0, 160, .inl (fun _ => 0)), .inl (0, 160, .inl (fun _ => 0)), .inl (0, 8, .inl (fun _ => 0)), .inl (0, 8, .inl (fun _ => 0))] 12 954
  refine gm_run1 hC [] 200 102 ?_
  exact hX