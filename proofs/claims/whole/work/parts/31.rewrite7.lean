/-! REWRITING: the reference's step as a whole -/
section X
variable {nw nx : Nat} {LO : Nat → Int64} {DO : Nat → UInt64} {d : Nat} {A : Nat → Nat → Int32} {F : Nat → Int32} {l o : List Int32}
set_option maxRecDepth 4000 in
theorem s_rew7_back {v1 v2 v3 v4 v5 : Int32} (ho : o.length ≤ 40) (hF : F 30 = nI o.length) : ∀ (m j : Nat) (A : Nat → Nat → Int32), j + m = o.length → (∀ t, t < j → A 33 t = A 34 t) → gR (A 34) o → ∃ f, gR f o ∧ ∀ (o7 : Option Value), (o7 = none ∨ ∃ b : Int32, o7 = some (.int b)) → ∀ (G : pG) (X : pX), gm_cl gm_mX7_rewrite gm_tyf none (gm_Sp gm_MT (d + 4)) G X → X (.inl (some (.int 1))) (gw (va_up A 33 f) (va_up F 24 (nI o.length)) nw nx LO DO) 0 0 → G 474 [some (.ref 24), some (.int v1), some (.int v2), some (.int v3), some (.int v4), some (.int v5), some (.int (nI j)), o7] [] (gw A F nw nx LO DO) 0 0 := by
  intro m
  induction m with
  | zero =>
    intro j A hj hA hr
    refine ⟨A 33, fun t ht => ?_, fun o7 h7 G X hC hX => ?_⟩
    · rw [hA t (by omega)]
      exact hr t ht
    · rw [g_upS rfl, ← hF] at hX
      rcases h7 with rfl | ⟨b, rfl⟩
      all_goals
        refine gm_run1 hC [474] 200 474 ?_
        exact gx_t (show F 30 ≤ nI j from by rw [hF]; exact nI_le (by omega) (by omega)) (gx_z hX (Or.inr rfl) rfl rfl)
  | succ m ih =>
    intro j A hj hA hr
    have hcl : (nI j).toNatClampNeg = j := nI_clamp (by omega)
    obtain ⟨f, hf, hrun⟩ := ih (j + 1) (va_up A 33 (upd (A 33) (nI j).toNatClampNeg (A 34 (nI j).toNatClampNeg))) (by omega) (fun t ht => by
      rw [g_upe, g_upn (by decide), hcl]
      by_cases he : t = j
      · subst he; simp [upd]
      · have := hA t (by omega)
        simp [upd, he, this]) (by rw [g_upn (by decide)]; exact hr)
    refine ⟨f, hf, fun o7 h7 G X hC hX => ?_⟩
    have h9 := hrun o7 h7 G X hC (by rw [g_up2]; exact hX)
    rw [← nI_1] at h9
    have hvp := vp_in_nI (n := j) (N := 160) (by omega) (by omega)
    have hlt : ¬ F 30 ≤ nI j := by rw [hF]; exact nI_ge (by omega) (by omega)
    clear ih hrun
    rcases h7 with rfl | ⟨b, rfl⟩
    all_goals
      refine gm_run1 hC [474] 200 474 ?_
      exact gx_f hlt (And.intro hvp (And.intro hvp h9))
set_option maxRecDepth 4000 in
theorem s_rewrite7 (h : gMt A F l) {i : Nat} (il : i < l.length) (hru : ¬ tRule l i = 32) : (¬ (tRew l i).length ≤ 40 → ∃ A' F', gMt A' F' l ∧ gKm A F A' F' ∧ gm_Sp gm_MT (d + 5) 8034 [.ref 24, .int (nI i)] (gw A F nw nx LO DO) (.inl (some (.int 0))) (gw A' F' nw nx LO DO) 0 0) ∧ ((tRew l i).length ≤ 40 → ∃ A' F', gMt A' F' (tRew l i) ∧ gKm A F A' F' ∧ gm_Sp gm_MT (d + 5) 8034 [.ref 24, .int (nI i)] (gw A F nw nx LO DO) (.inl (some (.int 1))) (gw A' F' nw nx LO DO) 0 0) := by
  have hm := h
  obtain ⟨n1, n2, n3, hv, n5⟩ := h
  have hg := tE_gt il
  have hl := tE_le (l := l) (Nat.le_of_lt il)
  obtain ⟨lenE, lenB⟩ := tRew_len hv il hru
  have w0 : gM2 A F l [] A (va_up F 30 0) := by
    refine ⟨⟨n1, ?_, n3, hv, n5⟩, ?_, fun j hj => absurd hj (Nat.not_lt_zero _), fun _ _ => rfl, fun j hj => g_upn hj⟩
    · rw [g_upn (by decide)]; exact n2
    · rw [g_upe]; rfl
  have hR := s_ruleAt7 (A := A) (F := F) (nw := nw) (nx := nx) (LO := LO) (DO := DO) (d := d) n1 (by omega) hv il
  have hE := s_behind (A := A) (F := F) (nw := nw) (nx := nx) (LO := LO) (DO := DO) (d := d + 2) n1 (by omega) hv il
  obtain ⟨vp, ep⟩ := s_textAt (A := A) n1 (by omega) il
  obtain ⟨A1, F1, w1, s1⟩ := gM2.part (nw := nw) (nx := nx) (LO := LO) (DO := DO) (d := d + 3) (a := 0) (b := i) w0 (Nat.zero_le _) (Nat.le_of_lt il) (by simp; omega)
  have e0 : ([] ++ tSl l 0 i : List Int32) = l.take i := by simp [tSl]
  rw [e0] at w1
  rw [show nI 0 = 0 from rfl] at s1
  obtain ⟨A2, F2, w2, r2⟩ := s_rew7 (nw := nw) (nx := nx) (LO := LO) (DO := DO) (d := d) w1 il hru (by rw [List.length_take]; omega)
  have lenT : (l.take i ++ tBody l i (tRule l i)).length = i + (tBody l i (tRule l i)).length := by rw [List.length_append, List.length_take]; omega
  obtain ⟨A3, F3, w3, s3⟩ := gM2.part (nw := nw) (nx := nx) (LO := LO) (DO := DO) (d := d + 3) (a := tE l i) (b := l.length) w2 hl (Nat.le_refl _) (by rw [lenT]; omega)
  have eT : l.take i ++ tBody l i (tRule l i) ++ tSl l (tE l i) l.length = tRew l i := by
    unfold tRew tSl
    congr 1
    exact List.take_of_length_le (by rw [List.length_drop]; omega)
  rw [eT] at w3
  rw [← w2.1.2.1] at s3
  have hF3 := w3.2.1
  have front : ∀ (G : pG) (X : pX), gm_cl gm_mX7_rewrite gm_tyf none (gm_Sp gm_MT (d + 4)) G X → G 36 [some (.ref 24), some (.int (nI i)), some (.int (tRule l i)), some (.int (l.getD i 32)), some (.int (nI (i + 1))), some (.int (nI (tE l i))), none, none] [] (gw A1 F1 nw nx LO DO) 0 0 → G 0 (gm_args 8 [.ref 24, .int (nI i)]) [] (gw A F nw nx LO DO) 0 0 := by
    intro G X hC h9
    rw [← ep, ← nI_1 i] at h9
    refine gm_runs hC [36] 200 _ _ _ _ _ _ ?_
    exact Or.inl ⟨_, _, _, _, hR, And.intro vp (Or.inl ⟨_, _, _, _, hE, Or.inl ⟨_, _, _, _, s1, h9⟩⟩)⟩
  constructor
  · intro hlong
    refine ⟨A3, F3, w3.1, ⟨fun j a b => w3.2.2.2.1 j b, fun j a b => w3.2.2.2.2 j b⟩, gm_mk gm_mX7_rewrite rfl ⟨Or.inr rfl, rfl, rfl, trivial⟩ (fun G X hC hX => front G X hC (r2 G X hC (fun o6 o7 h67 => ?_)))⟩
    have hgt : ¬ F3 30 ≤ nI 40 := by rw [hF3]; exact nI_ge (by omega) (by omega)
    rcases h67 with ⟨rfl, rfl⟩ | ⟨a, rfl, rfl⟩ | ⟨a, b, rfl, rfl⟩
    all_goals
      refine gm_run1 hC [450, 474] 200 450 ?_
      exact Or.inl ⟨_, _, _, _, s3, gx_f hgt (gx_z hX (Or.inl rfl) rfl rfl)⟩
  · intro hshort
    have kp : ∀ f, gKm A F (va_up A3 33 f) (va_up F3 24 (nI (tRew l i).length)) := fun f => ⟨fun j a b => by rw [g_upn a]; exact w3.2.2.2.1 j b, fun j a b => by rw [g_upn a]; exact w3.2.2.2.2 j b⟩
    have hmt : ∀ f, gR f (tRew l i) → gMt (va_up A3 33 f) (va_up F3 24 (nI (tRew l i).length)) (tRew l i) := fun f hf => ⟨by rw [g_upe]; exact hf, by rw [g_upe], hshort, tRew_V hv il hru, tRew_ch n5 i⟩
    have hle : F3 30 ≤ nI 40 := by rw [hF3]; exact nI_le hshort (by omega)
    obtain ⟨f, hf, hb⟩ := s_rew7_back (nw := nw) (nx := nx) (LO := LO) (DO := DO) (d := d) (v1 := nI i) (v2 := tRule l i) (v3 := l.getD i 32) (v4 := nI (i + 1)) (v5 := nI (tE l i)) hshort hF3 (tRew l i).length 0 A3 (by omega) (fun t ht => absurd ht (Nat.not_lt_zero _)) w3.2.2.1
    refine ⟨_, _, hmt f hf, kp f, gm_mk gm_mX7_rewrite rfl ⟨Or.inr rfl, rfl, rfl, trivial⟩ (fun G X hC hX => front G X hC (r2 G X hC (fun o6 o7 h67 => ?_)))⟩
    have h0 := fun o7 h => hb o7 h G X hC hX
    clear hb
    rcases h67 with ⟨rfl, rfl⟩ | ⟨a, rfl, rfl⟩ | ⟨a, b, rfl, rfl⟩
    · have h9 := h0 none (Or.inl rfl)
      refine gm_run1 hC [450, 474] 200 450 ?_
      exact Or.inl ⟨_, _, _, _, s3, gx_t hle h9⟩
    · have h9 := h0 none (Or.inl rfl)
      refine gm_run1 hC [450, 474] 200 450 ?_
      exact Or.inl ⟨_, _, _, _, s3, gx_t hle h9⟩
    · have h9 := h0 (some (.int b)) (Or.inr ⟨b, rfl⟩)
      refine gm_run1 hC [450, 474] 200 450 ?_
      exact Or.inl ⟨_, _, _, _, s3, gx_t hle h9⟩
end X