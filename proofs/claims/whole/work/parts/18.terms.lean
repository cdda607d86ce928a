/-! TERMS: what its methods answer -/
theorem gm_m1 : gm_lit (-1) = -1 := by decide
theorem g_le {a b : Nat} (ha : a < 2 ^ 31) (hb : b < 2 ^ 31) (h : ¬ b ≤ a) : ¬ nI b ≤ nI a := fun z => h ((nI_leI hb ha).mp z)
def gFind (K L R : Nat → Int32) (k l r : Int32) : Nat → Nat → Option Nat
  | 0, _ => none
  | m + 1, i => if K i = k ∧ L i = l ∧ R i = r then some i else gFind K L R k l r m (i + 1)
theorem gFind_lt {K L R : Nat → Int32} {k l r : Int32} : ∀ {m i j : Nat}, gFind K L R k l r m i = some j → i ≤ j ∧ j < i + m ∧ K j = k ∧ L j = l ∧ R j = r
  | 0, i, j, h => by simp [gFind] at h
  | m + 1, i, j, h => by
    unfold gFind at h
    split at h
    · rename_i hc
      cases h
      exact ⟨Nat.le_refl _, by omega, hc⟩
    · obtain ⟨h1, h2, h3⟩ := gFind_lt h
      exact ⟨by omega, by omega, h3⟩
def gCov (k l r : Int32) : Int32 := if k = 49 then 65535 else if k = 67 then 65535 &&& (l ^^^ (-1)) else if k = 68 then l &&& (r ^^^ (-1)) else if k = 73 then l &&& r else if k = 83 then l ^^^ r else if k = 85 then l ||| r else if k = 97 then 43690 else if k = 98 then 52428 else if k = 99 then 61680 else if k = 100 then 65280 else 0
section T
variable {A : Nat → Nat → Int32} {F : Nat → Int32} {nw nx : Nat} {LO : Nat → Int64} {DO : Nat → UInt64} {d n : Nat}
theorem s_isKnown (t : Int32) (hn : n ≤ 120) (hF : F 0 = nI n) : gm_Sp gm_MT (d + 1) 5002 [.ref 1, .int t] (gw A F nw nx LO DO) (.inl (some (.int (gB (gT n t).isSome)))) (gw A F nw nx LO DO) 0 0 := by
  refine gm_mk gm_mX4_isKnown rfl ⟨Or.inr rfl, rfl, rfl, trivial⟩ (fun G X hC hX => ?_)
  refine gm_runs hC [] 200 _ _ _ _ _ _ ?_
  rcases gT_cases t hn with ⟨j, hj, rfl, hg⟩ | ⟨hg, hz⟩
  · rw [hg] at hX
    have h1 : ¬ nI j < 0 := nI_pos (by omega)
    have h2 : ¬ F 0 ≤ nI j := by rw [hF]; exact nI_ge hj (by omega)
    have h3 : ¬ nI 120 ≤ nI j := nI_ge (by omega) (by omega)
    exact And.intro (fun c => absurd c h1) (fun _ => And.intro (fun c => absurd c h2) (fun _ => And.intro (fun c => absurd c h3) (fun _ => gx_z hX (gB_01 _) rfl rfl)))
  · rw [hg] at hX
    have k0 := gx_z hX (gB_01 _) (v := 0) rfl rfl
    refine And.intro (fun c => k0) (fun c1 => And.intro (fun c => k0) (fun c2 => And.intro (fun c => k0) (fun _ => ?_)))
    exact absurd (hz.resolve_left c1) (by rw [← hF]; exact c2)

theorem s_sizeOf (t : Int32) (hn : n ≤ 120) (hF : F 0 = nI n) : gm_Sp gm_MT (d + 2) 5003 [.ref 1, .int t] (gw A F nw nx LO DO) (.inl (some (.int (gO (A 5) (gT n t) 0)))) (gw A F nw nx LO DO) 0 0 := by
  refine gm_mk gm_mX4_sizeOf rfl ⟨Or.inr rfl, rfl, rfl, trivial⟩ (fun G X hC hX => ?_)
  refine gm_runs hC [] 200 _ _ _ _ _ _ ?_
  refine Or.inl ⟨_, _, _, _, s_isKnown t hn hF, ?_⟩
  rcases gT_cases t hn with ⟨j, hj, rfl, hg⟩ | ⟨hg, hz⟩
  · rw [hg] at hX ⊢
    refine And.intro (fun c => absurd (show (1 : Int32) = 0 from c) (by decide)) (fun _ => And.intro (vp_in_nI (by omega) (by omega)) ?_)
    exact gx_i hX (by rw [nI_clamp (by omega)]; rfl) rfl
  · rw [hg] at hX ⊢
    exact And.intro (fun _ => gx_i hX rfl rfl) (fun c => absurd rfl c)

theorem s_coverOf (t : Int32) (hn : n ≤ 120) (hF : F 0 = nI n) : gm_Sp gm_MT (d + 2) 5004 [.ref 1, .int t] (gw A F nw nx LO DO) (.inl (some (.int (gO (A 6) (gT n t) 0)))) (gw A F nw nx LO DO) 0 0 := by
  refine gm_mk gm_mX4_coverOf rfl ⟨Or.inr rfl, rfl, rfl, trivial⟩ (fun G X hC hX => ?_)
  refine gm_runs hC [] 200 _ _ _ _ _ _ ?_
  refine Or.inl ⟨_, _, _, _, s_isKnown t hn hF, ?_⟩
  rcases gT_cases t hn with ⟨j, hj, rfl, hg⟩ | ⟨hg, hz⟩
  · rw [hg] at hX ⊢
    refine And.intro (fun c => absurd (show (1 : Int32) = 0 from c) (by decide)) (fun _ => And.intro (vp_in_nI (by omega) (by omega)) ?_)
    exact gx_i hX (by rw [nI_clamp (by omega)]; rfl) rfl
  · rw [hg] at hX ⊢
    exact And.intro (fun _ => gx_i hX rfl rfl) (fun c => absurd rfl c)

theorem s_leftOf (t : Int32) (hn : n ≤ 120) (hF : F 0 = nI n) : gm_Sp gm_MT (d + 2) 5006 [.ref 1, .int t] (gw A F nw nx LO DO) (.inl (some (.int (gO (A 3) (gT n t) (-1))))) (gw A F nw nx LO DO) 0 0 := by
  refine gm_mk gm_mX4_leftOf rfl ⟨Or.inr rfl, rfl, rfl, trivial⟩ (fun G X hC hX => ?_)
  refine gm_runs hC [] 200 _ _ _ _ _ _ ?_
  refine Or.inl ⟨_, _, _, _, s_isKnown t hn hF, ?_⟩
  rcases gT_cases t hn with ⟨j, hj, rfl, hg⟩ | ⟨hg, hz⟩
  · rw [hg] at hX ⊢
    refine And.intro (fun c => absurd (show (1 : Int32) = 0 from c) (by decide)) (fun _ => And.intro (vp_in_nI (by omega) (by omega)) ?_)
    exact gx_i hX (by rw [nI_clamp (by omega)]; rfl) rfl
  · rw [hg] at hX ⊢
    exact And.intro (fun _ => gx_i hX rfl rfl) (fun c => absurd rfl c)

theorem s_rightOf (t : Int32) (hn : n ≤ 120) (hF : F 0 = nI n) : gm_Sp gm_MT (d + 2) 5007 [.ref 1, .int t] (gw A F nw nx LO DO) (.inl (some (.int (gO (A 4) (gT n t) (-1))))) (gw A F nw nx LO DO) 0 0 := by
  refine gm_mk gm_mX4_rightOf rfl ⟨Or.inr rfl, rfl, rfl, trivial⟩ (fun G X hC hX => ?_)
  refine gm_runs hC [] 200 _ _ _ _ _ _ ?_
  refine Or.inl ⟨_, _, _, _, s_isKnown t hn hF, ?_⟩
  rcases gT_cases t hn with ⟨j, hj, rfl, hg⟩ | ⟨hg, hz⟩
  · rw [hg] at hX ⊢
    refine And.intro (fun c => absurd (show (1 : Int32) = 0 from c) (by decide)) (fun _ => And.intro (vp_in_nI (by omega) (by omega)) ?_)
    exact gx_i hX (by rw [nI_clamp (by omega)]; rfl) rfl
  · rw [hg] at hX ⊢
    exact And.intro (fun _ => gx_i hX rfl rfl) (fun c => absurd rfl c)

theorem s_headOf (t : Int32) (hn : n ≤ 120) (hc : ∀ j, j < n → 0 ≤ A 2 j ∧ A 2 j ≤ 65535) (hF : F 0 = nI n) : gm_Sp gm_MT (d + 2) 5005 [.ref 1, .int t] (gw A F nw nx LO DO) (.inl (some (.int (gO (A 2) (gT n t) 32)))) (gw A F nw nx LO DO) 0 0 := by
  refine gm_mk gm_mX4_headOf rfl ⟨Or.inr rfl, rfl, rfl, trivial⟩ (fun G X hC hX => ?_)
  refine gm_runs hC [] 200 _ _ _ _ _ _ ?_
  refine Or.inl ⟨_, _, _, _, s_isKnown t hn hF, ?_⟩
  rcases gT_cases t hn with ⟨j, hj, rfl, hg⟩ | ⟨hg, hz⟩
  · rw [hg] at hX ⊢
    refine And.intro (fun c => absurd (show (1 : Int32) = 0 from c) (by decide)) (fun _ => And.intro (vp_in_nI (by omega) (by omega)) ?_)
    exact gx_c hX (hc j hj) (by rw [nI_clamp (by omega)]; rfl) rfl
  · rw [hg] at hX ⊢
    exact And.intro (fun _ => gx_c hX (by show (0 : Int32) ≤ 32 ∧ (32 : Int32) ≤ 65535; decide) rfl rfl) (fun c => absurd rfl c)

theorem s_howManyT : gm_Sp gm_MT (d + 1) 5001 [.ref 1] (gw A F nw nx LO DO) (.inl (some (.int (F 0)))) (gw A F nw nx LO DO) 0 0 := by
  refine gm_mk gm_mX4_howMany rfl ⟨Or.inr rfl, rfl, rfl, trivial⟩ (fun G X hC hX => ?_)
  exact gm_runs hC [] 200 _ _ _ _ _ _ hX
theorem s_find (k l r : Int32) (hn : n ≤ 120) (hF : F 0 = nI n) : gm_Sp gm_MT (d + 1) 5010 [.ref 1, .int k, .int l, .int r] (gw A F nw nx LO DO) (.inl (some (.int (gOI (gFind (A 2) (A 3) (A 4) k l r n 0))))) (gw A F nw nx LO DO) 0 0 := by
  refine gm_mk gm_mX4_find rfl ⟨Or.inr rfl, rfl, rfl, trivial⟩ (fun G X hC hX => ?_)
  have loop : ∀ (m i : Nat), i + m = n → X (.inl (some (.int (gOI (gFind (A 2) (A 3) (A 4) k l r m i))))) (gw A F nw nx LO DO) 0 0 → G 3 [some (.ref 1), some (.int k), some (.int l), some (.int r), some (.int (nI i))] [] (gw A F nw nx LO DO) 0 0 := by
    intro m
    induction m with
    | zero =>
      intro i hi hY
      have hin : i = n := by omega
      have hY : X (.inl (some (.int (-1)))) (gw A F nw nx LO DO) 0 0 := hY
      refine gm_run1 hC [3] 200 3 ?_
      exact And.intro (fun _ => gx_i hY gm_m1 rfl) (fun c => absurd (show F 0 ≤ nI i by rw [hF, hin]; exact Int32.le_refl _) c)
    | succ m ih =>
      intro i hi hX
      refine gm_run1 hC [3] 200 3 ?_
      have hin := vp_in_nI (n := i) (N := 120) (by omega) (by omega)
      have hcl : (nI i).toNatClampNeg = i := nI_clamp (by omega)
      have nxt : ¬ (A 2 i = k ∧ A 3 i = l ∧ A 4 i = r) → G 3 [some (.ref 1), some (.int k), some (.int l), some (.int r), some (.int (nI i + 1))] [] (gw A F nw nx LO DO) 0 0 := by
        intro hne
        rw [nI_1]
        refine ih (i + 1) (by omega) ?_
        unfold gFind at hX
        rw [if_neg hne] at hX
        exact hX
      refine And.intro (fun c => absurd c (by show ¬ F 0 ≤ nI i; rw [hF]; exact nI_ge (by omega) (by omega))) (fun _ => And.intro (fun c => absurd (show nI 120 ≤ nI i from c) (nI_ge (by omega) (by omega))) (fun _ => And.intro hin (And.intro (fun c => nxt (fun z => c (by show A 2 (nI i).toNatClampNeg = k; rw [hcl]; exact z.1))) (fun c1 => And.intro hin (And.intro (fun c => nxt (fun z => c (by show A 3 (nI i).toNatClampNeg = l; rw [hcl]; exact z.2.1))) (fun c2 => And.intro hin (And.intro (fun c => nxt (fun z => c (by show A 4 (nI i).toNatClampNeg = r; rw [hcl]; exact z.2.2))) (fun c3 => ?_))))))))
      have d1 : A 2 (nI i).toNatClampNeg = k := Decidable.of_not_not c1
      have d2 : A 3 (nI i).toNatClampNeg = l := Decidable.of_not_not c2
      have d3 : A 4 (nI i).toNatClampNeg = r := Decidable.of_not_not c3
      rw [hcl] at d1 d2 d3
      unfold gFind at hX
      rw [if_pos ⟨d1, d2, d3⟩] at hX
      exact gx_i hX rfl rfl
  refine gm_runs hC [3] 200 _ _ _ _ _ _ ?_
  exact loop n 0 (by omega) hX

theorem s_coverFrom (k l r : Int32) : gm_Sp gm_MT (d + 1) 5011 [.int k, .int l, .int r] (gw A F nw nx LO DO) (.inl (some (.int (gCov k l r)))) (gw A F nw nx LO DO) 0 0 := by
  refine gm_mk gm_mX4_coverFrom rfl ⟨Or.inr rfl, rfl, rfl, trivial⟩ (fun G X hC hX => ?_)
  refine gm_runs hC [] 200 _ _ _ _ _ _ ?_
  exact And.intro (fun (c49 : k = 49) => gx_i hX (by subst c49; unfold gCov; rw [if_pos rfl]; try rw [gm_m1]; try rfl) rfl) (fun (c49 : ¬ k = 49) => And.intro (fun (c67 : k = 67) => gx_i hX (by subst c67; unfold gCov; rw [if_neg (by decide), if_pos rfl]; try rw [gm_m1]; try rfl) rfl) (fun (c67 : ¬ k = 67) => And.intro (fun (c68 : k = 68) => gx_i hX (by subst c68; unfold gCov; rw [if_neg (by decide), if_neg (by decide), if_pos rfl]; try rw [gm_m1]; try rfl) rfl) (fun (c68 : ¬ k = 68) => And.intro (fun (c73 : k = 73) => gx_i hX (by subst c73; unfold gCov; rw [if_neg (by decide), if_neg (by decide), if_neg (by decide), if_pos rfl]; try rw [gm_m1]; try rfl) rfl) (fun (c73 : ¬ k = 73) => And.intro (fun (c83 : k = 83) => gx_i hX (by subst c83; unfold gCov; rw [if_neg (by decide), if_neg (by decide), if_neg (by decide), if_neg (by decide), if_pos rfl]; try rw [gm_m1]; try rfl) rfl) (fun (c83 : ¬ k = 83) => And.intro (fun (c85 : k = 85) => gx_i hX (by subst c85; unfold gCov; rw [if_neg (by decide), if_neg (by decide), if_neg (by decide), if_neg (by decide), if_neg (by decide), if_pos rfl]; try rw [gm_m1]; try rfl) rfl) (fun (c85 : ¬ k = 85) => And.intro (fun (c97 : k = 97) => gx_i hX (by subst c97; unfold gCov; rw [if_neg (by decide), if_neg (by decide), if_neg (by decide), if_neg (by decide), if_neg (by decide), if_neg (by decide), if_pos rfl]; try rw [gm_m1]; try rfl) rfl) (fun (c97 : ¬ k = 97) => And.intro (fun (c98 : k = 98) => gx_i hX (by subst c98; unfold gCov; rw [if_neg (by decide), if_neg (by decide), if_neg (by decide), if_neg (by decide), if_neg (by decide), if_neg (by decide), if_neg (by decide), if_pos rfl]; try rw [gm_m1]; try rfl) rfl) (fun (c98 : ¬ k = 98) => And.intro (fun (c99 : k = 99) => gx_i hX (by subst c99; unfold gCov; rw [if_neg (by decide), if_neg (by decide), if_neg (by decide), if_neg (by decide), if_neg (by decide), if_neg (by decide), if_neg (by decide), if_neg (by decide), if_pos rfl]; try rw [gm_m1]; try rfl) rfl) (fun (c99 : ¬ k = 99) => And.intro (fun (c100 : k = 100) => gx_i hX (by subst c100; unfold gCov; rw [if_neg (by decide), if_neg (by decide), if_neg (by decide), if_neg (by decide), if_neg (by decide), if_neg (by decide), if_neg (by decide), if_neg (by decide), if_neg (by decide), if_pos rfl]; try rw [gm_m1]; try rfl) rfl) (fun (c100 : ¬ k = 100) => gx_i hX (by unfold gCov; rw [if_neg c49, if_neg c67, if_neg c68, if_neg c73, if_neg c83, if_neg c85, if_neg c97, if_neg c98, if_neg c99, if_neg c100]; rfl) rfl))))))))))
/-- the tables with a term more -/
def gmkA (A : Nat → Nat → Int32) (i : Nat) (k l r sz cv : Int32) : Nat → Nat → Int32 := va_up (va_up (va_up (va_up (va_up A 2 (upd (A 2) i k)) 3 (upd (A 3) i l)) 4 (upd (A 4) i r)) 5 (upd (A 5) i sz)) 6 (upd (A 6) i cv)
def gmkS (A : Nat → Nat → Int32) (n : Nat) (l r : Int32) : Int32 := 1 + gO (A 5) (gT n l) 0 + gO (A 5) (gT n r) 0
theorem s_make1 (k l r : Int32) (hn : n ≤ 120) (hF : F 0 = nI n) {j : Nat} (hf : gFind (A 2) (A 3) (A 4) k l r n 0 = some j) : gm_Sp gm_MT (d + 4) 5009 [.ref 1, .int k, .int l, .int r] (gw A F nw nx LO DO) (.inl (some (.int (nI j)))) (gw A F nw nx LO DO) 0 0 := by
  refine gm_mk gm_mX4_make rfl ⟨Or.inr rfl, rfl, rfl, trivial⟩ (fun G X hC hX => ?_)
  refine gm_runs hC [] 200 _ _ _ _ _ _ ?_
  refine Or.inl ⟨_, _, _, _, s_find k l r hn hF, ?_⟩
  rw [hf]
  have hj := (gFind_lt hf).2.1
  refine And.intro (fun c => ?_) (fun _ => gx_i hX rfl rfl)
  have c : nI j = gm_lit (-1) := c
  exact absurd c (fun z => nI_pos (n := j) (by omega) (by rw [z]; decide))
theorem s_make2 (k l r : Int32) (hn : n ≤ 120) (hF : F 0 = nI n) (hf : gFind (A 2) (A 3) (A 4) k l r n 0 = none) (hs : nI 40 < gmkS A n l r ∨ n = 120) : gm_Sp gm_MT (d + 4) 5009 [.ref 1, .int k, .int l, .int r] (gw A F nw nx LO DO) (.inl (some (.int (-1)))) (gw A F nw nx LO DO) 0 0 := by
  refine gm_mk gm_mX4_make rfl ⟨Or.inr rfl, rfl, rfl, trivial⟩ (fun G X hC hX => ?_)
  refine gm_runs hC [] 200 _ _ _ _ _ _ ?_
  refine Or.inl ⟨_, _, _, _, s_find k l r hn hF, ?_⟩
  rw [hf]
  refine And.intro (fun _ => ?_) (fun c => absurd (show (-1 : Int32) = gm_lit (-1) from gm_m1.symm) c)
  refine Or.inl ⟨_, _, _, _, s_sizeOf l hn hF, Or.inl ⟨_, _, _, _, s_sizeOf r hn hF, ?_⟩⟩
  refine And.intro (fun _ => gx_i hX gm_m1 rfl) (fun c1 => And.intro (fun _ => gx_i hX gm_m1 rfl) (fun c2 => And.intro (fun c3 => ?_) (fun _ => gx_i hX gm_m1 rfl)))
  have c3 : F 0 < nI 120 := c3
  rw [hF] at c3
  have h9 := (nI_ltI (by omega) (by omega)).mp c3
  exact absurd (hs.resolve_right (by omega)) c1
theorem s_make3 (k l r : Int32) (hn : n < 120) (hF : F 0 = nI n) (hf : gFind (A 2) (A 3) (A 4) k l r n 0 = none) (hs : ¬ nI 40 < gmkS A n l r) (hk : 0 ≤ k ∧ k ≤ 65535) : gm_Sp gm_MT (d + 4) 5009 [.ref 1, .int k, .int l, .int r] (gw A F nw nx LO DO) (.inl (some (.int (nI n)))) (gw (gmkA A n k l r (gmkS A n l r) (gCov k (gO (A 6) (gT n l) 0) (gO (A 6) (gT n r) 0))) (va_up F 0 (nI (n + 1))) nw nx LO DO) 0 0 := by
  refine gm_mk gm_mX4_make rfl ⟨Or.inr rfl, rfl, rfl, trivial⟩ (fun G X hC hX => ?_)
  refine gm_runs hC [] 200 _ _ _ _ _ _ ?_
  refine Or.inl ⟨_, _, _, _, s_find k l r (by omega) hF, ?_⟩
  rw [hf]
  refine And.intro (fun _ => ?_) (fun c => absurd (show (-1 : Int32) = gm_lit (-1) from gm_m1.symm) c)
  refine Or.inl ⟨_, _, _, _, s_sizeOf l (by omega) hF, Or.inl ⟨_, _, _, _, s_sizeOf r (by omega) hF, ?_⟩⟩
  have hcl : (F 0).toNatClampNeg = n := by rw [hF]; exact nI_clamp (by omega)
  have hin : vp_in (F 0) 120 := by rw [hF]; exact vp_in_nI (by omega) (by omega)
  refine And.intro (fun c => absurd c hs) (fun _ => And.intro (fun c => absurd (show F 0 < 0 from c) (by rw [hF]; exact nI_pos (by omega))) (fun _ => And.intro (fun _ => ?_) (fun c => absurd (show F 0 < nI 120 by rw [hF]; exact nI_lt (by omega) (by omega)) c)))
  refine And.intro hin (And.intro hk (And.intro hin (And.intro hin (And.intro hin ?_))))
  let A1 := va_up (va_up (va_up (va_up A 2 (upd (A 2) (F 0).toNatClampNeg k)) 3 (upd (A 3) (F 0).toNatClampNeg l)) 4 (upd (A 4) (F 0).toNatClampNeg r)) 5 (upd (A 5) (F 0).toNatClampNeg (gmkS A n l r))
  refine Or.inl ⟨_, _, _, _, s_coverOf (A := A1) l (by omega) hF, Or.inl ⟨_, _, _, _, s_coverOf (A := A1) r (by omega) hF, Or.inl ⟨_, _, _, _, s_coverFrom (A := A1) k _ _, And.intro hin ?_⟩⟩⟩
  refine gx_i hX hF ?_
  have e1 : nI (n + 1) = F 0 + gm_lit 1 := by rw [hF]; exact (nI_1 n).symm
  have e2 : gmkA A n k l r (gmkS A n l r) (gCov k (gO (A 6) (gT n l) 0) (gO (A 6) (gT n r) 0)) = gmkA A (F 0).toNatClampNeg k l r (gmkS A n l r) (gCov k (gO (A 6) (gT n l) 0) (gO (A 6) (gT n r) 0)) := by rw [hcl]
  rw [e1, e2]
  rfl
end T
