/-! THE REFERENCE'S TABLE: know, makes -/
def lcF (a : Int32) : Nat → Nat → Int32 → Int32
  | 0, _, acc => acc
  | m + 1, i, acc => lcF a m (i + 1) (acc ||| (((nI i >>> (a &&& 31)) &&& 1) <<< (nI i &&& 31)))
theorem lcF_0 : lcF 0 16 0 0 = 43690 := by decide +kernel
theorem lcF_1 : lcF 1 16 0 0 = 52428 := by decide +kernel
theorem lcF_2 : lcF 2 16 0 0 = 61680 := by decide +kernel
theorem lcF_3 : lcF 3 16 0 0 = 65280 := by decide +kernel
section X
variable {nw nx : Nat} {LO : Nat → Int64} {DO : Nat → UInt64} {d n : Nat} {A : Nat → Nat → Int32} {F : Nat → Int32}
theorem s_letterCover (a : Int32) : gm_Sp gm_MT (d + 1) 8006 [.int a] (gw A F nw nx LO DO) (.inl (some (.int (lcF a 16 0 0)))) (gw A F nw nx LO DO) 0 0 := by
  refine gm_mk gm_mX7_letterCover rfl ⟨Or.inr rfl, rfl, rfl, trivial⟩ (fun G X hC hX => ?_)
  have loop : ∀ (m i : Nat) (acc : Int32), i + m = 16 → X (.inl (some (.int (lcF a m i acc)))) (gw A F nw nx LO DO) 0 0 → G 4 [some (.int a), some (.int acc), some (.int (nI i))] [] (gw A F nw nx LO DO) 0 0 := by
    intro m
    induction m with
    | zero =>
      intro i acc hi hY
      have hi : i = 16 := by omega
      subst hi
      refine gm_run1 hC [4] 200 4 ?_
      exact gx_t (show nI 16 ≤ nI 16 from by decide) (gx_i hY rfl rfl)
    | succ m ih =>
      intro i acc hi hY
      have h9 := ih (i + 1) _ (by omega) hY
      rw [← nI_1] at h9
      refine gm_run1 hC [4] 200 4 ?_
      exact gx_f (show ¬ nI 16 ≤ nI i from nI_ge (by omega) (by omega)) h9
  refine gm_runs hC [4] 200 _ _ _ _ _ _ ?_
  exact loop 16 0 0 rfl hX
/-- a part's cover, or none's -/
theorem s_covered0 {k l r : Int32} (hk : gSg k) (h0 : tAr k = 0) : gm_Sp gm_MT (d + 2) 8007 [.ref 24, .int k, .int l, .int r] (gw A F nw nx LO DO) (.inl (some (.int (gCov k 0 0)))) (gw A F nw nx LO DO) 0 0 := by
  refine gm_mk gm_mX7_covered rfl ⟨Or.inr rfl, rfl, rfl, trivial⟩ (fun G X hC hX => ?_)
  have hl : ∀ a, _ := fun a => s_letterCover (A := A) (F := F) (nw := nw) (nx := nx) (LO := LO) (DO := DO) (d := d) a
  rcases hk with rfl | rfl | rfl | rfl | rfl | rfl | rfl | rfl | rfl | rfl | rfl
  · refine gm_runs hC [] 200 _ _ _ _ _ _ ?_
    exact gx_t (show ¬ (48 : Int32) = 67 from by decide) (gx_t (show ¬ (48 : Int32) = 85 from by decide) (gx_t (show ¬ (48 : Int32) = 73 from by decide) (gx_t (show ¬ (48 : Int32) = 68 from by decide) (gx_t (show ¬ (48 : Int32) = 83 from by decide) (gx_f (show ¬ ¬ (48 : Int32) = 48 from fun z => z rfl) (gx_i hX rfl rfl))))))
  · refine gm_runs hC [] 200 _ _ _ _ _ _ ?_
    exact gx_t (show ¬ (49 : Int32) = 67 from by decide) (gx_t (show ¬ (49 : Int32) = 85 from by decide) (gx_t (show ¬ (49 : Int32) = 73 from by decide) (gx_t (show ¬ (49 : Int32) = 68 from by decide) (gx_t (show ¬ (49 : Int32) = 83 from by decide) (gx_t (show ¬ (49 : Int32) = 48 from by decide) (gx_f (show ¬ ¬ (49 : Int32) = 49 from fun z => z rfl) (gx_i hX rfl rfl)))))))
  · have h9 := hl 0
    rw [lcF_0] at h9
    refine gm_runs hC [] 200 _ _ _ _ _ _ ?_
    exact gx_t (show ¬ (97 : Int32) = 67 from by decide) (gx_t (show ¬ (97 : Int32) = 85 from by decide) (gx_t (show ¬ (97 : Int32) = 73 from by decide) (gx_t (show ¬ (97 : Int32) = 68 from by decide) (gx_t (show ¬ (97 : Int32) = 83 from by decide) (gx_t (show ¬ (97 : Int32) = 48 from by decide) (gx_t (show ¬ (97 : Int32) = 49 from by decide) (Or.inl ⟨_, _, _, _, h9, gx_i hX rfl rfl⟩)))))))
  · have h9 := hl 1
    rw [lcF_1] at h9
    refine gm_runs hC [] 200 _ _ _ _ _ _ ?_
    exact gx_t (show ¬ (98 : Int32) = 67 from by decide) (gx_t (show ¬ (98 : Int32) = 85 from by decide) (gx_t (show ¬ (98 : Int32) = 73 from by decide) (gx_t (show ¬ (98 : Int32) = 68 from by decide) (gx_t (show ¬ (98 : Int32) = 83 from by decide) (gx_t (show ¬ (98 : Int32) = 48 from by decide) (gx_t (show ¬ (98 : Int32) = 49 from by decide) (Or.inl ⟨_, _, _, _, h9, gx_i hX rfl rfl⟩)))))))
  · have h9 := hl 2
    rw [lcF_2] at h9
    refine gm_runs hC [] 200 _ _ _ _ _ _ ?_
    exact gx_t (show ¬ (99 : Int32) = 67 from by decide) (gx_t (show ¬ (99 : Int32) = 85 from by decide) (gx_t (show ¬ (99 : Int32) = 73 from by decide) (gx_t (show ¬ (99 : Int32) = 68 from by decide) (gx_t (show ¬ (99 : Int32) = 83 from by decide) (gx_t (show ¬ (99 : Int32) = 48 from by decide) (gx_t (show ¬ (99 : Int32) = 49 from by decide) (Or.inl ⟨_, _, _, _, h9, gx_i hX rfl rfl⟩)))))))
  · have h9 := hl 3
    rw [lcF_3] at h9
    refine gm_runs hC [] 200 _ _ _ _ _ _ ?_
    exact gx_t (show ¬ (100 : Int32) = 67 from by decide) (gx_t (show ¬ (100 : Int32) = 85 from by decide) (gx_t (show ¬ (100 : Int32) = 73 from by decide) (gx_t (show ¬ (100 : Int32) = 68 from by decide) (gx_t (show ¬ (100 : Int32) = 83 from by decide) (gx_t (show ¬ (100 : Int32) = 48 from by decide) (gx_t (show ¬ (100 : Int32) = 49 from by decide) (Or.inl ⟨_, _, _, _, h9, gx_i hX rfl rfl⟩)))))))
  all_goals exact absurd h0 (by decide)
theorem s_covered1 {a : Nat} {r : Int32} (ha : a < 120) : gm_Sp gm_MT (d + 2) 8007 [.ref 24, .int 67, .int (nI a), .int r] (gw A F nw nx LO DO) (.inl (some (.int (gCov 67 (A 29 a) 0)))) (gw A F nw nx LO DO) 0 0 := by
  have hva := vp_in_nI (n := a) (N := 120) (by omega) (by omega)
  have hca : (nI a).toNatClampNeg = a := nI_clamp (by omega)
  refine gm_mk gm_mX7_covered rfl ⟨Or.inr rfl, rfl, rfl, trivial⟩ (fun G X hC hX => ?_)
  have e : gCov 67 (A 29 a) 0 = 65535 &&& (A 29 (nI a).toNatClampNeg ^^^ (-1)) := by rw [hca]; rfl
  rw [e] at hX
  refine gm_runs hC [] 200 _ _ _ _ _ _ ?_
  exact gx_f (show ¬ ¬ (67 : Int32) = 67 from fun z => z rfl) (And.intro hva (gx_i hX rfl rfl))
theorem s_covered2 {k : Int32} {a b : Nat} (hk : tAr k = 2) (ha : a < 120) (hb : b < 120) : gm_Sp gm_MT (d + 2) 8007 [.ref 24, .int k, .int (nI a), .int (nI b)] (gw A F nw nx LO DO) (.inl (some (.int (gCov k (A 29 a) (A 29 b))))) (gw A F nw nx LO DO) 0 0 := by
  have hva := vp_in_nI (n := a) (N := 120) (by omega) (by omega)
  have hca : (nI a).toNatClampNeg = a := nI_clamp (by omega)
  have hvb := vp_in_nI (n := b) (N := 120) (by omega) (by omega)
  have hcb : (nI b).toNatClampNeg = b := nI_clamp (by omega)
  refine gm_mk gm_mX7_covered rfl ⟨Or.inr rfl, rfl, rfl, trivial⟩ (fun G X hC hX => ?_)
  have e : gCov k (A 29 a) (A 29 b) = gCov k (A 29 (nI a).toNatClampNeg) (A 29 (nI b).toNatClampNeg) := by rw [hca, hcb]
  rw [e] at hX
  rcases (tAr_pair k).mp hk with rfl | rfl | rfl | rfl
  all_goals refine gm_runs hC [] 200 _ _ _ _ _ _ ?_
  · exact gx_t (show ¬ (85 : Int32) = 67 from by decide) (gx_f (show ¬ ¬ (85 : Int32) = 85 from fun z => z rfl) (And.intro hva (And.intro hvb (gx_i hX rfl rfl))))
  · exact gx_t (show ¬ (73 : Int32) = 67 from by decide) (gx_t (show ¬ (73 : Int32) = 85 from by decide) (gx_f (show ¬ ¬ (73 : Int32) = 73 from fun z => z rfl) (And.intro hva (And.intro hvb (gx_i hX rfl rfl)))))
  · exact gx_t (show ¬ (68 : Int32) = 67 from by decide) (gx_t (show ¬ (68 : Int32) = 85 from by decide) (gx_t (show ¬ (68 : Int32) = 73 from by decide) (gx_f (show ¬ ¬ (68 : Int32) = 68 from fun z => z rfl) (And.intro hva (And.intro hvb (gx_i hX rfl rfl))))))
  · exact gx_t (show ¬ (83 : Int32) = 67 from by decide) (gx_t (show ¬ (83 : Int32) = 85 from by decide) (gx_t (show ¬ (83 : Int32) = 73 from by decide) (gx_t (show ¬ (83 : Int32) = 68 from by decide) (gx_f (show ¬ ¬ (83 : Int32) = 83 from fun z => z rfl) (And.intro hva (And.intro hvb (gx_i hX rfl rfl)))))))
/-- a known triple, or the end of the search -/
theorem s_know_loop (k l r : Int32) (hn : n ≤ 120) (hF : F 21 = nI n) (G : pG) (X : pX) (hC : gm_cl gm_mX7_know gm_tyf none (gm_Sp gm_MT d) G X) : ∀ (m i : Nat), i + m = n → (∀ j, gFind (A 25) (A 26) (A 27) k l r m i = some j → X (.inl (some (.int (nI j)))) (gw A F nw nx LO DO) 0 0) → (gFind (A 25) (A 26) (A 27) k l r m i = none → G 54 [some (.ref 24), some (.int k), some (.int l), some (.int r), some (.int (nI n))] [] (gw A F nw nx LO DO) 0 0) → G 3 [some (.ref 24), some (.int k), some (.int l), some (.int r), some (.int (nI i))] [] (gw A F nw nx LO DO) 0 0 := by
  intro m
  induction m with
  | zero =>
    intro i hi h1 h2
    have hi : i = n := by omega
    subst hi
    refine gm_run1 hC [3, 54] 200 3 ?_
    exact gx_t (show F 21 ≤ nI i from by rw [hF]; exact Int32.le_refl _) (h2 rfl)
  | succ m ih =>
    intro i hi h1 h2
    have hin := vp_in_nI (n := i) (N := 120) (by omega) (by omega)
    have hcl : (nI i).toNatClampNeg = i := nI_clamp (by omega)
    have nxt : ¬ (A 25 i = k ∧ A 26 i = l ∧ A 27 i = r) → G 3 [some (.ref 24), some (.int k), some (.int l), some (.int r), some (.int (nI i + 1))] [] (gw A F nw nx LO DO) 0 0 := by
      intro hne
      rw [nI_1]
      unfold gFind at h1 h2
      rw [if_neg hne] at h1 h2
      exact ih (i + 1) (by omega) h1 h2
    have hit : (A 25 i = k ∧ A 26 i = l ∧ A 27 i = r) → X (.inl (some (.int (nI i)))) (gw A F nw nx LO DO) 0 0 := fun c => h1 i (by unfold gFind; rw [if_pos c])
    clear ih h1 h2
    rw [← hcl] at nxt hit
    rw [hcl] at nxt
    refine gm_run1 hC [3, 54] 200 3 ?_
    refine gx_f (show ¬ F 21 ≤ nI i from by rw [hF]; exact nI_ge (by omega) (by omega)) (And.intro hin (And.intro (fun (c : ¬ A 25 (nI i).toNatClampNeg = k) => nxt (fun z => c (by rw [hcl]; exact z.1))) (fun (c1 : ¬ ¬ A 25 (nI i).toNatClampNeg = k) => And.intro hin (And.intro (fun (c : ¬ A 26 (nI i).toNatClampNeg = l) => nxt (fun z => c (by rw [hcl]; exact z.2.1))) (fun (c2 : ¬ ¬ A 26 (nI i).toNatClampNeg = l) => And.intro hin (And.intro (fun (c : ¬ A 27 (nI i).toNatClampNeg = r) => nxt (fun z => c (by rw [hcl]; exact z.2.2))) (fun (c3 : ¬ ¬ A 27 (nI i).toNatClampNeg = r) => ?_)))))))
    have d1 := Decidable.of_not_not c1
    have d2 := Decidable.of_not_not c2
    have d3 := Decidable.of_not_not c3
    exact gx_i (hit ⟨d1, d2, d3⟩) (by rw [hcl]) rfl
end X