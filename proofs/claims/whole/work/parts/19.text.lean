/-! TEXTS: what its methods answer -/
/-- one of the two texts: its place, its rows', its length's and cursor's -/
def gX (x r e fl fc : Nat) : Prop := (x = 8 ∧ r = 9 ∧ e = 10 ∧ fl = 3 ∧ fc = 4) ∨ (x = 11 ∧ r = 12 ∧ e = 13 ∧ fl = 5 ∧ fc = 6)
/-- a row holds a list -/
def gR (f : Nat → Int32) (l : List Int32) : Prop := ∀ i, i < l.length → l[i]? = some (f i)
/-- signs are chars -/
def gCh (l : List Int32) : Prop := ∀ k ∈ l, 0 ≤ k ∧ k ≤ 65535
def tAt (l : List Int32) (x : Int32) : Int32 := match gT l.length x with
  | some j => l.getD j 32
  | none => 32
theorem gR.at {f : Nat → Int32} {l : List Int32} (h : gR f l) {i : Nat} (hi : i < l.length) : l.getD i 32 = f i := by
  rw [List.getD_eq_getElem?_getD, h i hi]
  rfl
theorem gR.ch {f : Nat → Int32} {l : List Int32} (h : gR f l) (hc : gCh l) {i : Nat} (hi : i < l.length) : 0 ≤ f i ∧ f i ≤ 65535 := hc _ (List.mem_of_getElem? (h i hi))
theorem gR.push {f : Nat → Int32} {l : List Int32} (h : gR f l) (c : Int32) : gR (upd f l.length c) (l ++ [c]) := by
  intro i hi
  simp only [List.length_append, List.length_singleton] at hi
  by_cases he : i = l.length
  · subst he
    simp [upd]
  · have hlt : i < l.length := by omega
    rw [List.getElem?_append_left hlt, h i hlt]
    simp [upd, he]
theorem tAt_nI {l : List Int32} {i : Nat} (hi : i < l.length) (hl : l.length ≤ 81) : tAt l (nI i) = l.getD i 32 := by
  unfold tAt
  rw [gT_nI hi (by omega)]
theorem tAt_ch {l : List Int32} (hc : gCh l) (x : Int32) : 0 ≤ tAt l x ∧ tAt l x ≤ 65535 := by
  unfold tAt
  split
  · rename_i j hj
    by_cases hlt : j < l.length
    · rw [List.getD_eq_getElem?_getD, List.getElem?_eq_getElem hlt]
      exact hc _ (List.getElem_mem hlt)
    · rw [List.getD_eq_getElem?_getD, List.getElem?_eq_none (by omega)]
      decide
  · decide
def tAr (k : Int32) : Nat := if k = 67 then 1 else if k = 68 ∨ k = 73 ∨ k = 83 ∨ k = 85 then 2 else 0
section X
variable {A : Nat → Nat → Int32} {F : Nat → Int32} {nw nx : Nat} {LO : Nat → Int64} {DO : Nat → UInt64} {d : Nat} {x r e fl fc : Nat} {l : List Int32}

theorem s_partsOf (k : Int32) : gm_Sp gm_MT (d + 1) 6001 [.int k] (gw A F nw nx LO DO) (.inl (some (.int (nI (tAr k))))) (gw A F nw nx LO DO) 0 0 := by
  refine gm_mk gm_mX5_partsOf rfl ⟨Or.inr rfl, rfl, rfl, trivial⟩ (fun G X hC hX => ?_)
  refine gm_runs hC [] 200 _ _ _ _ _ _ ?_
  exact And.intro (fun (c67 : k = 67) => gx_i hX (by subst c67; decide) rfl) (fun (c67 : ¬ k = 67) => And.intro (fun (c68 : k = 68) => gx_i hX (by subst c68; decide) rfl) (fun (c68 : ¬ k = 68) => And.intro (fun (c73 : k = 73) => gx_i hX (by subst c73; decide) rfl) (fun (c73 : ¬ k = 73) => And.intro (fun (c83 : k = 83) => gx_i hX (by subst c83; decide) rfl) (fun (c83 : ¬ k = 83) => And.intro (fun (c85 : k = 85) => gx_i hX (by subst c85; decide) rfl) (fun (c85 : ¬ k = 85) => gx_i hX (by unfold tAr; rw [if_neg c67, if_neg (by intro z; rcases z with z | z | z | z <;> first | exact c68 z | exact c73 z | exact c83 z | exact c85 z)]; rfl) rfl)))))
theorem s_lengthX (hx : gX x r e fl fc) : gm_Sp gm_MT (d + 1) 6002 [.ref x] (gw A F nw nx LO DO) (.inl (some (.int (F fl)))) (gw A F nw nx LO DO) 0 0 := by
  rcases hx with ⟨rfl, rfl, rfl, rfl, rfl⟩ | ⟨rfl, rfl, rfl, rfl, rfl⟩
  all_goals
    refine gm_mk gm_mX5_length rfl ⟨Or.inr rfl, rfl, rfl, trivial⟩ (fun G X hC hX => ?_)
    exact gm_runs hC [] 200 _ _ _ _ _ _ hX
theorem s_clear (hx : gX x r e fl fc) : gm_Sp gm_MT (d + 1) 6003 [.ref x] (gw A F nw nx LO DO) (.inl none) (gw A (va_up F fl 0) nw nx LO DO) 0 0 := by
  rcases hx with ⟨rfl, rfl, rfl, rfl, rfl⟩ | ⟨rfl, rfl, rfl, rfl, rfl⟩
  all_goals
    refine gm_mk gm_mX5_clear rfl ⟨Or.inr rfl, rfl, rfl, trivial⟩ (fun G X hC hX => ?_)
    exact gm_runs hC [] 200 _ _ _ _ _ _ hX
theorem s_rewind (hx : gX x r e fl fc) : gm_Sp gm_MT (d + 1) 6004 [.ref x] (gw A F nw nx LO DO) (.inl none) (gw A (va_up F fc 0) nw nx LO DO) 0 0 := by
  rcases hx with ⟨rfl, rfl, rfl, rfl, rfl⟩ | ⟨rfl, rfl, rfl, rfl, rfl⟩
  all_goals
    refine gm_mk gm_mX5_rewind rfl ⟨Or.inr rfl, rfl, rfl, trivial⟩ (fun G X hC hX => ?_)
    exact gm_runs hC [] 200 _ _ _ _ _ _ hX
theorem s_at (hx : gX x r e fl fc) (hF : F fl = nI l.length) (hl : l.length ≤ 81) (hr : gR (A r) l) (hc : gCh l) (t : Int32) : gm_Sp gm_MT (d + 1) 6006 [.ref x, .int t] (gw A F nw nx LO DO) (.inl (some (.int (tAt l t)))) (gw A F nw nx LO DO) 0 0 := by
  rcases hx with ⟨rfl, rfl, rfl, rfl, rfl⟩ | ⟨rfl, rfl, rfl, rfl, rfl⟩
  all_goals
    refine gm_mk gm_mX5_at rfl ⟨Or.inr rfl, rfl, rfl, trivial⟩ (fun G X hC hX => ?_)
    refine gm_runs hC [] 200 _ _ _ _ _ _ ?_
    have hch := tAt_ch hc t
    rcases gT_cases t (n := l.length) (by omega) with ⟨j, hj, rfl, hg⟩ | ⟨hg, hz⟩
    · have h1 : ¬ nI j < 0 := nI_pos (by omega)
      have h2 : ¬ nI l.length ≤ nI j := nI_ge hj (by omega)
      have h3 : ¬ nI 81 ≤ nI j := nI_ge (by omega) (by omega)
      rw [← hF] at h2
      refine And.intro (fun c => absurd c h1) (fun _ => And.intro (fun c => absurd c h2) (fun _ => And.intro (fun c => absurd c h3) (fun _ => And.intro (vp_in_nI (by omega) (by omega)) (gx_c hX hch ?_ rfl))))
      rw [nI_clamp (by omega), tAt_nI hj hl, hr.at hj]
    · have k0 := gx_c hX hch (v := 32) (by unfold tAt; rw [hg]) rfl
      refine And.intro (fun c => k0) (fun c1 => And.intro (fun c => k0) (fun c2 => And.intro (fun c => k0) (fun _ => ?_)))
      exact absurd (hz.resolve_left c1) (by rw [← hF]; exact c2)
theorem s_endOf (hx : gX x r e fl fc) {n : Nat} (hF : F fl = nI n) (hn : n ≤ 81) (t : Int32) : gm_Sp gm_MT (d + 1) 6010 [.ref x, .int t] (gw A F nw nx LO DO) (.inl (some (.int (gO (A e) (gT n t) (nI n))))) (gw A F nw nx LO DO) 0 0 := by
  rcases hx with ⟨rfl, rfl, rfl, rfl, rfl⟩ | ⟨rfl, rfl, rfl, rfl, rfl⟩
  all_goals
    refine gm_mk gm_mX5_endOf rfl ⟨Or.inr rfl, rfl, rfl, trivial⟩ (fun G X hC hX => ?_)
    refine gm_runs hC [] 200 _ _ _ _ _ _ ?_
    rcases gT_cases t (n := n) (by omega) with ⟨j, hj, rfl, hg⟩ | ⟨hg, hz⟩
    · have h1 : ¬ nI j < 0 := nI_pos (by omega)
      have h2 : ¬ nI n ≤ nI j := nI_ge hj (by omega)
      have h3 : ¬ nI 81 ≤ nI j := nI_ge (by omega) (by omega)
      rw [← hF] at h2
      rw [hg] at hX
      refine And.intro (fun c => absurd c h1) (fun _ => And.intro (fun c => absurd c h2) (fun _ => And.intro (fun c => absurd c h3) (fun _ => And.intro (vp_in_nI (by omega) (by omega)) (gx_i hX ?_ rfl))))
      rw [nI_clamp (by omega)]
      rfl
    · rw [hg] at hX
      have k0 := gx_i hX hF rfl
      refine And.intro (fun c => k0) (fun c1 => And.intro (fun c => k0) (fun c2 => And.intro (fun c => k0) (fun _ => ?_)))
      exact absurd (hz.resolve_left c1) (by rw [← hF]; exact c2)
theorem s_put (hx : gX x r e fl fc) {n : Nat} (hF : F fl = nI n) (hn : n < 81) (k : Int32) (hk : 0 ≤ k ∧ k ≤ 65535) : gm_Sp gm_MT (d + 1) 6007 [.ref x, .int k] (gw A F nw nx LO DO) (.inl none) (gw (va_up A r (upd (A r) n k)) (va_up F fl (nI (n + 1))) nw nx LO DO) 0 0 := by
  have e1 : nI (n + 1) = F fl + gm_lit 1 := by rw [hF]; exact (nI_1 n).symm
  have e2 : n = (F fl).toNatClampNeg := by rw [hF]; exact (nI_clamp (by omega)).symm
  have e3 : va_up A r (upd (A r) n k) = va_up A r (upd (A r) (F fl).toNatClampNeg k) := by rw [← e2]
  have h1 : ¬ F fl < 0 := by rw [hF]; exact nI_pos (by omega)
  have h2 : ¬ nI 81 ≤ F fl := by rw [hF]; exact nI_ge (by omega) (by omega)
  have h3 : vp_in (F fl) 81 := by rw [hF]; exact vp_in_nI (by omega) (by omega)
  rw [e1, e3]
  clear e1 e2 e3
  rcases hx with ⟨rfl, rfl, rfl, rfl, rfl⟩ | ⟨rfl, rfl, rfl, rfl, rfl⟩
  all_goals
    refine gm_mk gm_mX5_put rfl ⟨Or.inr rfl, rfl, rfl, trivial⟩ (fun G X hC hX => ?_)
    refine gm_runs hC [] 200 _ _ _ _ _ _ ?_
    exact And.intro (fun c => absurd c h1) (fun _ => And.intro (fun c => absurd c h2) (fun _ => And.intro h3 (And.intro hk hX)))
theorem s_read (hx : gX x r e fl fc) (hF : F fl = nI l.length) (hl : l.length ≤ 81) (hr : gR (A r) l) (hc : gCh l) : gm_Sp gm_MT (d + 2) 6005 [.ref x] (gw A F nw nx LO DO) (.inl (some (.int (tAt l (F fc))))) (gw A (va_up F fc (F fc + 1)) nw nx LO DO) 0 0 := by
  rcases hx with ⟨rfl, rfl, rfl, rfl, rfl⟩ | ⟨rfl, rfl, rfl, rfl, rfl⟩
  all_goals
    refine gm_mk gm_mX5_read rfl ⟨Or.inr rfl, rfl, rfl, trivial⟩ (fun G X hC hX => ?_)
    refine gm_runs hC [] 200 _ _ _ _ _ _ ?_
    first
      | exact Or.inl ⟨_, _, _, _, s_at (Or.inl ⟨rfl, rfl, rfl, rfl, rfl⟩) hF hl hr hc _, gx_c hX (tAt_ch hc _) rfl rfl⟩
      | exact Or.inl ⟨_, _, _, _, s_at (Or.inr ⟨rfl, rfl, rfl, rfl, rfl⟩) hF hl hr hc _, gx_c hX (tAt_ch hc _) rfl rfl⟩
end X