/-! THE LAW: the call modelsByTrying -/
section LA
variable {G : pG} {X : pX} {L i c s d : Nat} {xs : Nat → Int32} {A : Nat → Nat → Int32} {F : Nat → Int32} {nw nx : Nat} {LO : Nat → Int64} {DO : Nat → UInt64}
set_option maxRecDepth 4000 in
theorem la_35 (hC : gm_cl (laM la_c35) gm_tyf (some (L, xs)) (gm_Sp gm_MT (d + 61)) G X) (hK : laK G i c s) (hI : gI A F nw nx) (hi : i + 4 ≤ L) (hL : L ≤ 2048) : ∀ o6 o7 o8 : Option Value, G 2149 [some (.ref 88888), some (.ref 0), some (.ref 24), some (.ref 37), some (.ref 38), some (.int (nI i)), o6, o7, o8] [] (gw A F nw nx LO DO) c s := by
  intro o6 o7 o8
  obtain ⟨A1, F1, nw1, nx1, LO1, k, c1, s1, A2, F2, b, hc, hs, S1, S2, hk, hb, hI2⟩ := c_modelsByTrying (d := d) (LO := LO) (DO := DO) hI (xs (nI i + 1).toNatClampNeg)
  refine gm_runs hC [2282] 200 _ _ _ _ _ _ ?_
  refine And.intro (la_in1 hi hL) (Or.inl ⟨_, _, _, _, S1, And.intro (la_in1 hi hL) (Or.inl ⟨_, _, _, _, S2, Or.inl ⟨_, _, _, _, s_thrown, gx_t hk ?_⟩⟩)⟩)
  by_cases hk0 : k = 0
  · refine gx_f (fun z => z hk0) (And.intro la_in0 (gx_t (show lg_cmp (LO1 0) b = 0 from by rw [hb hk0]; exact la_cmp _) ?_))
    exact hK _ _ _ _ _ _ _ _ _ _ _ hI2 (by omega) (by omega)
  · refine gx_t hk0 ?_
    exact hK _ _ _ _ _ _ _ _ _ _ _ hI2 (by omega) (by omega)
end LA
