/-! THE LAW: one call of a script each -/
def laK (G : pG) (i c s : Nat) : Prop := ∀ (A : Nat → Nat → Int32) (F : Nat → Int32) (nw nx : Nat) (LO : Nat → Int64) (DO : Nat → UInt64) (c1 s1 : Nat) (o6 o7 o8 : Option Value), gI A F nw nx → c1 ≤ c + 1 → s1 ≤ s + 6 → G 2282 [some (.ref 88888), some (.ref 0), some (.ref 24), some (.ref 37), some (.ref 38), some (.int (nI i)), o6, o7, o8] [] (gw A F nw nx LO DO) c1 s1
section LA
variable {G : pG} {X : pX} {L i c s d : Nat} {xs : Nat → Int32} {A : Nat → Nat → Int32} {F : Nat → Int32} {nw nx : Nat} {LO : Nat → Int64} {DO : Nat → UInt64}
theorem la_in0 : vp_in (0 : Int32) 1 := nI_in (c := 0) (N := 1) (by decide) (by decide)
theorem la_in1 (hi : i + 4 ≤ L) (hL : L ≤ 2048) : vp_in (nI i + 1) L := by rw [nI_1]; exact nI_in (by omega) (by omega)
theorem la_in2 (hi : i + 4 ≤ L) (hL : L ≤ 2048) : vp_in (nI i + 2) L := by rw [show nI i + 2 = nI (i + 2) from nI_add i 2]; exact nI_in (by omega) (by omega)
theorem la_in3 (hi : i + 4 ≤ L) (hL : L ≤ 2048) : vp_in (nI i + 3) L := by rw [show nI i + 3 = nI (i + 3) from nI_add i 3]; exact nI_in (by omega) (by omega)
theorem la_cmp (a : Int64) : lg_cmp a a = 0 := (lg_cmp_eq a a).mpr rfl
set_option maxRecDepth 4000 in
theorem la_0 (hC : gm_cl (laM la_c0) gm_tyf (some (L, xs)) (gm_Sp gm_MT (d + 61)) G X) (hK : laK G i c s) (hI : gI A F nw nx) (hi : i + 4 ≤ L) (hL : L ≤ 2048) : ∀ o6 o7 o8 : Option Value, G 208 [some (.ref 88888), some (.ref 0), some (.ref 24), some (.ref 37), some (.ref 38), some (.int (nI i)), o6, o7, o8] [] (gw A F nw nx LO DO) c s := by
  intro o6 o7 o8
  obtain ⟨A1, F1, nw1, nx1, LO1, k, c1, s1, A2, F2, b, hc, hs, S1, S2, hk, hb, hI2⟩ := c_letter (d := d) (LO := LO) (DO := DO) hI (xs (nI i + 1).toNatClampNeg)
  refine gm_runs hC [2282] 200 _ _ _ _ _ _ ?_
  refine And.intro (la_in1 hi hL) (Or.inl ⟨_, _, _, _, S1, And.intro (la_in1 hi hL) (Or.inl ⟨_, _, _, _, S2, Or.inl ⟨_, _, _, _, s_thrown, gx_t hk ?_⟩⟩)⟩)
  by_cases hk0 : k = 0
  · refine gx_f (fun z => z hk0) (And.intro la_in0 (gx_t (show lg_cmp (LO1 0) b.toInt64 = 0 from by rw [hb hk0]; exact la_cmp _) ?_))
    exact hK _ _ _ _ _ _ _ _ _ _ _ hI2 (by omega) (by omega)
  · refine gx_t hk0 ?_
    exact hK _ _ _ _ _ _ _ _ _ _ _ hI2 (by omega) (by omega)
set_option maxRecDepth 4000 in
theorem la_1 (hC : gm_cl (laM la_c1) gm_tyf (some (L, xs)) (gm_Sp gm_MT (d + 61)) G X) (hK : laK G i c s) (hI : gI A F nw nx) (hi : i + 4 ≤ L) (hL : L ≤ 2048) : ∀ o6 o7 o8 : Option Value, G 264 [some (.ref 88888), some (.ref 0), some (.ref 24), some (.ref 37), some (.ref 38), some (.int (nI i)), o6, o7, o8] [] (gw A F nw nx LO DO) c s := by
  intro o6 o7 o8
  obtain ⟨A1, F1, nw1, nx1, LO1, k, c1, s1, A2, F2, b, hc, hs, S1, S2, hk, hb, hI2⟩ := c_empty (d := d) (LO := LO) (DO := DO) hI
  refine gm_runs hC [2282] 200 _ _ _ _ _ _ ?_
  refine Or.inl ⟨_, _, _, _, S1, Or.inl ⟨_, _, _, _, S2, Or.inl ⟨_, _, _, _, s_thrown, gx_t hk ?_⟩⟩⟩
  by_cases hk0 : k = 0
  · refine gx_f (fun z => z hk0) (And.intro la_in0 (gx_t (show lg_cmp (LO1 0) b.toInt64 = 0 from by rw [hb hk0]; exact la_cmp _) ?_))
    exact hK _ _ _ _ _ _ _ _ _ _ _ hI2 (by omega) (by omega)
  · refine gx_t hk0 ?_
    exact hK _ _ _ _ _ _ _ _ _ _ _ hI2 (by omega) (by omega)
set_option maxRecDepth 4000 in
theorem la_2 (hC : gm_cl (laM la_c2) gm_tyf (some (L, xs)) (gm_Sp gm_MT (d + 61)) G X) (hK : laK G i c s) (hI : gI A F nw nx) (hi : i + 4 ≤ L) (hL : L ≤ 2048) : ∀ o6 o7 o8 : Option Value, G 308 [some (.ref 88888), some (.ref 0), some (.ref 24), some (.ref 37), some (.ref 38), some (.int (nI i)), o6, o7, o8] [] (gw A F nw nx LO DO) c s := by
  intro o6 o7 o8
  obtain ⟨A1, F1, nw1, nx1, LO1, k, c1, s1, A2, F2, b, hc, hs, S1, S2, hk, hb, hI2⟩ := c_universe (d := d) (LO := LO) (DO := DO) hI
  refine gm_runs hC [2282] 200 _ _ _ _ _ _ ?_
  refine Or.inl ⟨_, _, _, _, S1, Or.inl ⟨_, _, _, _, S2, Or.inl ⟨_, _, _, _, s_thrown, gx_t hk ?_⟩⟩⟩
  by_cases hk0 : k = 0
  · refine gx_f (fun z => z hk0) (And.intro la_in0 (gx_t (show lg_cmp (LO1 0) b.toInt64 = 0 from by rw [hb hk0]; exact la_cmp _) ?_))
    exact hK _ _ _ _ _ _ _ _ _ _ _ hI2 (by omega) (by omega)
  · refine gx_t hk0 ?_
    exact hK _ _ _ _ _ _ _ _ _ _ _ hI2 (by omega) (by omega)
set_option maxRecDepth 4000 in
theorem la_3 (hC : gm_cl (laM la_c3) gm_tyf (some (L, xs)) (gm_Sp gm_MT (d + 61)) G X) (hK : laK G i c s) (hI : gI A F nw nx) (hi : i + 4 ≤ L) (hL : L ≤ 2048) : ∀ o6 o7 o8 : Option Value, G 352 [some (.ref 88888), some (.ref 0), some (.ref 24), some (.ref 37), some (.ref 38), some (.int (nI i)), o6, o7, o8] [] (gw A F nw nx LO DO) c s := by
  intro o6 o7 o8
  obtain ⟨A1, F1, nw1, nx1, LO1, k, c1, s1, A2, F2, b, hc, hs, S1, S2, hk, hb, hI2⟩ := c_complement (d := d) (LO := LO) (DO := DO) hI (xs (nI i + 1).toNatClampNeg)
  refine gm_runs hC [2282] 200 _ _ _ _ _ _ ?_
  refine And.intro (la_in1 hi hL) (Or.inl ⟨_, _, _, _, S1, And.intro (la_in1 hi hL) (Or.inl ⟨_, _, _, _, S2, Or.inl ⟨_, _, _, _, s_thrown, gx_t hk ?_⟩⟩)⟩)
  by_cases hk0 : k = 0
  · refine gx_f (fun z => z hk0) (And.intro la_in0 (gx_t (show lg_cmp (LO1 0) b.toInt64 = 0 from by rw [hb hk0]; exact la_cmp _) ?_))
    exact hK _ _ _ _ _ _ _ _ _ _ _ hI2 (by omega) (by omega)
  · refine gx_t hk0 ?_
    exact hK _ _ _ _ _ _ _ _ _ _ _ hI2 (by omega) (by omega)
set_option maxRecDepth 4000 in
theorem la_4 (hC : gm_cl (laM la_c4) gm_tyf (some (L, xs)) (gm_Sp gm_MT (d + 61)) G X) (hK : laK G i c s) (hI : gI A F nw nx) (hi : i + 4 ≤ L) (hL : L ≤ 2048) : ∀ o6 o7 o8 : Option Value, G 408 [some (.ref 88888), some (.ref 0), some (.ref 24), some (.ref 37), some (.ref 38), some (.int (nI i)), o6, o7, o8] [] (gw A F nw nx LO DO) c s := by
  intro o6 o7 o8
  obtain ⟨A1, F1, nw1, nx1, LO1, k, c1, s1, A2, F2, b, hc, hs, S1, S2, hk, hb, hI2⟩ := c_union (d := d) (LO := LO) (DO := DO) hI (xs (nI i + 1).toNatClampNeg) (xs (nI i + 2).toNatClampNeg)
  refine gm_runs hC [2282] 200 _ _ _ _ _ _ ?_
  refine And.intro (la_in1 hi hL) (And.intro (la_in2 hi hL) (Or.inl ⟨_, _, _, _, S1, And.intro (la_in1 hi hL) (And.intro (la_in2 hi hL) (Or.inl ⟨_, _, _, _, S2, Or.inl ⟨_, _, _, _, s_thrown, gx_t hk ?_⟩⟩))⟩))
  by_cases hk0 : k = 0
  · refine gx_f (fun z => z hk0) (And.intro la_in0 (gx_t (show lg_cmp (LO1 0) b.toInt64 = 0 from by rw [hb hk0]; exact la_cmp _) ?_))
    exact hK _ _ _ _ _ _ _ _ _ _ _ hI2 (by omega) (by omega)
  · refine gx_t hk0 ?_
    exact hK _ _ _ _ _ _ _ _ _ _ _ hI2 (by omega) (by omega)
set_option maxRecDepth 4000 in
theorem la_5 (hC : gm_cl (laM la_c5) gm_tyf (some (L, xs)) (gm_Sp gm_MT (d + 61)) G X) (hK : laK G i c s) (hI : gI A F nw nx) (hi : i + 4 ≤ L) (hL : L ≤ 2048) : ∀ o6 o7 o8 : Option Value, G 476 [some (.ref 88888), some (.ref 0), some (.ref 24), some (.ref 37), some (.ref 38), some (.int (nI i)), o6, o7, o8] [] (gw A F nw nx LO DO) c s := by
  intro o6 o7 o8
  obtain ⟨A1, F1, nw1, nx1, LO1, k, c1, s1, A2, F2, b, hc, hs, S1, S2, hk, hb, hI2⟩ := c_intersection (d := d) (LO := LO) (DO := DO) hI (xs (nI i + 1).toNatClampNeg) (xs (nI i + 2).toNatClampNeg)
  refine gm_runs hC [2282] 200 _ _ _ _ _ _ ?_
  refine And.intro (la_in1 hi hL) (And.intro (la_in2 hi hL) (Or.inl ⟨_, _, _, _, S1, And.intro (la_in1 hi hL) (And.intro (la_in2 hi hL) (Or.inl ⟨_, _, _, _, S2, Or.inl ⟨_, _, _, _, s_thrown, gx_t hk ?_⟩⟩))⟩))
  by_cases hk0 : k = 0
  · refine gx_f (fun z => z hk0) (And.intro la_in0 (gx_t (show lg_cmp (LO1 0) b.toInt64 = 0 from by rw [hb hk0]; exact la_cmp _) ?_))
    exact hK _ _ _ _ _ _ _ _ _ _ _ hI2 (by omega) (by omega)
  · refine gx_t hk0 ?_
    exact hK _ _ _ _ _ _ _ _ _ _ _ hI2 (by omega) (by omega)
set_option maxRecDepth 4000 in
theorem la_6 (hC : gm_cl (laM la_c6) gm_tyf (some (L, xs)) (gm_Sp gm_MT (d + 61)) G X) (hK : laK G i c s) (hI : gI A F nw nx) (hi : i + 4 ≤ L) (hL : L ≤ 2048) : ∀ o6 o7 o8 : Option Value, G 544 [some (.ref 88888), some (.ref 0), some (.ref 24), some (.ref 37), some (.ref 38), some (.int (nI i)), o6, o7, o8] [] (gw A F nw nx LO DO) c s := by
  intro o6 o7 o8
  obtain ⟨A1, F1, nw1, nx1, LO1, k, c1, s1, A2, F2, b, hc, hs, S1, S2, hk, hb, hI2⟩ := c_difference (d := d) (LO := LO) (DO := DO) hI (xs (nI i + 1).toNatClampNeg) (xs (nI i + 2).toNatClampNeg)
  refine gm_runs hC [2282] 200 _ _ _ _ _ _ ?_
  refine And.intro (la_in1 hi hL) (And.intro (la_in2 hi hL) (Or.inl ⟨_, _, _, _, S1, And.intro (la_in1 hi hL) (And.intro (la_in2 hi hL) (Or.inl ⟨_, _, _, _, S2, Or.inl ⟨_, _, _, _, s_thrown, gx_t hk ?_⟩⟩))⟩))
  by_cases hk0 : k = 0
  · refine gx_f (fun z => z hk0) (And.intro la_in0 (gx_t (show lg_cmp (LO1 0) b.toInt64 = 0 from by rw [hb hk0]; exact la_cmp _) ?_))
    exact hK _ _ _ _ _ _ _ _ _ _ _ hI2 (by omega) (by omega)
  · refine gx_t hk0 ?_
    exact hK _ _ _ _ _ _ _ _ _ _ _ hI2 (by omega) (by omega)
set_option maxRecDepth 4000 in
theorem la_7 (hC : gm_cl (laM la_c7) gm_tyf (some (L, xs)) (gm_Sp gm_MT (d + 61)) G X) (hK : laK G i c s) (hI : gI A F nw nx) (hi : i + 4 ≤ L) (hL : L ≤ 2048) : ∀ o6 o7 o8 : Option Value, G 612 [some (.ref 88888), some (.ref 0), some (.ref 24), some (.ref 37), some (.ref 38), some (.int (nI i)), o6, o7, o8] [] (gw A F nw nx LO DO) c s := by
  intro o6 o7 o8
  obtain ⟨A1, F1, nw1, nx1, LO1, k, c1, s1, A2, F2, b, hc, hs, S1, S2, hk, hb, hI2⟩ := c_symmetric (d := d) (LO := LO) (DO := DO) hI (xs (nI i + 1).toNatClampNeg) (xs (nI i + 2).toNatClampNeg)
  refine gm_runs hC [2282] 200 _ _ _ _ _ _ ?_
  refine And.intro (la_in1 hi hL) (And.intro (la_in2 hi hL) (Or.inl ⟨_, _, _, _, S1, And.intro (la_in1 hi hL) (And.intro (la_in2 hi hL) (Or.inl ⟨_, _, _, _, S2, Or.inl ⟨_, _, _, _, s_thrown, gx_t hk ?_⟩⟩))⟩))
  by_cases hk0 : k = 0
  · refine gx_f (fun z => z hk0) (And.intro la_in0 (gx_t (show lg_cmp (LO1 0) b.toInt64 = 0 from by rw [hb hk0]; exact la_cmp _) ?_))
    exact hK _ _ _ _ _ _ _ _ _ _ _ hI2 (by omega) (by omega)
  · refine gx_t hk0 ?_
    exact hK _ _ _ _ _ _ _ _ _ _ _ hI2 (by omega) (by omega)
set_option maxRecDepth 4000 in
theorem la_8 (hC : gm_cl (laM la_c8) gm_tyf (some (L, xs)) (gm_Sp gm_MT (d + 61)) G X) (hK : laK G i c s) (hI : gI A F nw nx) (hi : i + 4 ≤ L) (hL : L ≤ 2048) : ∀ o6 o7 o8 : Option Value, G 680 [some (.ref 88888), some (.ref 0), some (.ref 24), some (.ref 37), some (.ref 38), some (.int (nI i)), o6, o7, o8] [] (gw A F nw nx LO DO) c s := by
  intro o6 o7 o8
  have hI9 := hI
  obtain ⟨rows, sp, n, h⟩ := hI
  refine gm_runs hC [2282] 200 _ _ _ _ _ _ ?_
  refine Or.inl ⟨_, _, _, _, f_terms, Or.inl ⟨_, _, _, _, s_terms7, gx_t (h.2.1.trans h.2.2.2.1.symm) ?_⟩⟩
  exact hK _ _ _ _ _ _ _ _ _ _ _ hI9 (by omega) (by omega)
set_option maxRecDepth 4000 in
theorem la_9 (hC : gm_cl (laM la_c9) gm_tyf (some (L, xs)) (gm_Sp gm_MT (d + 61)) G X) (hK : laK G i c s) (hI : gI A F nw nx) (hi : i + 4 ≤ L) (hL : L ≤ 2048) : ∀ o6 o7 o8 : Option Value, G 693 [some (.ref 88888), some (.ref 0), some (.ref 24), some (.ref 37), some (.ref 38), some (.int (nI i)), o6, o7, o8] [] (gw A F nw nx LO DO) c s := by
  intro o6 o7 o8
  obtain ⟨A1, F1, nw1, nx1, LO1, k, c1, s1, A2, F2, b, hc, hs, S1, S2, hk, hb, hI2⟩ := c_size (d := d) (LO := LO) (DO := DO) hI (xs (nI i + 1).toNatClampNeg)
  refine gm_runs hC [2282] 200 _ _ _ _ _ _ ?_
  refine And.intro (la_in1 hi hL) (Or.inl ⟨_, _, _, _, S1, And.intro (la_in1 hi hL) (Or.inl ⟨_, _, _, _, S2, Or.inl ⟨_, _, _, _, s_thrown, gx_t hk ?_⟩⟩)⟩)
  by_cases hk0 : k = 0
  · refine gx_f (fun z => z hk0) (And.intro la_in0 (gx_t (show lg_cmp (LO1 0) b.toInt64 = 0 from by rw [hb hk0]; exact la_cmp _) ?_))
    exact hK _ _ _ _ _ _ _ _ _ _ _ hI2 (by omega) (by omega)
  · refine gx_t hk0 ?_
    exact hK _ _ _ _ _ _ _ _ _ _ _ hI2 (by omega) (by omega)
set_option maxRecDepth 4000 in
theorem la_10 (hC : gm_cl (laM la_c10) gm_tyf (some (L, xs)) (gm_Sp gm_MT (d + 61)) G X) (hK : laK G i c s) (hI : gI A F nw nx) (hi : i + 4 ≤ L) (hL : L ≤ 2048) : ∀ o6 o7 o8 : Option Value, G 749 [some (.ref 88888), some (.ref 0), some (.ref 24), some (.ref 37), some (.ref 38), some (.int (nI i)), o6, o7, o8] [] (gw A F nw nx LO DO) c s := by
  intro o6 o7 o8
  obtain ⟨A1, F1, nw1, nx1, LO1, k, c1, s1, A2, F2, b, hc, hs, S1, S2, hk, hb, hI2⟩ := c_symbol (d := d) (LO := LO) (DO := DO) hI (xs (nI i + 1).toNatClampNeg) (xs (nI i + 2).toNatClampNeg)
  refine gm_runs hC [2282] 200 _ _ _ _ _ _ ?_
  refine And.intro (la_in1 hi hL) (And.intro (la_in2 hi hL) (Or.inl ⟨_, _, _, _, S1, And.intro (la_in1 hi hL) (And.intro (la_in2 hi hL) (Or.inl ⟨_, _, _, _, S2, Or.inl ⟨_, _, _, _, s_thrown, gx_t hk ?_⟩⟩))⟩))
  by_cases hk0 : k = 0
  · refine gx_f (fun z => z hk0) (And.intro la_in0 (gx_t (show lg_cmp (LO1 0) b.toInt64 = 0 from by rw [hb hk0]; exact la_cmp _) ?_))
    exact hK _ _ _ _ _ _ _ _ _ _ _ hI2 (by omega) (by omega)
  · refine gx_t hk0 ?_
    exact hK _ _ _ _ _ _ _ _ _ _ _ hI2 (by omega) (by omega)
set_option maxRecDepth 4000 in
theorem la_11 (hC : gm_cl (laM la_c11) gm_tyf (some (L, xs)) (gm_Sp gm_MT (d + 61)) G X) (hK : laK G i c s) (hI : gI A F nw nx) (hi : i + 4 ≤ L) (hL : L ≤ 2048) : ∀ o6 o7 o8 : Option Value, G 817 [some (.ref 88888), some (.ref 0), some (.ref 24), some (.ref 37), some (.ref 38), some (.int (nI i)), o6, o7, o8] [] (gw A F nw nx LO DO) c s := by
  intro o6 o7 o8
  obtain ⟨A1, F1, nw1, nx1, LO1, k, c1, s1, A2, F2, b, hc, hs, S1, S2, hk, hb, hI2⟩ := c_regions (d := d) (LO := LO) (DO := DO) hI (xs (nI i + 1).toNatClampNeg)
  refine gm_runs hC [2282] 200 _ _ _ _ _ _ ?_
  refine And.intro (la_in1 hi hL) (Or.inl ⟨_, _, _, _, S1, And.intro (la_in1 hi hL) (Or.inl ⟨_, _, _, _, S2, Or.inl ⟨_, _, _, _, s_thrown, gx_t hk ?_⟩⟩)⟩)
  by_cases hk0 : k = 0
  · refine gx_f (fun z => z hk0) (And.intro la_in0 (gx_t (show lg_cmp (LO1 0) b.toInt64 = 0 from by rw [hb hk0]; exact la_cmp _) ?_))
    exact hK _ _ _ _ _ _ _ _ _ _ _ hI2 (by omega) (by omega)
  · refine gx_t hk0 ?_
    exact hK _ _ _ _ _ _ _ _ _ _ _ hI2 (by omega) (by omega)
set_option maxRecDepth 4000 in
theorem la_12 (hC : gm_cl (laM la_c12) gm_tyf (some (L, xs)) (gm_Sp gm_MT (d + 61)) G X) (hK : laK G i c s) (hI : gI A F nw nx) (hi : i + 4 ≤ L) (hL : L ≤ 2048) : ∀ o6 o7 o8 : Option Value, G 873 [some (.ref 88888), some (.ref 0), some (.ref 24), some (.ref 37), some (.ref 38), some (.int (nI i)), o6, o7, o8] [] (gw A F nw nx LO DO) c s := by
  intro o6 o7 o8
  obtain ⟨A1, F1, nw1, nx1, LO1, k, c1, s1, A2, F2, b, hc, hs, S1, S2, hk, hb, hI2⟩ := c_covers (d := d) (LO := LO) (DO := DO) hI (xs (nI i + 1).toNatClampNeg) (xs (nI i + 2).toNatClampNeg)
  refine gm_runs hC [2282] 200 _ _ _ _ _ _ ?_
  refine And.intro (la_in1 hi hL) (And.intro (la_in2 hi hL) (Or.inl ⟨_, _, _, _, S1, And.intro (la_in1 hi hL) (And.intro (la_in2 hi hL) (Or.inl ⟨_, _, _, _, S2, Or.inl ⟨_, _, _, _, s_thrown, gx_t hk ?_⟩⟩))⟩))
  by_cases hk0 : k = 0
  · obtain ⟨e, hb2⟩ := hb hk0
    refine gx_f (fun z => z hk0) (And.intro la_in0 ?_)
    rcases hb2 with rfl | rfl
    · refine gx_t rfl (gx_t (show lg_cmp (LO1 0) 0 = 0 from by rw [e]; decide) ?_)
      exact hK _ _ _ _ _ _ _ _ _ _ _ hI2 (by omega) (by omega)
    · refine gx_f (show ¬ (1 : Int32) = 0 from by decide) (gx_t (show lg_cmp (LO1 0) 1 = 0 from by rw [e]; decide) ?_)
      exact hK _ _ _ _ _ _ _ _ _ _ _ hI2 (by omega) (by omega)
  · refine gx_t hk0 ?_
    exact hK _ _ _ _ _ _ _ _ _ _ _ hI2 (by omega) (by omega)
set_option maxRecDepth 4000 in
theorem la_13 (hC : gm_cl (laM la_c13) gm_tyf (some (L, xs)) (gm_Sp gm_MT (d + 61)) G X) (hK : laK G i c s) (hI : gI A F nw nx) (hi : i + 4 ≤ L) (hL : L ≤ 2048) : ∀ o6 o7 o8 : Option Value, G 948 [some (.ref 88888), some (.ref 0), some (.ref 24), some (.ref 37), some (.ref 38), some (.int (nI i)), o6, o7, o8] [] (gw A F nw nx LO DO) c s := by
  intro o6 o7 o8
  obtain ⟨A1, F1, nw1, nx1, LO1, k, c1, s1, A2, F2, b, hc, hs, S1, S2, hk, hb, hI2⟩ := c_coversByTerm (d := d) (LO := LO) (DO := DO) hI (xs (nI i + 1).toNatClampNeg) (xs (nI i + 2).toNatClampNeg)
  refine gm_runs hC [2282] 200 _ _ _ _ _ _ ?_
  refine And.intro (la_in1 hi hL) (And.intro (la_in2 hi hL) (Or.inl ⟨_, _, _, _, S1, And.intro (la_in1 hi hL) (And.intro (la_in2 hi hL) (Or.inl ⟨_, _, _, _, S2, Or.inl ⟨_, _, _, _, s_thrown, gx_t hk ?_⟩⟩))⟩))
  by_cases hk0 : k = 0
  · obtain ⟨e, hb2⟩ := hb hk0
    refine gx_f (fun z => z hk0) (And.intro la_in0 ?_)
    rcases hb2 with rfl | rfl
    · refine gx_t rfl (gx_t (show lg_cmp (LO1 0) 0 = 0 from by rw [e]; decide) ?_)
      exact hK _ _ _ _ _ _ _ _ _ _ _ hI2 (by omega) (by omega)
    · refine gx_f (show ¬ (1 : Int32) = 0 from by decide) (gx_t (show lg_cmp (LO1 0) 1 = 0 from by rw [e]; decide) ?_)
      exact hK _ _ _ _ _ _ _ _ _ _ _ hI2 (by omega) (by omega)
  · refine gx_t hk0 ?_
    exact hK _ _ _ _ _ _ _ _ _ _ _ hI2 (by omega) (by omega)
set_option maxRecDepth 4000 in
theorem la_14 (hC : gm_cl (laM la_c14) gm_tyf (some (L, xs)) (gm_Sp gm_MT (d + 61)) G X) (hK : laK G i c s) (hI : gI A F nw nx) (hi : i + 4 ≤ L) (hL : L ≤ 2048) : ∀ o6 o7 o8 : Option Value, G 1023 [some (.ref 88888), some (.ref 0), some (.ref 24), some (.ref 37), some (.ref 38), some (.int (nI i)), o6, o7, o8] [] (gw A F nw nx LO DO) c s := by
  intro o6 o7 o8
  obtain ⟨A1, F1, nw1, nx1, LO1, k, c1, s1, A2, F2, b, hc, hs, S1, S2, hk, hb, hI2⟩ := c_isEqual (d := d) (LO := LO) (DO := DO) hI (xs (nI i + 1).toNatClampNeg) (xs (nI i + 2).toNatClampNeg)
  refine gm_runs hC [2282] 200 _ _ _ _ _ _ ?_
  refine And.intro (la_in1 hi hL) (And.intro (la_in2 hi hL) (Or.inl ⟨_, _, _, _, S1, And.intro (la_in1 hi hL) (And.intro (la_in2 hi hL) (Or.inl ⟨_, _, _, _, S2, Or.inl ⟨_, _, _, _, s_thrown, gx_t hk ?_⟩⟩))⟩))
  by_cases hk0 : k = 0
  · obtain ⟨e, hb2⟩ := hb hk0
    refine gx_f (fun z => z hk0) (And.intro la_in0 ?_)
    rcases hb2 with rfl | rfl
    · refine gx_t rfl (gx_t (show lg_cmp (LO1 0) 0 = 0 from by rw [e]; decide) ?_)
      exact hK _ _ _ _ _ _ _ _ _ _ _ hI2 (by omega) (by omega)
    · refine gx_f (show ¬ (1 : Int32) = 0 from by decide) (gx_t (show lg_cmp (LO1 0) 1 = 0 from by rw [e]; decide) ?_)
      exact hK _ _ _ _ _ _ _ _ _ _ _ hI2 (by omega) (by omega)
  · refine gx_t hk0 ?_
    exact hK _ _ _ _ _ _ _ _ _ _ _ hI2 (by omega) (by omega)
set_option maxRecDepth 4000 in
theorem la_15 (hC : gm_cl (laM la_c15) gm_tyf (some (L, xs)) (gm_Sp gm_MT (d + 61)) G X) (hK : laK G i c s) (hI : gI A F nw nx) (hi : i + 4 ≤ L) (hL : L ≤ 2048) : ∀ o6 o7 o8 : Option Value, G 1098 [some (.ref 88888), some (.ref 0), some (.ref 24), some (.ref 37), some (.ref 38), some (.int (nI i)), o6, o7, o8] [] (gw A F nw nx LO DO) c s := by
  intro o6 o7 o8
  obtain ⟨A1, F1, nw1, nx1, LO1, k, c1, s1, A2, F2, b, hc, hs, S1, S2, hk, hb, hI2⟩ := c_rule (d := d) (LO := LO) (DO := DO) hI (xs (nI i + 1).toNatClampNeg)
  refine gm_runs hC [2282] 200 _ _ _ _ _ _ ?_
  refine And.intro (la_in1 hi hL) (Or.inl ⟨_, _, _, _, S1, And.intro (la_in1 hi hL) (Or.inl ⟨_, _, _, _, S2, Or.inl ⟨_, _, _, _, s_thrown, gx_t hk ?_⟩⟩)⟩)
  by_cases hk0 : k = 0
  · refine gx_f (fun z => z hk0) (And.intro la_in0 (gx_t (show lg_cmp (LO1 0) b.toInt64 = 0 from by rw [hb hk0]; exact la_cmp _) ?_))
    exact hK _ _ _ _ _ _ _ _ _ _ _ hI2 (by omega) (by omega)
  · refine gx_t hk0 ?_
    exact hK _ _ _ _ _ _ _ _ _ _ _ hI2 (by omega) (by omega)
set_option maxRecDepth 4000 in
theorem la_16 (hC : gm_cl (laM la_c16) gm_tyf (some (L, xs)) (gm_Sp gm_MT (d + 61)) G X) (hK : laK G i c s) (hI : gI A F nw nx) (hi : i + 4 ≤ L) (hL : L ≤ 2048) : ∀ o6 o7 o8 : Option Value, G 1154 [some (.ref 88888), some (.ref 0), some (.ref 24), some (.ref 37), some (.ref 38), some (.int (nI i)), o6, o7, o8] [] (gw A F nw nx LO DO) c s := by
  intro o6 o7 o8
  obtain ⟨A1, F1, nw1, nx1, LO1, k, c1, s1, A2, F2, b, hc, hs, S1, S2, hk, hb, hI2⟩ := c_step (d := d) (LO := LO) (DO := DO) hI (xs (nI i + 1).toNatClampNeg)
  refine gm_runs hC [2282] 200 _ _ _ _ _ _ ?_
  refine And.intro (la_in1 hi hL) (Or.inl ⟨_, _, _, _, S1, And.intro (la_in1 hi hL) (Or.inl ⟨_, _, _, _, S2, Or.inl ⟨_, _, _, _, s_thrown, gx_t hk ?_⟩⟩)⟩)
  by_cases hk0 : k = 0
  · refine gx_f (fun z => z hk0) (And.intro la_in0 (gx_t (show lg_cmp (LO1 0) b.toInt64 = 0 from by rw [hb hk0]; exact la_cmp _) ?_))
    exact hK _ _ _ _ _ _ _ _ _ _ _ hI2 (by omega) (by omega)
  · refine gx_t hk0 ?_
    exact hK _ _ _ _ _ _ _ _ _ _ _ hI2 (by omega) (by omega)
set_option maxRecDepth 4000 in
theorem la_17 (hC : gm_cl (laM la_c17) gm_tyf (some (L, xs)) (gm_Sp gm_MT (d + 61)) G X) (hK : laK G i c s) (hI : gI A F nw nx) (hi : i + 4 ≤ L) (hL : L ≤ 2048) : ∀ o6 o7 o8 : Option Value, G 1210 [some (.ref 88888), some (.ref 0), some (.ref 24), some (.ref 37), some (.ref 38), some (.int (nI i)), o6, o7, o8] [] (gw A F nw nx LO DO) c s := by
  intro o6 o7 o8
  obtain ⟨A1, F1, nw1, nx1, LO1, k, c1, s1, A2, F2, b, hc, hs, S1, S2, hk, hb, hI2⟩ := c_steps (d := d) (LO := LO) (DO := DO) hI (xs (nI i + 1).toNatClampNeg)
  refine gm_runs hC [2282] 200 _ _ _ _ _ _ ?_
  refine And.intro (la_in1 hi hL) (Or.inl ⟨_, _, _, _, S1, And.intro (la_in1 hi hL) (Or.inl ⟨_, _, _, _, S2, Or.inl ⟨_, _, _, _, s_thrown, gx_t hk ?_⟩⟩)⟩)
  by_cases hk0 : k = 0
  · refine gx_f (fun z => z hk0) (And.intro la_in0 (gx_t (show lg_cmp (LO1 0) b.toInt64 = 0 from by rw [hb hk0]; exact la_cmp _) ?_))
    exact hK _ _ _ _ _ _ _ _ _ _ _ hI2 (by omega) (by omega)
  · refine gx_t hk0 ?_
    exact hK _ _ _ _ _ _ _ _ _ _ _ hI2 (by omega) (by omega)
set_option maxRecDepth 4000 in
theorem la_18 (hC : gm_cl (laM la_c18) gm_tyf (some (L, xs)) (gm_Sp gm_MT (d + 61)) G X) (hK : laK G i c s) (hI : gI A F nw nx) (hi : i + 4 ≤ L) (hL : L ≤ 2048) : ∀ o6 o7 o8 : Option Value, G 1266 [some (.ref 88888), some (.ref 0), some (.ref 24), some (.ref 37), some (.ref 38), some (.int (nI i)), o6, o7, o8] [] (gw A F nw nx LO DO) c s := by
  intro o6 o7 o8
  obtain ⟨A1, F1, nw1, nx1, LO1, k, c1, s1, A2, F2, b, hc, hs, S1, S2, hk, hb, hI2⟩ := c_normalForm (d := d) (LO := LO) (DO := DO) hI (xs (nI i + 1).toNatClampNeg)
  refine gm_runs hC [2282] 200 _ _ _ _ _ _ ?_
  refine And.intro (la_in1 hi hL) (Or.inl ⟨_, _, _, _, S1, And.intro (la_in1 hi hL) (Or.inl ⟨_, _, _, _, S2, Or.inl ⟨_, _, _, _, s_thrown, gx_t hk ?_⟩⟩)⟩)
  by_cases hk0 : k = 0
  · refine gx_f (fun z => z hk0) (And.intro la_in0 (gx_t (show lg_cmp (LO1 0) b.toInt64 = 0 from by rw [hb hk0]; exact la_cmp _) ?_))
    exact hK _ _ _ _ _ _ _ _ _ _ _ hI2 (by omega) (by omega)
  · refine gx_t hk0 ?_
    exact hK _ _ _ _ _ _ _ _ _ _ _ hI2 (by omega) (by omega)
set_option maxRecDepth 4000 in
theorem la_19 (hC : gm_cl (laM la_c19) gm_tyf (some (L, xs)) (gm_Sp gm_MT (d + 61)) G X) (hK : laK G i c s) (hI : gI A F nw nx) (hi : i + 4 ≤ L) (hL : L ≤ 2048) : ∀ o6 o7 o8 : Option Value, G 1322 [some (.ref 88888), some (.ref 0), some (.ref 24), some (.ref 37), some (.ref 38), some (.int (nI i)), o6, o7, o8] [] (gw A F nw nx LO DO) c s := by
  intro o6 o7 o8
  obtain ⟨A1, F1, nw1, nx1, LO1, k, c1, s1, A2, F2, b, hc, hs, S1, S2, hk, hb, hI2⟩ := c_primes (d := d) (LO := LO) (DO := DO) hI (xs (nI i + 1).toNatClampNeg)
  refine gm_runs hC [2282] 200 _ _ _ _ _ _ ?_
  refine And.intro (la_in1 hi hL) (Or.inl ⟨_, _, _, _, S1, And.intro (la_in1 hi hL) (Or.inl ⟨_, _, _, _, S2, Or.inl ⟨_, _, _, _, s_thrown, gx_t hk ?_⟩⟩)⟩)
  by_cases hk0 : k = 0
  · refine gx_f (fun z => z hk0) (And.intro la_in0 (gx_t (show lg_cmp (LO1 0) b.toInt64 = 0 from by rw [hb hk0]; exact la_cmp _) ?_))
    exact hK _ _ _ _ _ _ _ _ _ _ _ hI2 (by omega) (by omega)
  · refine gx_t hk0 ?_
    exact hK _ _ _ _ _ _ _ _ _ _ _ hI2 (by omega) (by omega)
set_option maxRecDepth 4000 in
theorem la_20 (hC : gm_cl (laM la_c20) gm_tyf (some (L, xs)) (gm_Sp gm_MT (d + 61)) G X) (hK : laK G i c s) (hI : gI A F nw nx) (hi : i + 4 ≤ L) (hL : L ≤ 2048) : ∀ o6 o7 o8 : Option Value, G 1378 [some (.ref 88888), some (.ref 0), some (.ref 24), some (.ref 37), some (.ref 38), some (.int (nI i)), o6, o7, o8] [] (gw A F nw nx LO DO) c s := by
  intro o6 o7 o8
  obtain ⟨A1, F1, nw1, nx1, LO1, k, c1, s1, A2, F2, b, hc, hs, S1, S2, hk, hb, hI2⟩ := c_primesByTrying (d := d) (LO := LO) (DO := DO) hI (xs (nI i + 1).toNatClampNeg)
  refine gm_runs hC [2282] 200 _ _ _ _ _ _ ?_
  refine And.intro (la_in1 hi hL) (Or.inl ⟨_, _, _, _, S1, And.intro (la_in1 hi hL) (Or.inl ⟨_, _, _, _, S2, Or.inl ⟨_, _, _, _, s_thrown, gx_t hk ?_⟩⟩)⟩)
  by_cases hk0 : k = 0
  · refine gx_f (fun z => z hk0) (And.intro la_in0 (gx_t (show lg_cmp (LO1 0) b.toInt64 = 0 from by rw [hb hk0]; exact la_cmp _) ?_))
    exact hK _ _ _ _ _ _ _ _ _ _ _ hI2 (by omega) (by omega)
  · refine gx_t hk0 ?_
    exact hK _ _ _ _ _ _ _ _ _ _ _ hI2 (by omega) (by omega)
set_option maxRecDepth 4000 in
theorem la_21 (hC : gm_cl (laM la_c21) gm_tyf (some (L, xs)) (gm_Sp gm_MT (d + 61)) G X) (hK : laK G i c s) (hI : gI A F nw nx) (hi : i + 4 ≤ L) (hL : L ≤ 2048) : ∀ o6 o7 o8 : Option Value, G 1434 [some (.ref 88888), some (.ref 0), some (.ref 24), some (.ref 37), some (.ref 38), some (.int (nI i)), o6, o7, o8] [] (gw A F nw nx LO DO) c s := by
  intro o6 o7 o8
  obtain ⟨A1, F1, nw1, nx1, LO1, k, c1, s1, A2, F2, b, hc, hs, S1, S2, hk, hb, hI2⟩ := c_prime (d := d) (LO := LO) (DO := DO) hI (xs (nI i + 1).toNatClampNeg) (xs (nI i + 2).toNatClampNeg) (xs (nI i + 3).toNatClampNeg)
  refine gm_runs hC [2282] 200 _ _ _ _ _ _ ?_
  refine And.intro (la_in1 hi hL) (And.intro (la_in2 hi hL) (And.intro (la_in3 hi hL) (Or.inl ⟨_, _, _, _, S1, And.intro (la_in1 hi hL) (And.intro (la_in2 hi hL) (And.intro (la_in3 hi hL) (Or.inl ⟨_, _, _, _, S2, Or.inl ⟨_, _, _, _, s_thrown, gx_t hk ?_⟩⟩)))⟩)))
  by_cases hk0 : k = 0
  · refine gx_f (fun z => z hk0) (And.intro la_in0 (gx_t (show lg_cmp (LO1 0) b.toInt64 = 0 from by rw [hb hk0]; exact la_cmp _) ?_))
    exact hK _ _ _ _ _ _ _ _ _ _ _ hI2 (by omega) (by omega)
  · refine gx_t hk0 ?_
    exact hK _ _ _ _ _ _ _ _ _ _ _ hI2 (by omega) (by omega)
set_option maxRecDepth 4000 in
theorem la_22 (hC : gm_cl (laM la_c22) gm_tyf (some (L, xs)) (gm_Sp gm_MT (d + 61)) G X) (hK : laK G i c s) (hI : gI A F nw nx) (hi : i + 4 ≤ L) (hL : L ≤ 2048) : ∀ o6 o7 o8 : Option Value, G 1514 [some (.ref 88888), some (.ref 0), some (.ref 24), some (.ref 37), some (.ref 38), some (.int (nI i)), o6, o7, o8] [] (gw A F nw nx LO DO) c s := by
  intro o6 o7 o8
  obtain ⟨A1, F1, nw1, nx1, LO1, k, c1, s1, A2, F2, b, hc, hs, S1, S2, hk, hb, hI2⟩ := c_assume (d := d) (LO := LO) (DO := DO) hI (((xs (nI i + 1).toNatClampNeg).toUInt32 % 65536).toInt32) (xs (nI i + 2).toNatClampNeg) (xs (nI i + 3).toNatClampNeg)
  refine gm_runs hC [2282] 200 _ _ _ _ _ _ ?_
  refine And.intro (la_in1 hi hL) (And.intro (la_in2 hi hL) (And.intro (la_in3 hi hL) (Or.inl ⟨_, _, _, _, S1, And.intro (la_in1 hi hL) (And.intro (la_in2 hi hL) (And.intro (la_in3 hi hL) (Or.inl ⟨_, _, _, _, S2, Or.inl ⟨_, _, _, _, s_thrown, gx_t hk ?_⟩⟩)))⟩)))
  by_cases hk0 : k = 0
  · refine gx_f (fun z => z hk0) (And.intro la_in0 (gx_t (show lg_cmp (LO1 0) b.toInt64 = 0 from by rw [hb hk0]; exact la_cmp _) ?_))
    exact hK _ _ _ _ _ _ _ _ _ _ _ hI2 (by omega) (by omega)
  · refine gx_t hk0 ?_
    exact hK _ _ _ _ _ _ _ _ _ _ _ hI2 (by omega) (by omega)
set_option maxRecDepth 4000 in
theorem la_23 (hC : gm_cl (laM la_c23) gm_tyf (some (L, xs)) (gm_Sp gm_MT (d + 61)) G X) (hK : laK G i c s) (hI : gI A F nw nx) (hi : i + 4 ≤ L) (hL : L ≤ 2048) : ∀ o6 o7 o8 : Option Value, G 1596 [some (.ref 88888), some (.ref 0), some (.ref 24), some (.ref 37), some (.ref 38), some (.int (nI i)), o6, o7, o8] [] (gw A F nw nx LO DO) c s := by
  intro o6 o7 o8
  obtain ⟨A1, F1, nw1, nx1, LO1, k, c1, s1, A2, F2, b, hc, hs, S1, S2, hk, hb, hI2⟩ := c_drop (d := d) (LO := LO) (DO := DO) hI
  refine gm_runs hC [2282] 200 _ _ _ _ _ _ ?_
  refine Or.inl ⟨_, _, _, _, S1, Or.inl ⟨_, _, _, _, S2, Or.inl ⟨_, _, _, _, s_thrown, gx_t hk ?_⟩⟩⟩
  by_cases hk0 : k = 0
  · refine gx_f (fun z => z hk0) (And.intro la_in0 (gx_t (show lg_cmp (LO1 0) b.toInt64 = 0 from by rw [hb hk0]; exact la_cmp _) ?_))
    exact hK _ _ _ _ _ _ _ _ _ _ _ hI2 (by omega) (by omega)
  · refine gx_t hk0 ?_
    exact hK _ _ _ _ _ _ _ _ _ _ _ hI2 (by omega) (by omega)
set_option maxRecDepth 4000 in
theorem la_24 (hC : gm_cl (laM la_c24) gm_tyf (some (L, xs)) (gm_Sp gm_MT (d + 61)) G X) (hK : laK G i c s) (hI : gI A F nw nx) (hi : i + 4 ≤ L) (hL : L ≤ 2048) : ∀ o6 o7 o8 : Option Value, G 1640 [some (.ref 88888), some (.ref 0), some (.ref 24), some (.ref 37), some (.ref 38), some (.int (nI i)), o6, o7, o8] [] (gw A F nw nx LO DO) c s := by
  intro o6 o7 o8
  have hI9 := hI
  obtain ⟨rows, sp, n, h⟩ := hI
  refine gm_runs hC [2282] 200 _ _ _ _ _ _ ?_
  refine Or.inl ⟨_, _, _, _, f_assumptions, Or.inl ⟨_, _, _, _, s_assumptions7, gx_t (h.2.2.2.2.2.2.2.1.trans h.2.2.2.2.2.2.2.2.1.symm) ?_⟩⟩
  exact hK _ _ _ _ _ _ _ _ _ _ _ hI9 (by omega) (by omega)
set_option maxRecDepth 4000 in
theorem la_25 (hC : gm_cl (laM la_c25) gm_tyf (some (L, xs)) (gm_Sp gm_MT (d + 61)) G X) (hK : laK G i c s) (hI : gI A F nw nx) (hi : i + 4 ≤ L) (hL : L ≤ 2048) : ∀ o6 o7 o8 : Option Value, G 1653 [some (.ref 88888), some (.ref 0), some (.ref 24), some (.ref 37), some (.ref 38), some (.int (nI i)), o6, o7, o8] [] (gw A F nw nx LO DO) c s := by
  intro o6 o7 o8
  obtain ⟨A1, F1, nw1, nx1, LO1, k, c1, s1, A2, F2, b, hc, hs, S1, S2, hk, hb, hI2⟩ := c_setGoal (d := d) (LO := LO) (DO := DO) hI (((xs (nI i + 1).toNatClampNeg).toUInt32 % 65536).toInt32) (xs (nI i + 2).toNatClampNeg) (xs (nI i + 3).toNatClampNeg)
  refine gm_runs hC [2282] 200 _ _ _ _ _ _ ?_
  refine And.intro (la_in1 hi hL) (And.intro (la_in2 hi hL) (And.intro (la_in3 hi hL) (Or.inl ⟨_, _, _, _, S1, And.intro (la_in1 hi hL) (And.intro (la_in2 hi hL) (And.intro (la_in3 hi hL) (Or.inl ⟨_, _, _, _, S2, Or.inl ⟨_, _, _, _, s_thrown, gx_t hk ?_⟩⟩)))⟩)))
  by_cases hk0 : k = 0
  · obtain ⟨e, hb2⟩ := hb hk0
    refine gx_f (fun z => z hk0) (And.intro la_in0 ?_)
    rcases hb2 with rfl | rfl
    · refine gx_t rfl (gx_t (show lg_cmp (LO1 0) 0 = 0 from by rw [e]; decide) ?_)
      exact hK _ _ _ _ _ _ _ _ _ _ _ hI2 (by omega) (by omega)
    · refine gx_f (show ¬ (1 : Int32) = 0 from by decide) (gx_t (show lg_cmp (LO1 0) 1 = 0 from by rw [e]; decide) ?_)
      exact hK _ _ _ _ _ _ _ _ _ _ _ hI2 (by omega) (by omega)
  · refine gx_t hk0 ?_
    exact hK _ _ _ _ _ _ _ _ _ _ _ hI2 (by omega) (by omega)
set_option maxRecDepth 4000 in
theorem la_26 (hC : gm_cl (laM la_c26) gm_tyf (some (L, xs)) (gm_Sp gm_MT (d + 61)) G X) (hK : laK G i c s) (hI : gI A F nw nx) (hi : i + 4 ≤ L) (hL : L ≤ 2048) : ∀ o6 o7 o8 : Option Value, G 1742 [some (.ref 88888), some (.ref 0), some (.ref 24), some (.ref 37), some (.ref 38), some (.int (nI i)), o6, o7, o8] [] (gw A F nw nx LO DO) c s := by
  intro o6 o7 o8
  have hI9 := hI
  obtain ⟨rows, sp, n, h⟩ := hI
  refine gm_runs hC [2282] 200 _ _ _ _ _ _ ?_
  refine Or.inl ⟨_, _, _, _, f_isConsistent h.2.2.2.2.2.2.2.1 h.2.2.2.2.2.2.1, Or.inl ⟨_, _, _, _, s_isConsistent7 h.mok h.2.2.2.2.2.2.2.2.1, gx_t (by have e1 := h.al; unfold mAl at e1; rw [e1, sMod_ext h.dp]; exact rfl) ?_⟩⟩
  exact hK _ _ _ _ _ _ _ _ _ _ _ hI9 (by omega) (by omega)
set_option maxRecDepth 4000 in
theorem la_27 (hC : gm_cl (laM la_c27) gm_tyf (some (L, xs)) (gm_Sp gm_MT (d + 61)) G X) (hK : laK G i c s) (hI : gI A F nw nx) (hi : i + 4 ≤ L) (hL : L ≤ 2048) : ∀ o6 o7 o8 : Option Value, G 1755 [some (.ref 88888), some (.ref 0), some (.ref 24), some (.ref 37), some (.ref 38), some (.int (nI i)), o6, o7, o8] [] (gw A F nw nx LO DO) c s := by
  intro o6 o7 o8
  obtain ⟨A1, F1, nw1, nx1, LO1, k, c1, s1, A2, F2, b, hc, hs, S1, S2, hk, hb, hI2⟩ := c_deniedBy (d := d) (LO := LO) (DO := DO) hI (xs (nI i + 1).toNatClampNeg)
  refine gm_runs hC [2282] 200 _ _ _ _ _ _ ?_
  refine And.intro (la_in1 hi hL) (Or.inl ⟨_, _, _, _, S1, And.intro (la_in1 hi hL) (Or.inl ⟨_, _, _, _, S2, Or.inl ⟨_, _, _, _, s_thrown, gx_t hk ?_⟩⟩)⟩)
  by_cases hk0 : k = 0
  · refine gx_f (fun z => z hk0) (And.intro la_in0 (gx_t (show lg_cmp (LO1 0) b.toInt64 = 0 from by rw [hb hk0]; exact la_cmp _) ?_))
    exact hK _ _ _ _ _ _ _ _ _ _ _ hI2 (by omega) (by omega)
  · refine gx_t hk0 ?_
    exact hK _ _ _ _ _ _ _ _ _ _ _ hI2 (by omega) (by omega)
set_option maxRecDepth 4000 in
theorem la_28 (hC : gm_cl (laM la_c28) gm_tyf (some (L, xs)) (gm_Sp gm_MT (d + 61)) G X) (hK : laK G i c s) (hI : gI A F nw nx) (hi : i + 4 ≤ L) (hL : L ≤ 2048) : ∀ o6 o7 o8 : Option Value, G 1811 [some (.ref 88888), some (.ref 0), some (.ref 24), some (.ref 37), some (.ref 38), some (.int (nI i)), o6, o7, o8] [] (gw A F nw nx LO DO) c s := by
  intro o6 o7 o8
  obtain ⟨A1, F1, nw1, nx1, LO1, k, c1, s1, A2, F2, b, hc, hs, S1, S2, hk, hb, hI2⟩ := c_follows (d := d) (LO := LO) (DO := DO) hI
  refine gm_runs hC [2282] 200 _ _ _ _ _ _ ?_
  refine Or.inl ⟨_, _, _, _, S1, Or.inl ⟨_, _, _, _, S2, Or.inl ⟨_, _, _, _, s_thrown, gx_t hk ?_⟩⟩⟩
  by_cases hk0 : k = 0
  · obtain ⟨e, hb2⟩ := hb hk0
    refine gx_f (fun z => z hk0) (And.intro la_in0 ?_)
    rcases hb2 with rfl | rfl
    · refine gx_t rfl (gx_t (show lg_cmp (LO1 0) 0 = 0 from by rw [e]; decide) ?_)
      exact hK _ _ _ _ _ _ _ _ _ _ _ hI2 (by omega) (by omega)
    · refine gx_f (show ¬ (1 : Int32) = 0 from by decide) (gx_t (show lg_cmp (LO1 0) 1 = 0 from by rw [e]; decide) ?_)
      exact hK _ _ _ _ _ _ _ _ _ _ _ hI2 (by omega) (by omega)
  · refine gx_t hk0 ?_
    exact hK _ _ _ _ _ _ _ _ _ _ _ hI2 (by omega) (by omega)
set_option maxRecDepth 4000 in
theorem la_29 (hC : gm_cl (laM la_c29) gm_tyf (some (L, xs)) (gm_Sp gm_MT (d + 61)) G X) (hK : laK G i c s) (hI : gI A F nw nx) (hi : i + 4 ≤ L) (hL : L ≤ 2048) : ∀ o6 o7 o8 : Option Value, G 1862 [some (.ref 88888), some (.ref 0), some (.ref 24), some (.ref 37), some (.ref 38), some (.int (nI i)), o6, o7, o8] [] (gw A F nw nx LO DO) c s := by
  intro o6 o7 o8
  obtain ⟨A1, F1, nw1, nx1, LO1, k, c1, s1, A2, F2, b, hc, hs, S1, S2, hk, hb, hI2⟩ := c_why (d := d) (LO := LO) (DO := DO) hI
  refine gm_runs hC [2282] 200 _ _ _ _ _ _ ?_
  refine Or.inl ⟨_, _, _, _, S1, Or.inl ⟨_, _, _, _, S2, Or.inl ⟨_, _, _, _, s_thrown, gx_t hk ?_⟩⟩⟩
  by_cases hk0 : k = 0
  · refine gx_f (fun z => z hk0) (And.intro la_in0 (gx_t (show lg_cmp (LO1 0) b.toInt64 = 0 from by rw [hb hk0]; exact la_cmp _) ?_))
    exact hK _ _ _ _ _ _ _ _ _ _ _ hI2 (by omega) (by omega)
  · refine gx_t hk0 ?_
    exact hK _ _ _ _ _ _ _ _ _ _ _ hI2 (by omega) (by omega)
set_option maxRecDepth 4000 in
theorem la_30 (hC : gm_cl (laM la_c30) gm_tyf (some (L, xs)) (gm_Sp gm_MT (d + 61)) G X) (hK : laK G i c s) (hI : gI A F nw nx) (hi : i + 4 ≤ L) (hL : L ≤ 2048) : ∀ o6 o7 o8 : Option Value, G 1906 [some (.ref 88888), some (.ref 0), some (.ref 24), some (.ref 37), some (.ref 38), some (.int (nI i)), o6, o7, o8] [] (gw A F nw nx LO DO) c s := by
  intro o6 o7 o8
  obtain ⟨A1, F1, nw1, nx1, LO1, k, c1, s1, A2, F2, b, hc, hs, S1, S2, hk, hb, hI2⟩ := c_witness (d := d) (LO := LO) (DO := DO) hI
  refine gm_runs hC [2282] 200 _ _ _ _ _ _ ?_
  refine Or.inl ⟨_, _, _, _, S1, Or.inl ⟨_, _, _, _, S2, Or.inl ⟨_, _, _, _, s_thrown, gx_t hk ?_⟩⟩⟩
  by_cases hk0 : k = 0
  · refine gx_f (fun z => z hk0) (And.intro la_in0 (gx_t (show lg_cmp (LO1 0) b.toInt64 = 0 from by rw [hb hk0]; exact la_cmp _) ?_))
    exact hK _ _ _ _ _ _ _ _ _ _ _ hI2 (by omega) (by omega)
  · refine gx_t hk0 ?_
    exact hK _ _ _ _ _ _ _ _ _ _ _ hI2 (by omega) (by omega)
set_option maxRecDepth 4000 in
theorem la_31 (hC : gm_cl (laM la_c31) gm_tyf (some (L, xs)) (gm_Sp gm_MT (d + 61)) G X) (hK : laK G i c s) (hI : gI A F nw nx) (hi : i + 4 ≤ L) (hL : L ≤ 2048) : ∀ o6 o7 o8 : Option Value, G 1950 [some (.ref 88888), some (.ref 0), some (.ref 24), some (.ref 37), some (.ref 38), some (.int (nI i)), o6, o7, o8] [] (gw A F nw nx LO DO) c s := by
  intro o6 o7 o8
  obtain ⟨A1, F1, nw1, nx1, LO1, k, c1, s1, A2, F2, b, hc, hs, S1, S2, hk, hb, hI2⟩ := c_elements (d := d) (LO := LO) (DO := DO) hI
  refine gm_runs hC [2282] 200 _ _ _ _ _ _ ?_
  refine Or.inl ⟨_, _, _, _, S1, Or.inl ⟨_, _, _, _, S2, Or.inl ⟨_, _, _, _, s_thrown, gx_t hk ?_⟩⟩⟩
  by_cases hk0 : k = 0
  · refine gx_f (fun z => z hk0) (And.intro la_in0 (gx_t (show lg_cmp (LO1 0) b.toInt64 = 0 from by rw [hb hk0]; exact la_cmp _) ?_))
    exact hK _ _ _ _ _ _ _ _ _ _ _ hI2 (by omega) (by omega)
  · refine gx_t hk0 ?_
    exact hK _ _ _ _ _ _ _ _ _ _ _ hI2 (by omega) (by omega)
set_option maxRecDepth 4000 in
theorem la_32 (hC : gm_cl (laM la_c32) gm_tyf (some (L, xs)) (gm_Sp gm_MT (d + 61)) G X) (hK : laK G i c s) (hI : gI A F nw nx) (hi : i + 4 ≤ L) (hL : L ≤ 2048) : ∀ o6 o7 o8 : Option Value, G 1994 [some (.ref 88888), some (.ref 0), some (.ref 24), some (.ref 37), some (.ref 38), some (.int (nI i)), o6, o7, o8] [] (gw A F nw nx LO DO) c s := by
  intro o6 o7 o8
  obtain ⟨A1, F1, nw1, nx1, LO1, k, c1, s1, A2, F2, b, hc, hs, S1, S2, hk, hb, hI2⟩ := c_elementsByTrying (d := d) (LO := LO) (DO := DO) hI
  refine gm_runs hC [2282] 200 _ _ _ _ _ _ ?_
  refine Or.inl ⟨_, _, _, _, S1, Or.inl ⟨_, _, _, _, S2, Or.inl ⟨_, _, _, _, s_thrown, gx_t hk ?_⟩⟩⟩
  by_cases hk0 : k = 0
  · refine gx_f (fun z => z hk0) (And.intro la_in0 (gx_t (show lg_cmp (LO1 0) b.toInt64 = 0 from by rw [hb hk0]; exact la_cmp _) ?_))
    exact hK _ _ _ _ _ _ _ _ _ _ _ hI2 (by omega) (by omega)
  · refine gx_t hk0 ?_
    exact hK _ _ _ _ _ _ _ _ _ _ _ hI2 (by omega) (by omega)
set_option maxRecDepth 4000 in
theorem la_33 (hC : gm_cl (laM la_c33) gm_tyf (some (L, xs)) (gm_Sp gm_MT (d + 61)) G X) (hK : laK G i c s) (hI : gI A F nw nx) (hi : i + 4 ≤ L) (hL : L ≤ 2048) : ∀ o6 o7 o8 : Option Value, G 2038 [some (.ref 88888), some (.ref 0), some (.ref 24), some (.ref 37), some (.ref 38), some (.int (nI i)), o6, o7, o8] [] (gw A F nw nx LO DO) c s := by
  intro o6 o7 o8
  obtain ⟨A1, F1, nw1, nx1, LO1, k, c1, s1, A2, F2, b, hc, hs, S1, S2, hk, hb, hI2⟩ := c_region (d := d) (LO := LO) (DO := DO) hI (xs (nI i + 1).toNatClampNeg)
  refine gm_runs hC [2282] 200 _ _ _ _ _ _ ?_
  refine And.intro (la_in1 hi hL) (Or.inl ⟨_, _, _, _, S1, And.intro (la_in1 hi hL) (Or.inl ⟨_, _, _, _, S2, Or.inl ⟨_, _, _, _, s_thrown, gx_t hk ?_⟩⟩)⟩)
  by_cases hk0 : k = 0
  · refine gx_f (fun z => z hk0) (And.intro la_in0 (gx_t (show lg_cmp (LO1 0) b.toInt64 = 0 from by rw [hb hk0]; exact la_cmp _) ?_))
    exact hK _ _ _ _ _ _ _ _ _ _ _ hI2 (by omega) (by omega)
  · refine gx_t hk0 ?_
    exact hK _ _ _ _ _ _ _ _ _ _ _ hI2 (by omega) (by omega)
set_option maxRecDepth 4000 in
theorem la_34 (hC : gm_cl (laM la_c34) gm_tyf (some (L, xs)) (gm_Sp gm_MT (d + 61)) G X) (hK : laK G i c s) (hI : gI A F nw nx) (hi : i + 4 ≤ L) (hL : L ≤ 2048) : ∀ o6 o7 o8 : Option Value, G 2094 [some (.ref 88888), some (.ref 0), some (.ref 24), some (.ref 37), some (.ref 38), some (.int (nI i)), o6, o7, o8] [] (gw A F nw nx LO DO) c s := by
  intro o6 o7 o8
  obtain ⟨A1, F1, nw1, nx1, LO1, k, c1, s1, A2, F2, b, hc, hs, S1, S2, hk, hb, hI2⟩ := c_models (d := d) (LO := LO) (DO := DO) hI (xs (nI i + 1).toNatClampNeg)
  refine gm_runs hC [2282] 200 _ _ _ _ _ _ ?_
  refine And.intro (la_in1 hi hL) (Or.inl ⟨_, _, _, _, S1, And.intro (la_in1 hi hL) (Or.inl ⟨_, _, _, _, S2, Or.inl ⟨_, _, _, _, s_thrown, gx_t hk ?_⟩⟩)⟩)
  by_cases hk0 : k = 0
  · refine gx_f (fun z => z hk0) (And.intro la_in0 (gx_t (show lg_cmp (LO1 0) b = 0 from by rw [hb hk0]; exact la_cmp _) ?_))
    exact hK _ _ _ _ _ _ _ _ _ _ _ hI2 (by omega) (by omega)
  · refine gx_t hk0 ?_
    exact hK _ _ _ _ _ _ _ _ _ _ _ hI2 (by omega) (by omega)
set_option maxRecDepth 4000 in
theorem la_36 (hC : gm_cl (laM la_c36) gm_tyf (some (L, xs)) (gm_Sp gm_MT (d + 61)) G X) (hK : laK G i c s) (hI : gI A F nw nx) (hi : i + 4 ≤ L) (hL : L ≤ 2048) : ∀ o6 o7 o8 : Option Value, G 2204 [some (.ref 88888), some (.ref 0), some (.ref 24), some (.ref 37), some (.ref 38), some (.int (nI i)), o6, o7, o8] [] (gw A F nw nx LO DO) c s := by
  intro o6 o7 o8
  obtain ⟨A1, F1, nw1, nx1, DO1, k, c1, s1, A2, F2, b, hc, hs, S1, S2, hk, hb, hI2⟩ := c_density (d := d) (LO := LO) (DO := DO) hI (xs (nI i + 1).toNatClampNeg)
  refine gm_runs hC [2282] 200 _ _ _ _ _ _ ?_
  refine And.intro (la_in1 hi hL) (Or.inl ⟨_, _, _, _, S1, And.intro (la_in1 hi hL) (Or.inl ⟨_, _, _, _, S2, Or.inl ⟨_, _, _, _, s_thrown, gx_t hk ?_⟩⟩)⟩)
  by_cases hk0 : k = 0
  · obtain ⟨e, e1, e2⟩ := hb hk0
    refine gx_f (fun z => z hk0) (And.intro la_in0 (And.intro e1 (gx_t (show Op.cmpValue (FP.dcmp (DO1 0) (FP.f2d b)) .l = 0 from by rw [e]; exact e2) ?_)))
    exact hK _ _ _ _ _ _ _ _ _ _ _ hI2 (by omega) (by omega)
  · refine gx_t hk0 ?_
    exact hK _ _ _ _ _ _ _ _ _ _ _ hI2 (by omega) (by omega)
end LA
