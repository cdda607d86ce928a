/-! WHETHER A TERM COVERS A REGION, by its parts -/
def gRe (k : Int32) (bl br : Bool) : Bool := if k = 49 then true else if k = 67 then !bl else if k = 68 then bl && !br else if k = 73 then bl && br else if k = 83 then bl ^^ br else if k = 85 then bl || br else false
theorem gRe_iB {k : Int32} (hk : k = 48 ∨ k = 49 ∨ k = 67 ∨ k = 68 ∨ k = 73 ∨ k = 83 ∨ k = 85) {r : Nat} (hr : r < 16) (x y : Int32) : iB (gCov k x y) r = gRe k (iB x r) (iB y r) := by
  have all : iB 65535 r = true := by
    have h : ∀ r, r < 16 → iB 65535 r = true := by decide +kernel
    exact h r hr
  rcases hk with rfl | rfl | rfl | rfl | rfl | rfl | rfl
  · exact iB_0 r
  · exact all
  · show iB (65535 &&& (x ^^^ (-1))) r = !(iB x r)
    rw [iB_and, iB_not _ (by omega), all, Bool.true_and]
  · show iB (x &&& (y ^^^ (-1))) r = (iB x r && !(iB y r))
    rw [iB_and, iB_not _ (by omega)]
  · show iB (x &&& y) r = (iB x r && iB y r)
    rw [iB_and]
  · show iB (x ^^^ y) r = ((iB x r) ^^ (iB y r))
    rw [iB_xor]
  · show iB (x ||| y) r = (iB x r || iB y r)
    rw [iB_or]
theorem gLt_iB : ∀ j, j < 4 → ∀ r, r < 16 → sIn (nI (97 + j) - 97) (nI r) = iB (gCov (nI (97 + j)) 0 0) r := by decide +kernel
theorem gSg_sp {k : Int32} (h : gSg k) : (∃ j, j < 4 ∧ k = nI (97 + j)) ∨ (k = 48 ∨ k = 49 ∨ k = 67 ∨ k = 68 ∨ k = 73 ∨ k = 83 ∨ k = 85) := by
  rcases h with rfl | rfl | rfl | rfl | rfl | rfl | rfl | rfl | rfl | rfl | rfl
  · exact Or.inr (by decide)
  · exact Or.inr (by decide)
  · exact Or.inl ⟨0, by decide, rfl⟩
  · exact Or.inl ⟨1, by decide, rfl⟩
  · exact Or.inl ⟨2, by decide, rfl⟩
  · exact Or.inl ⟨3, by decide, rfl⟩
  · exact Or.inr (by decide)
  · exact Or.inr (by decide)
  · exact Or.inr (by decide)
  · exact Or.inr (by decide)
  · exact Or.inr (by decide)
section X
variable {nw nx : Nat} {LO : Nat → Int64} {DO : Nat → UInt64} {d : Nat} {A : Nat → Nat → Int32} {F : Nat → Int32} {rows : List (Int32 × Int32 × Int32)} {sp : Nat → List Int32}
theorem s_reach_tail {k x y z : Int32} (hk : k = 48 ∨ k = 49 ∨ k = 67 ∨ k = 68 ∨ k = 73 ∨ k = 83 ∨ k = 85) (G : pG) (X : pX) (hC : gm_cl gm_mX4_reachesBelow gm_tyf none (gm_Sp gm_MT d) G X) (bl br : Bool) (hX : X (.inl (some (.int (gB (gRe k bl br))))) (gw A F nw nx LO DO) 0 0) : G 77 [some (.ref 1), some (.int x), some (.int y), some (.int z), some (.int k), some (.int (gB bl)), some (.int (gB br))] [] (gw A F nw nx LO DO) 0 0 := by
  rcases hk with rfl | rfl | rfl | rfl | rfl | rfl | rfl
  all_goals cases bl <;> cases br
  all_goals
    refine gm_runs hC [] 200 _ _ _ _ _ _ ?_
    repeat first | refine gx_t (show (0 : Int32) = 0 from rfl) ?_ | refine gx_t (show (1 : Int32) = 1 from rfl) ?_ | refine gx_f (show ¬ (1 : Int32) = 0 from by decide) ?_ | refine gx_f (show ¬ (0 : Int32) = 1 from by decide) ?_ | refine gx_t (show ¬ (1 : Int32) = 0 from by decide) ?_ | refine gx_f (show ¬ ¬ (0 : Int32) = 0 from fun z => z rfl) ?_ | refine gx_t (by decide) ?_ | refine gx_f (by decide) ?_
    exact gx_z hX (gB_01 _) rfl rfl
theorem s_reachN {n0 : Nat} (hn : n0 ≤ 120) (hF : F 0 = nI n0) {t x y : Int32} (ht : gT n0 t = none) : gm_Sp gm_MT (d + 2) 5015 [.ref 1, .int t, .int x, .int y] (gw A F nw nx LO DO) (.inl (some (.int 0))) (gw A F nw nx LO DO) 0 0 := by
  refine gm_mk gm_mX4_reachesBelow rfl ⟨Or.inr rfl, rfl, rfl, trivial⟩ (fun G X hC hX => ?_)
  have hk := s_isKnown (A := A) (F := F) (nw := nw) (nx := nx) (LO := LO) (DO := DO) (d := d) t hn hF
  rw [ht] at hk
  refine gm_runs hC [] 200 _ _ _ _ _ _ ?_
  by_cases c : (40 : Int32) ≤ y
  · exact gx_t c (gx_z hX (Or.inl rfl) rfl rfl)
  · exact gx_f c (Or.inl ⟨_, _, _, _, hk, gx_f (show ¬ ¬ (0 : Int32) = 0 from fun z => z rfl) (gx_z hX (Or.inl rfl) rfl rfl)⟩)
theorem s_reach (hR : gRp A rows sp) (hF : F 0 = nI rows.length) {r : Nat} (hr : r < 16) : ∀ (m t e : Nat), t < rows.length → (sp t).length ≤ m → e + (sp t).length ≤ 40 → gm_Sp gm_MT (d + 2 + m) 5015 [.ref 1, .int (nI t), .int (nI r), .int (nI e)] (gw A F nw nx LO DO) (.inl (some (.int (gB (iB (A 6 t) r))))) (gw A F nw nx LO DO) 0 0 := by
  intro m
  induction m with
  | zero =>
    intro t e ht hl
    have := hR.1.pos ht
    omega
  | succ m ih =>
    intro t e ht hl he
    have hpos := hR.1.pos ht
    have hn := hR.1.1
    obtain ⟨b1, b2, b3, b4⟩ := hR.1.2 t ht
    have hcov := hR.2.2 t ht
    have hk := s_isKnown (A := A) (F := F) (nw := nw) (nx := nx) (LO := LO) (DO := DO) (d := d + 1 + m) (nI t) hn hF
    rw [gT_nI ht hn] at hk
    have hh := s_headN (A := A) (F := F) (nw := nw) (nx := nx) (LO := LO) (DO := DO) (d := d + m) hR.1 hF ht
    have hlf := s_leftN (A := A) (F := F) (nw := nw) (nx := nx) (LO := LO) (DO := DO) (d := d + m) hn hF ht
    have hrt := s_rightN (A := A) (F := F) (nw := nw) (nx := nx) (LO := LO) (DO := DO) (d := d + m) hn hF ht
    have e1 : d + m + 2 = d + 2 + m := by omega
    have e2 : d + 1 + m + 1 = d + 2 + m := by omega
    rw [e1] at hh hlf hrt
    rw [e2] at hk
    have n1 : ¬ (40 : Int32) ≤ nI e := nI_ge (b := 40) (by omega) (by decide)
    have down : ∀ (q : Int32), (q = -1 ∨ ∃ a, a < t ∧ q = nI a ∧ (sp a).length < (sp t).length) → gm_Sp gm_MT (d + 2 + m) 5015 [.ref 1, .int q, .int (nI r), .int (nI e + 1)] (gw A F nw nx LO DO) (.inl (some (.int (gB (iB (gO (A 6) (gT t q) 0) r))))) (gw A F nw nx LO DO) 0 0 := by
      intro q hq
      rcases hq with rfl | ⟨a, ha, rfl, hla⟩
      · rw [gT_m1]
        have := s_reachN (A := A) (F := F) (nw := nw) (nx := nx) (LO := LO) (DO := DO) (d := d + m) (x := nI r) (y := nI e + 1) hn hF (t := -1) (gT_m1 ..)
        rw [e1] at this
        show gm_Sp gm_MT (d + 2 + m) 5015 _ _ (.inl (some (.int (gB (iB 0 r))))) _ 0 0
        rw [iB_0]
        exact this
      · rw [gT_nI ha (by omega), nI_1]
        exact ih a (e + 1) (by omega) (by omega) (by omega)
    refine gm_mk gm_mX4_reachesBelow rfl ⟨Or.inr rfl, rfl, rfl, trivial⟩ (fun G X hC hX => ?_)
    have hC : gm_cl gm_mX4_reachesBelow gm_tyf none (gm_Sp gm_MT (d + 2 + m)) G X := hC
    rcases gSg_sp b3 with ⟨j, hj, hkj⟩ | hkk
    · have ha0 : tAr (A 2 t) = 0 := by
        rw [hkj]
        have h : ∀ j, j < 4 → tAr (nI (97 + j)) = 0 := by decide +kernel
        exact h j hj
      have hL : A 3 t = -1 ∧ A 4 t = -1 := by
        rcases b4 with ⟨-, c1, c2, -⟩ | ⟨c0, -⟩ | ⟨c0, -⟩
        · exact ⟨c1, c2⟩
        · rw [ha0] at c0; cases c0
        · rw [ha0] at c0; cases c0
      have hcv : iB (A 6 t) r = sIn (A 2 t - 97) (nI r) := by
        rw [hcov, hL.1, hL.2, gT_m1, hkj, gLt_iB j hj r hr]
        rfl
      rw [hcv] at hX
      have hi := s_isIn (A := A) (F := F) (nw := nw) (nx := nx) (LO := LO) (DO := DO) (d := d + 1 + m) (A 2 t - 97) (nI r)
      rw [e2] at hi
      have g1 : ¬ A 2 t < 97 := by rw [hkj]; exact nI_nlt (b := 97) (by omega) (by omega)
      have g2 : ¬ (100 : Int32) < A 2 t := by rw [hkj]; exact nI_nlt (a := 100) (by omega) (by omega)
      refine gm_runs hC [] 200 _ _ _ _ _ _ ?_
      exact gx_f n1 (Or.inl ⟨_, _, _, _, hk, gx_t (show ¬ (1 : Int32) = 0 from by decide) (Or.inl ⟨_, _, _, _, hh, gx_f g1 (gx_f g2 ⟨_, _, _, _, hi, gx_z hX (gB_01 _) rfl rfl⟩)⟩)⟩)
    · have hsub : (A 3 t = -1 ∨ ∃ a, a < t ∧ A 3 t = nI a ∧ (sp a).length < (sp t).length) ∧ (A 4 t = -1 ∨ ∃ a, a < t ∧ A 4 t = nI a ∧ (sp a).length < (sp t).length) := by
        rcases b4 with ⟨-, c1, c2, -⟩ | ⟨-, c2, a, ha, c1, c3⟩ | ⟨-, a, b, ha, hb, c1, c2, c3⟩
        · exact ⟨Or.inl c1, Or.inl c2⟩
        · exact ⟨Or.inr ⟨a, ha, c1, by rw [c3]; simp⟩, Or.inl c2⟩
        · exact ⟨Or.inr ⟨a, ha, c1, by rw [c3]; simp only [List.length_cons, List.length_append]; omega⟩, Or.inr ⟨b, hb, c2, by rw [c3]; simp only [List.length_cons, List.length_append]; omega⟩⟩
      have d1 := down (A 3 t) hsub.1
      have d2 := down (A 4 t) hsub.2
      have hcv : iB (A 6 t) r = gRe (A 2 t) (iB (gO (A 6) (gT t (A 3 t)) 0) r) (iB (gO (A 6) (gT t (A 4 t)) 0) r) := by
        rw [hcov]
        exact gRe_iB hkk hr _ _
      rw [hcv] at hX
      have tail := s_reach_tail (x := nI t) (y := nI r) (z := nI e) hkk G X hC _ _ hX
      have g1 : A 2 t < 97 := by
        rcases hkk with h | h | h | h | h | h | h <;> rw [h] <;> decide
      refine gm_runs hC [77] 200 _ _ _ _ _ _ ?_
      exact gx_f n1 (Or.inl ⟨_, _, _, _, hk, gx_t (show ¬ (1 : Int32) = 0 from by decide) (Or.inl ⟨_, _, _, _, hh, gx_t g1 (Or.inl ⟨_, _, _, _, hlf, Or.inl ⟨_, _, _, _, d1, Or.inl ⟨_, _, _, _, hrt, Or.inl ⟨_, _, _, _, d2, tail⟩⟩⟩⟩)⟩)⟩)
theorem s_reaches (hR : gRp A rows sp) (hF : F 0 = nI rows.length) {r : Nat} (hr : r < 16) {t : Nat} (ht : t < rows.length) : gm_Sp gm_MT (d + 43) 5014 [.ref 1, .int (nI t), .int (nI r)] (gw A F nw nx LO DO) (.inl (some (.int (gB (sIn (nI r) (A 6 t)))))) (gw A F nw nx LO DO) 0 0 := by
  have h := s_reach (nw := nw) (nx := nx) (LO := LO) (DO := DO) (d := d) hR hF hr 40 t 0 ht (hR.1.2 t ht).1 (by have := (hR.1.2 t ht).1; omega)
  rw [sIn_iB (by omega)]
  have h : gm_Sp gm_MT (d + 42) 5015 [.ref 1, .int (nI t), .int (nI r), .int 0] (gw A F nw nx LO DO) (.inl (some (.int (gB (iB (A 6 t) r))))) (gw A F nw nx LO DO) 0 0 := h
  refine gm_mk gm_mX4_reaches rfl ⟨Or.inr rfl, rfl, rfl, trivial⟩ (fun G X hC hX => ?_)
  refine gm_runs hC [] 200 _ _ _ _ _ _ ?_
  exact Or.inl ⟨_, _, _, _, h, gx_z hX (gB_01 _) rfl rfl⟩
end X