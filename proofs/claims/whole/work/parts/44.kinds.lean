/-! STATEMENTS: kinds and regions, on both sides -/
def sDem (k : Int32) : Bool := decide (k = 120 ∨ k = 110 ∨ k = 105)
def sDen (k : Int32) : Bool := decide (k = 115 ∨ k = 101 ∨ k = 100)
def sReg (k a b : Int32) : Int32 := if k = 115 ∨ k = 120 then a &&& (b ^^^ (-1)) else if k = 101 ∨ k = 110 then a ^^^ b else a &&& b
section X
variable {nw nx : Nat} {LO : Nat → Int64} {DO : Nat → UInt64} {d n : Nat} {A : Nat → Nat → Int32} {F : Nat → Int32}
theorem s_isDemand6 (k : Int32) : gm_Sp gm_MT (d + 1) 7043 [.int k] (gw A F nw nx LO DO) (.inl (some (.int (gB (sDem k))))) (gw A F nw nx LO DO) 0 0 := by
  refine gm_mk gm_mX6_isDemand rfl ⟨Or.inr rfl, rfl, rfl, trivial⟩ (fun G X hC hX => ?_)
  have hX1 : (k = 120 ∨ k = 110 ∨ k = 105) → X (.inl (some (.int 1))) (gw A F nw nx LO DO) 0 0 := fun z => by
    rw [show sDem k = true from decide_eq_true z] at hX
    exact hX
  have hX0 : ¬ (k = 120 ∨ k = 110 ∨ k = 105) → X (.inl (some (.int 0))) (gw A F nw nx LO DO) 0 0 := fun z => by
    rw [show sDem k = false from decide_eq_false z] at hX
    exact hX
  refine gm_runs hC [] 200 _ _ _ _ _ _ ?_
  exact And.intro (fun (c : k = 120) => gx_z (hX1 (Or.inl c)) (Or.inr rfl) rfl rfl) (fun (c1 : ¬ k = 120) => And.intro (fun (c : k = 110) => gx_z (hX1 (Or.inr (Or.inl c))) (Or.inr rfl) rfl rfl) (fun (c2 : ¬ k = 110) => And.intro (fun (c3 : ¬ k = 105) => gx_z (hX0 (fun z => z.elim c1 (fun z => z.elim c2 c3))) (Or.inl rfl) rfl rfl) (fun (c : ¬ ¬ k = 105) => gx_z (hX1 (Or.inr (Or.inr (Decidable.of_not_not c)))) (Or.inr rfl) rfl rfl)))
theorem s_isDemand7 (k : Int32) : gm_Sp gm_MT (d + 1) 8048 [.int k] (gw A F nw nx LO DO) (.inl (some (.int (gB (sDem k))))) (gw A F nw nx LO DO) 0 0 := by
  refine gm_mk gm_mX7_isDemand rfl ⟨Or.inr rfl, rfl, rfl, trivial⟩ (fun G X hC hX => ?_)
  have hX1 : (k = 120 ∨ k = 110 ∨ k = 105) → X (.inl (some (.int 1))) (gw A F nw nx LO DO) 0 0 := fun z => by
    rw [show sDem k = true from decide_eq_true z] at hX
    exact hX
  have hX0 : ¬ (k = 120 ∨ k = 110 ∨ k = 105) → X (.inl (some (.int 0))) (gw A F nw nx LO DO) 0 0 := fun z => by
    rw [show sDem k = false from decide_eq_false z] at hX
    exact hX
  refine gm_runs hC [] 200 _ _ _ _ _ _ ?_
  exact And.intro (fun (c : k = 120) => gx_z (hX1 (Or.inl c)) (Or.inr rfl) rfl rfl) (fun (c1 : ¬ k = 120) => And.intro (fun (c : k = 110) => gx_z (hX1 (Or.inr (Or.inl c))) (Or.inr rfl) rfl rfl) (fun (c2 : ¬ k = 110) => And.intro (fun (c3 : ¬ k = 105) => gx_z (hX0 (fun z => z.elim c1 (fun z => z.elim c2 c3))) (Or.inl rfl) rfl rfl) (fun (c : ¬ ¬ k = 105) => gx_z (hX1 (Or.inr (Or.inr (Decidable.of_not_not c)))) (Or.inr rfl) rfl rfl)))
theorem s_isDenial6 (k : Int32) : gm_Sp gm_MT (d + 1) 7042 [.int k] (gw A F nw nx LO DO) (.inl (some (.int (gB (sDen k))))) (gw A F nw nx LO DO) 0 0 := by
  refine gm_mk gm_mX6_isDenial rfl ⟨Or.inr rfl, rfl, rfl, trivial⟩ (fun G X hC hX => ?_)
  have hX1 : (k = 115 ∨ k = 101 ∨ k = 100) → X (.inl (some (.int 1))) (gw A F nw nx LO DO) 0 0 := fun z => by
    rw [show sDen k = true from decide_eq_true z] at hX
    exact hX
  have hX0 : ¬ (k = 115 ∨ k = 101 ∨ k = 100) → X (.inl (some (.int 0))) (gw A F nw nx LO DO) 0 0 := fun z => by
    rw [show sDen k = false from decide_eq_false z] at hX
    exact hX
  refine gm_runs hC [] 200 _ _ _ _ _ _ ?_
  exact And.intro (fun (c : k = 115) => gx_z (hX1 (Or.inl c)) (Or.inr rfl) rfl rfl) (fun (c1 : ¬ k = 115) => And.intro (fun (c : k = 101) => gx_z (hX1 (Or.inr (Or.inl c))) (Or.inr rfl) rfl rfl) (fun (c2 : ¬ k = 101) => And.intro (fun (c3 : ¬ k = 100) => gx_z (hX0 (fun z => z.elim c1 (fun z => z.elim c2 c3))) (Or.inl rfl) rfl rfl) (fun (c : ¬ ¬ k = 100) => gx_z (hX1 (Or.inr (Or.inr (Decidable.of_not_not c)))) (Or.inr rfl) rfl rfl)))
theorem s_regionsOf (k : Int32) {a b : Nat} (ha : a < 120) (hb : b < 120) : gm_Sp gm_MT (d + 1) 8049 [.ref 24, .int k, .int (nI a), .int (nI b)] (gw A F nw nx LO DO) (.inl (some (.int (sReg k (A 29 a) (A 29 b))))) (gw A F nw nx LO DO) 0 0 := by
  have hva := vp_in_nI (n := a) (N := 120) (by omega) (by omega)
  have hvb := vp_in_nI (n := b) (N := 120) (by omega) (by omega)
  have e : sReg k (A 29 a) (A 29 b) = sReg k (A 29 (nI a).toNatClampNeg) (A 29 (nI b).toNatClampNeg) := by rw [nI_clamp (show a < 2 ^ 31 by omega), nI_clamp (show b < 2 ^ 31 by omega)]
  rw [e]
  refine gm_mk gm_mX7_regionsOf rfl ⟨Or.inr rfl, rfl, rfl, trivial⟩ (fun G X hC hX => ?_)
  unfold sReg at hX
  refine gm_runs hC [] 200 _ _ _ _ _ _ ?_
  refine And.intro (fun (c : k = 115) => ?_) (fun (c1 : ¬ k = 115) => And.intro (fun (c2 : ¬ k = 120) => ?_) (fun (c : ¬ ¬ k = 120) => ?_))
  · rw [if_pos (Or.inl c), ← gm_m1] at hX
    exact And.intro hva (And.intro hvb (gx_i hX rfl rfl))
  · rw [if_neg (fun z => z.elim c1 c2)] at hX
    refine And.intro (fun (c : k = 101) => ?_) (fun (c3 : ¬ k = 101) => And.intro (fun (c4 : ¬ k = 110) => ?_) (fun (c : ¬ ¬ k = 110) => ?_))
    · rw [if_pos (Or.inl c)] at hX
      exact And.intro hva (And.intro hvb (gx_i hX rfl rfl))
    · rw [if_neg (fun z => z.elim c3 c4)] at hX
      exact And.intro hva (And.intro hvb (gx_i hX rfl rfl))
    · rw [if_pos (Or.inr (Decidable.of_not_not c))] at hX
      exact And.intro hva (And.intro hvb (gx_i hX rfl rfl))
  · rw [if_pos (Or.inr (Decidable.of_not_not c)), ← gm_m1] at hX
    exact And.intro hva (And.intro hvb (gx_i hX rfl rfl))
theorem s_placesOf (k : Int32) {a b : Nat} (hn : n ≤ 120) (hF : F 0 = nI n) (ha : a < n) (hb : b < n) : gm_Sp gm_MT (d + 3) 7044 [.ref 0, .int k, .int (nI a), .int (nI b)] (gw A F nw nx LO DO) (.inl (some (.int (sReg k (A 6 a) (A 6 b))))) (gw A F nw nx LO DO) 0 0 := by
  have h1 := s_coverOf (A := A) (nw := nw) (nx := nx) (LO := LO) (DO := DO) (d := d) (nI a) hn hF
  have h2 := s_coverOf (A := A) (nw := nw) (nx := nx) (LO := LO) (DO := DO) (d := d) (nI b) hn hF
  rw [gT_nI ha hn] at h1
  rw [gT_nI hb hn] at h2
  refine gm_mk gm_mX6_placesOf rfl ⟨Or.inr rfl, rfl, rfl, trivial⟩ (fun G X hC hX => ?_)
  unfold sReg at hX
  refine gm_runs hC [] 200 _ _ _ _ _ _ ?_
  refine Or.inl ⟨_, _, _, _, h1, Or.inl ⟨_, _, _, _, h2, And.intro (fun (c : k = 101) => ?_) (fun (c101 : ¬ k = 101) => And.intro (fun (c : k = 110) => ?_) (fun (c110 : ¬ k = 110) => And.intro (fun (c : k = 115) => ?_) (fun (c115 : ¬ k = 115) => And.intro (fun (c : k = 120) => ?_) (fun (c120 : ¬ k = 120) => ?_))))⟩⟩
  · rw [if_neg (by rw [c]; decide), if_pos (Or.inl c)] at hX
    exact gx_i hX rfl rfl
  · rw [if_neg (by rw [c]; decide), if_pos (Or.inr c)] at hX
    exact gx_i hX rfl rfl
  · rw [if_pos (Or.inl c), ← gm_m1] at hX
    exact gx_i hX rfl rfl
  · rw [if_pos (Or.inr c), ← gm_m1] at hX
    exact gx_i hX rfl rfl
  · rw [if_neg (fun z => z.elim c115 c120), if_neg (fun z => z.elim c101 c110)] at hX
    exact gx_i hX rfl rfl
end X