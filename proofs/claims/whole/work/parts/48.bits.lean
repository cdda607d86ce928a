/-! THE COUNT OF BITS, as the library makes it -/
def bcS (x y : Int32) : Int32 := (x.toUInt32 >>> (y.toUInt32 &&& Int32.toUInt32 31)).toInt32
def bcF (x : Int32) : Int32 :=
  let a := x - (bcS x 1 &&& 1431655765)
  let b := (a &&& 858993459) + (bcS a 2 &&& 858993459)
  let c := (b + bcS b 4) &&& 252645135
  let e := c + bcS c 8
  let f := e + bcS e 16
  f &&& 63
section X
variable {nw nx : Nat} {LO : Nat → Int64} {DO : Nat → UInt64} {d n : Nat} {A : Nat → Nat → Int32} {F : Nat → Int32}
set_option maxRecDepth 20000 in
theorem s_bitCount (x : Int32) : gm_Sp gm_MT (d + 1) 9000 [.int x] (gw A F nw nx LO DO) (.inl (some (.int (bcF x)))) (gw A F nw nx LO DO) 0 0 := by
  refine gm_mk gm_mJ6_bitCount_0f7a4 rfl ⟨Or.inr rfl, rfl, rfl, trivial⟩ (fun G X hC hX => ?_)
  refine gm_runs hC [] 200 _ _ _ _ _ _ ?_
  exact gx_i hX rfl rfl
theorem s_digitOf (c j : Int32) : gm_Sp gm_MT (d + 1) 1002 [.int c, .int j] (gw A F nw nx LO DO) (.inl (some (.int (if j = 0 then c / 27 else if j = 1 then c / 9 - c / 9 / 3 * 3 else if j = 2 then c / 3 - c / 3 / 3 * 3 else c - c / 3 * 3)))) (gw A F nw nx LO DO) 0 0 := by
  refine gm_mk gm_mX0_digitOf rfl ⟨Or.inr rfl, rfl, rfl, trivial⟩ (fun G X hC hX => ?_)
  refine gm_runs hC [] 200 _ _ _ _ _ _ ?_
  refine And.intro (fun (h : j = 0) => ?_) (fun (h0 : ¬ j = 0) => And.intro (fun (h : j = 1) => ?_) (fun (h1 : ¬ j = 1) => And.intro (fun (h : j = 2) => ?_) (fun (h2 : ¬ j = 2) => ?_)))
  · rw [if_pos h] at hX
    exact And.intro (show ¬ (27 : Int32) = 0 from by decide) (gx_i hX rfl rfl)
  · rw [if_neg h0, if_pos h] at hX
    exact And.intro (show ¬ (9 : Int32) = 0 from by decide) (And.intro (show ¬ (3 : Int32) = 0 from by decide) (gx_i hX rfl rfl))
  · rw [if_neg h0, if_neg h1, if_pos h] at hX
    exact And.intro (show ¬ (3 : Int32) = 0 from by decide) (And.intro (show ¬ (3 : Int32) = 0 from by decide) (gx_i hX rfl rfl))
  · rw [if_neg h0, if_neg h1, if_neg h2] at hX
    exact And.intro (show ¬ (3 : Int32) = 0 from by decide) (gx_i hX rfl rfl)
theorem s_weightOf (j : Int32) : gm_Sp gm_MT (d + 1) 1003 [.int j] (gw A F nw nx LO DO) (.inl (some (.int (if j = 0 then 27 else if j = 1 then 9 else if j = 2 then 3 else 1)))) (gw A F nw nx LO DO) 0 0 := by
  refine gm_mk gm_mX0_weightOf rfl ⟨Or.inr rfl, rfl, rfl, trivial⟩ (fun G X hC hX => ?_)
  refine gm_runs hC [] 200 _ _ _ _ _ _ ?_
  refine And.intro (fun (h : j = 0) => ?_) (fun (h0 : ¬ j = 0) => And.intro (fun (h : j = 1) => ?_) (fun (h1 : ¬ j = 1) => And.intro (fun (h : j = 2) => ?_) (fun (h2 : ¬ j = 2) => ?_)))
  · rw [if_pos h] at hX
    exact gx_i hX rfl rfl
  · rw [if_neg h0, if_pos h] at hX
    exact gx_i hX rfl rfl
  · rw [if_neg h0, if_neg h1, if_pos h] at hX
    exact gx_i hX rfl rfl
  · rw [if_neg h0, if_neg h1, if_neg h2] at hX
    exact gx_i hX rfl rfl
theorem s_isInside (a b : Int32) : gm_Sp gm_MT (d + 1) 1013 [.int a, .int b] (gw A F nw nx LO DO) (.inl (some (.int (gB (decide (a &&& (b ^^^ (-1)) = 0)))))) (gw A F nw nx LO DO) 0 0 := by
  refine gm_mk gm_mX0_isInside rfl ⟨Or.inr rfl, rfl, rfl, trivial⟩ (fun G X hC hX => ?_)
  rw [← gm_m1] at hX
  refine gm_runs hC [] 200 _ _ _ _ _ _ ?_
  refine And.intro (fun (c : ¬ a &&& (b ^^^ gm_lit (-1)) = 0) => ?_) (fun (c : ¬ ¬ a &&& (b ^^^ gm_lit (-1)) = 0) => ?_)
  · rw [decide_eq_false c] at hX
    exact gx_z hX (Or.inl rfl) rfl rfl
  · rw [decide_eq_true (Decidable.of_not_not c)] at hX
    exact gx_z hX (Or.inr rfl) rfl rfl
end X