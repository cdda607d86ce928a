/-! THE LAW'S HELPERS: a call's answer, or which exception came -/
theorem gm_thr_h {M : pM} {G : pG} {X : pX} {pc : Nat} {ls : pL} {E : String} {h1 : pH} {c1 s1 t : Nat} (hh : gm_hd M.2.2.2.2.2.2.2.2.2.2.2 E pc M.2.2.2.2.2.2.1 = some t) (hk : match gm_asc M.2.2.2.2.2.1 t with
    | some (.astore_n k, _) => gm_if (Nat.blt k.val ls.length) (G (t + 1) (gm_set (gm_st1 ls k.val (.int 0)) k.val none) [] h1 c1 s1)
    | some (.astore k, _) => gm_if (Nat.blt k ls.length) (G (t + 2) (gm_set (gm_st1 ls k (.int 0)) k none) [] h1 c1 s1)
    | _ => False) : gm_thr M G X pc ls E h1 c1 s1 := by
  unfold gm_thr
  rw [hh]
  exact hk
theorem vp_00 : vp_in (gm_lit 0) 1 := show ¬ ((0 : Int32) < 0 ∨ 1 ≤ (0 : Int32).toNatClampNeg) from by decide
section X
variable {nw nx nw' nx' : Nat} {LO : Nat → Int64} {DO : Nat → UInt64} {d : Nat} {A A' : Nat → Nat → Int32} {F F' : Nat → Int32}
theorem h_letter {p0 : Int32} {v : Int32} (h : gm_Sp gm_MT (d + 60) 7001 [.ref 0, .int p0] (gw A F nw nx LO DO) (.inl (some (.int v))) (gw A' F' nw' nx' LO DO) 0 0) : gm_Sp gm_MT (d + 61) 10000 [.ref 0, .int p0, .ref 37] (gw A F nw nx LO DO) (.inl (some (.int 0))) (gw A' F' nw' nx' (vp_updL LO 0 v.toInt64) DO) 0 0 := by
  refine gm_mk gm_mL_letter rfl ⟨Or.inr rfl, rfl, rfl, trivial⟩ (fun G X hC hX => ?_)
  refine gm_runs hC [] 200 _ _ _ _ _ _ ?_
  exact Or.inl ⟨_, _, _, _, h, And.intro vp_00 hX⟩
theorem h_letter_IAE {p0 : Int32} (h : gm_Sp gm_MT (d + 60) 7001 [.ref 0, .int p0] (gw A F nw nx LO DO) (.inr "java/lang/IllegalArgumentException") (gw A' F' nw' nx' LO DO) 1 6) : gm_Sp gm_MT (d + 61) 10000 [.ref 0, .int p0, .ref 37] (gw A F nw nx LO DO) (.inl (some (.int 1))) (gw A' F' nw' nx' LO DO) 1 6 := by
  refine gm_mk gm_mL_letter rfl ⟨Or.inr rfl, rfl, rfl, trivial⟩ (fun G X hC hX => ?_)
  refine gm_runs hC [] 200 _ _ _ _ _ _ ?_
  exact Or.inr ⟨_, _, _, _, h, gm_thr_h (t := 12) (by decide +kernel) hX⟩
theorem h_letter_ISE {p0 : Int32} (h : gm_Sp gm_MT (d + 60) 7001 [.ref 0, .int p0] (gw A F nw nx LO DO) (.inr "java/lang/IllegalStateException") (gw A' F' nw' nx' LO DO) 1 6) : gm_Sp gm_MT (d + 61) 10000 [.ref 0, .int p0, .ref 37] (gw A F nw nx LO DO) (.inl (some (.int 2))) (gw A' F' nw' nx' LO DO) 1 6 := by
  refine gm_mk gm_mL_letter rfl ⟨Or.inr rfl, rfl, rfl, trivial⟩ (fun G X hC hX => ?_)
  refine gm_runs hC [] 200 _ _ _ _ _ _ ?_
  exact Or.inr ⟨_, _, _, _, h, gm_thr_h (t := 15) (by decide +kernel) hX⟩
theorem h_empty {v : Int32} (h : gm_Sp gm_MT (d + 60) 7002 [.ref 0] (gw A F nw nx LO DO) (.inl (some (.int v))) (gw A' F' nw' nx' LO DO) 0 0) : gm_Sp gm_MT (d + 61) 10001 [.ref 0, .ref 37] (gw A F nw nx LO DO) (.inl (some (.int 0))) (gw A' F' nw' nx' (vp_updL LO 0 v.toInt64) DO) 0 0 := by
  refine gm_mk gm_mL_empty rfl ⟨Or.inr rfl, rfl, rfl, trivial⟩ (fun G X hC hX => ?_)
  refine gm_runs hC [] 200 _ _ _ _ _ _ ?_
  exact Or.inl ⟨_, _, _, _, h, And.intro vp_00 hX⟩
theorem h_empty_ISE (h : gm_Sp gm_MT (d + 60) 7002 [.ref 0] (gw A F nw nx LO DO) (.inr "java/lang/IllegalStateException") (gw A' F' nw' nx' LO DO) 1 6) : gm_Sp gm_MT (d + 61) 10001 [.ref 0, .ref 37] (gw A F nw nx LO DO) (.inl (some (.int 1))) (gw A' F' nw' nx' LO DO) 1 6 := by
  refine gm_mk gm_mL_empty rfl ⟨Or.inr rfl, rfl, rfl, trivial⟩ (fun G X hC hX => ?_)
  refine gm_runs hC [] 200 _ _ _ _ _ _ ?_
  exact Or.inr ⟨_, _, _, _, h, gm_thr_h (t := 11) (by decide +kernel) hX⟩
theorem h_universe {v : Int32} (h : gm_Sp gm_MT (d + 60) 7003 [.ref 0] (gw A F nw nx LO DO) (.inl (some (.int v))) (gw A' F' nw' nx' LO DO) 0 0) : gm_Sp gm_MT (d + 61) 10002 [.ref 0, .ref 37] (gw A F nw nx LO DO) (.inl (some (.int 0))) (gw A' F' nw' nx' (vp_updL LO 0 v.toInt64) DO) 0 0 := by
  refine gm_mk gm_mL_universe rfl ⟨Or.inr rfl, rfl, rfl, trivial⟩ (fun G X hC hX => ?_)
  refine gm_runs hC [] 200 _ _ _ _ _ _ ?_
  exact Or.inl ⟨_, _, _, _, h, And.intro vp_00 hX⟩
theorem h_universe_ISE (h : gm_Sp gm_MT (d + 60) 7003 [.ref 0] (gw A F nw nx LO DO) (.inr "java/lang/IllegalStateException") (gw A' F' nw' nx' LO DO) 1 6) : gm_Sp gm_MT (d + 61) 10002 [.ref 0, .ref 37] (gw A F nw nx LO DO) (.inl (some (.int 1))) (gw A' F' nw' nx' LO DO) 1 6 := by
  refine gm_mk gm_mL_universe rfl ⟨Or.inr rfl, rfl, rfl, trivial⟩ (fun G X hC hX => ?_)
  refine gm_runs hC [] 200 _ _ _ _ _ _ ?_
  exact Or.inr ⟨_, _, _, _, h, gm_thr_h (t := 11) (by decide +kernel) hX⟩
theorem h_complement {p0 : Int32} {v : Int32} (h : gm_Sp gm_MT (d + 60) 7004 [.ref 0, .int p0] (gw A F nw nx LO DO) (.inl (some (.int v))) (gw A' F' nw' nx' LO DO) 0 0) : gm_Sp gm_MT (d + 61) 10003 [.ref 0, .int p0, .ref 37] (gw A F nw nx LO DO) (.inl (some (.int 0))) (gw A' F' nw' nx' (vp_updL LO 0 v.toInt64) DO) 0 0 := by
  refine gm_mk gm_mL_complement rfl ⟨Or.inr rfl, rfl, rfl, trivial⟩ (fun G X hC hX => ?_)
  refine gm_runs hC [] 200 _ _ _ _ _ _ ?_
  exact Or.inl ⟨_, _, _, _, h, And.intro vp_00 hX⟩
theorem h_complement_IOB {p0 : Int32} (h : gm_Sp gm_MT (d + 60) 7004 [.ref 0, .int p0] (gw A F nw nx LO DO) (.inr "java/lang/IndexOutOfBoundsException") (gw A' F' nw' nx' LO DO) 1 6) : gm_Sp gm_MT (d + 61) 10003 [.ref 0, .int p0, .ref 37] (gw A F nw nx LO DO) (.inl (some (.int 1))) (gw A' F' nw' nx' LO DO) 1 6 := by
  refine gm_mk gm_mL_complement rfl ⟨Or.inr rfl, rfl, rfl, trivial⟩ (fun G X hC hX => ?_)
  refine gm_runs hC [] 200 _ _ _ _ _ _ ?_
  exact Or.inr ⟨_, _, _, _, h, gm_thr_h (t := 12) (by decide +kernel) hX⟩
theorem h_complement_ISE {p0 : Int32} (h : gm_Sp gm_MT (d + 60) 7004 [.ref 0, .int p0] (gw A F nw nx LO DO) (.inr "java/lang/IllegalStateException") (gw A' F' nw' nx' LO DO) 1 6) : gm_Sp gm_MT (d + 61) 10003 [.ref 0, .int p0, .ref 37] (gw A F nw nx LO DO) (.inl (some (.int 2))) (gw A' F' nw' nx' LO DO) 1 6 := by
  refine gm_mk gm_mL_complement rfl ⟨Or.inr rfl, rfl, rfl, trivial⟩ (fun G X hC hX => ?_)
  refine gm_runs hC [] 200 _ _ _ _ _ _ ?_
  exact Or.inr ⟨_, _, _, _, h, gm_thr_h (t := 15) (by decide +kernel) hX⟩
theorem h_union {p0 p1 : Int32} {v : Int32} (h : gm_Sp gm_MT (d + 60) 7005 [.ref 0, .int p0, .int p1] (gw A F nw nx LO DO) (.inl (some (.int v))) (gw A' F' nw' nx' LO DO) 0 0) : gm_Sp gm_MT (d + 61) 10004 [.ref 0, .int p0, .int p1, .ref 37] (gw A F nw nx LO DO) (.inl (some (.int 0))) (gw A' F' nw' nx' (vp_updL LO 0 v.toInt64) DO) 0 0 := by
  refine gm_mk gm_mL_union rfl ⟨Or.inr rfl, rfl, rfl, trivial⟩ (fun G X hC hX => ?_)
  refine gm_runs hC [] 200 _ _ _ _ _ _ ?_
  exact Or.inl ⟨_, _, _, _, h, And.intro vp_00 hX⟩
theorem h_union_IOB {p0 p1 : Int32} (h : gm_Sp gm_MT (d + 60) 7005 [.ref 0, .int p0, .int p1] (gw A F nw nx LO DO) (.inr "java/lang/IndexOutOfBoundsException") (gw A' F' nw' nx' LO DO) 1 6) : gm_Sp gm_MT (d + 61) 10004 [.ref 0, .int p0, .int p1, .ref 37] (gw A F nw nx LO DO) (.inl (some (.int 1))) (gw A' F' nw' nx' LO DO) 1 6 := by
  refine gm_mk gm_mL_union rfl ⟨Or.inr rfl, rfl, rfl, trivial⟩ (fun G X hC hX => ?_)
  refine gm_runs hC [] 200 _ _ _ _ _ _ ?_
  exact Or.inr ⟨_, _, _, _, h, gm_thr_h (t := 13) (by decide +kernel) hX⟩
theorem h_union_ISE {p0 p1 : Int32} (h : gm_Sp gm_MT (d + 60) 7005 [.ref 0, .int p0, .int p1] (gw A F nw nx LO DO) (.inr "java/lang/IllegalStateException") (gw A' F' nw' nx' LO DO) 1 6) : gm_Sp gm_MT (d + 61) 10004 [.ref 0, .int p0, .int p1, .ref 37] (gw A F nw nx LO DO) (.inl (some (.int 2))) (gw A' F' nw' nx' LO DO) 1 6 := by
  refine gm_mk gm_mL_union rfl ⟨Or.inr rfl, rfl, rfl, trivial⟩ (fun G X hC hX => ?_)
  refine gm_runs hC [] 200 _ _ _ _ _ _ ?_
  exact Or.inr ⟨_, _, _, _, h, gm_thr_h (t := 17) (by decide +kernel) hX⟩
theorem h_intersection {p0 p1 : Int32} {v : Int32} (h : gm_Sp gm_MT (d + 60) 7006 [.ref 0, .int p0, .int p1] (gw A F nw nx LO DO) (.inl (some (.int v))) (gw A' F' nw' nx' LO DO) 0 0) : gm_Sp gm_MT (d + 61) 10005 [.ref 0, .int p0, .int p1, .ref 37] (gw A F nw nx LO DO) (.inl (some (.int 0))) (gw A' F' nw' nx' (vp_updL LO 0 v.toInt64) DO) 0 0 := by
  refine gm_mk gm_mL_intersection rfl ⟨Or.inr rfl, rfl, rfl, trivial⟩ (fun G X hC hX => ?_)
  refine gm_runs hC [] 200 _ _ _ _ _ _ ?_
  exact Or.inl ⟨_, _, _, _, h, And.intro vp_00 hX⟩
theorem h_intersection_IOB {p0 p1 : Int32} (h : gm_Sp gm_MT (d + 60) 7006 [.ref 0, .int p0, .int p1] (gw A F nw nx LO DO) (.inr "java/lang/IndexOutOfBoundsException") (gw A' F' nw' nx' LO DO) 1 6) : gm_Sp gm_MT (d + 61) 10005 [.ref 0, .int p0, .int p1, .ref 37] (gw A F nw nx LO DO) (.inl (some (.int 1))) (gw A' F' nw' nx' LO DO) 1 6 := by
  refine gm_mk gm_mL_intersection rfl ⟨Or.inr rfl, rfl, rfl, trivial⟩ (fun G X hC hX => ?_)
  refine gm_runs hC [] 200 _ _ _ _ _ _ ?_
  exact Or.inr ⟨_, _, _, _, h, gm_thr_h (t := 13) (by decide +kernel) hX⟩
theorem h_intersection_ISE {p0 p1 : Int32} (h : gm_Sp gm_MT (d + 60) 7006 [.ref 0, .int p0, .int p1] (gw A F nw nx LO DO) (.inr "java/lang/IllegalStateException") (gw A' F' nw' nx' LO DO) 1 6) : gm_Sp gm_MT (d + 61) 10005 [.ref 0, .int p0, .int p1, .ref 37] (gw A F nw nx LO DO) (.inl (some (.int 2))) (gw A' F' nw' nx' LO DO) 1 6 := by
  refine gm_mk gm_mL_intersection rfl ⟨Or.inr rfl, rfl, rfl, trivial⟩ (fun G X hC hX => ?_)
  refine gm_runs hC [] 200 _ _ _ _ _ _ ?_
  exact Or.inr ⟨_, _, _, _, h, gm_thr_h (t := 17) (by decide +kernel) hX⟩
theorem h_difference {p0 p1 : Int32} {v : Int32} (h : gm_Sp gm_MT (d + 60) 7007 [.ref 0, .int p0, .int p1] (gw A F nw nx LO DO) (.inl (some (.int v))) (gw A' F' nw' nx' LO DO) 0 0) : gm_Sp gm_MT (d + 61) 10006 [.ref 0, .int p0, .int p1, .ref 37] (gw A F nw nx LO DO) (.inl (some (.int 0))) (gw A' F' nw' nx' (vp_updL LO 0 v.toInt64) DO) 0 0 := by
  refine gm_mk gm_mL_difference rfl ⟨Or.inr rfl, rfl, rfl, trivial⟩ (fun G X hC hX => ?_)
  refine gm_runs hC [] 200 _ _ _ _ _ _ ?_
  exact Or.inl ⟨_, _, _, _, h, And.intro vp_00 hX⟩
theorem h_difference_IOB {p0 p1 : Int32} (h : gm_Sp gm_MT (d + 60) 7007 [.ref 0, .int p0, .int p1] (gw A F nw nx LO DO) (.inr "java/lang/IndexOutOfBoundsException") (gw A' F' nw' nx' LO DO) 1 6) : gm_Sp gm_MT (d + 61) 10006 [.ref 0, .int p0, .int p1, .ref 37] (gw A F nw nx LO DO) (.inl (some (.int 1))) (gw A' F' nw' nx' LO DO) 1 6 := by
  refine gm_mk gm_mL_difference rfl ⟨Or.inr rfl, rfl, rfl, trivial⟩ (fun G X hC hX => ?_)
  refine gm_runs hC [] 200 _ _ _ _ _ _ ?_
  exact Or.inr ⟨_, _, _, _, h, gm_thr_h (t := 13) (by decide +kernel) hX⟩
theorem h_difference_ISE {p0 p1 : Int32} (h : gm_Sp gm_MT (d + 60) 7007 [.ref 0, .int p0, .int p1] (gw A F nw nx LO DO) (.inr "java/lang/IllegalStateException") (gw A' F' nw' nx' LO DO) 1 6) : gm_Sp gm_MT (d + 61) 10006 [.ref 0, .int p0, .int p1, .ref 37] (gw A F nw nx LO DO) (.inl (some (.int 2))) (gw A' F' nw' nx' LO DO) 1 6 := by
  refine gm_mk gm_mL_difference rfl ⟨Or.inr rfl, rfl, rfl, trivial⟩ (fun G X hC hX => ?_)
  refine gm_runs hC [] 200 _ _ _ _ _ _ ?_
  exact Or.inr ⟨_, _, _, _, h, gm_thr_h (t := 17) (by decide +kernel) hX⟩
theorem h_symmetric {p0 p1 : Int32} {v : Int32} (h : gm_Sp gm_MT (d + 60) 7008 [.ref 0, .int p0, .int p1] (gw A F nw nx LO DO) (.inl (some (.int v))) (gw A' F' nw' nx' LO DO) 0 0) : gm_Sp gm_MT (d + 61) 10007 [.ref 0, .int p0, .int p1, .ref 37] (gw A F nw nx LO DO) (.inl (some (.int 0))) (gw A' F' nw' nx' (vp_updL LO 0 v.toInt64) DO) 0 0 := by
  refine gm_mk gm_mL_symmetric rfl ⟨Or.inr rfl, rfl, rfl, trivial⟩ (fun G X hC hX => ?_)
  refine gm_runs hC [] 200 _ _ _ _ _ _ ?_
  exact Or.inl ⟨_, _, _, _, h, And.intro vp_00 hX⟩
theorem h_symmetric_IOB {p0 p1 : Int32} (h : gm_Sp gm_MT (d + 60) 7008 [.ref 0, .int p0, .int p1] (gw A F nw nx LO DO) (.inr "java/lang/IndexOutOfBoundsException") (gw A' F' nw' nx' LO DO) 1 6) : gm_Sp gm_MT (d + 61) 10007 [.ref 0, .int p0, .int p1, .ref 37] (gw A F nw nx LO DO) (.inl (some (.int 1))) (gw A' F' nw' nx' LO DO) 1 6 := by
  refine gm_mk gm_mL_symmetric rfl ⟨Or.inr rfl, rfl, rfl, trivial⟩ (fun G X hC hX => ?_)
  refine gm_runs hC [] 200 _ _ _ _ _ _ ?_
  exact Or.inr ⟨_, _, _, _, h, gm_thr_h (t := 13) (by decide +kernel) hX⟩
theorem h_symmetric_ISE {p0 p1 : Int32} (h : gm_Sp gm_MT (d + 60) 7008 [.ref 0, .int p0, .int p1] (gw A F nw nx LO DO) (.inr "java/lang/IllegalStateException") (gw A' F' nw' nx' LO DO) 1 6) : gm_Sp gm_MT (d + 61) 10007 [.ref 0, .int p0, .int p1, .ref 37] (gw A F nw nx LO DO) (.inl (some (.int 2))) (gw A' F' nw' nx' LO DO) 1 6 := by
  refine gm_mk gm_mL_symmetric rfl ⟨Or.inr rfl, rfl, rfl, trivial⟩ (fun G X hC hX => ?_)
  refine gm_runs hC [] 200 _ _ _ _ _ _ ?_
  exact Or.inr ⟨_, _, _, _, h, gm_thr_h (t := 17) (by decide +kernel) hX⟩
theorem h_size {p0 : Int32} {v : Int32} (h : gm_Sp gm_MT (d + 60) 7010 [.ref 0, .int p0] (gw A F nw nx LO DO) (.inl (some (.int v))) (gw A' F' nw' nx' LO DO) 0 0) : gm_Sp gm_MT (d + 61) 10008 [.ref 0, .int p0, .ref 37] (gw A F nw nx LO DO) (.inl (some (.int 0))) (gw A' F' nw' nx' (vp_updL LO 0 v.toInt64) DO) 0 0 := by
  refine gm_mk gm_mL_size rfl ⟨Or.inr rfl, rfl, rfl, trivial⟩ (fun G X hC hX => ?_)
  refine gm_runs hC [] 200 _ _ _ _ _ _ ?_
  exact Or.inl ⟨_, _, _, _, h, And.intro vp_00 hX⟩
theorem h_size_IOB {p0 : Int32} (h : gm_Sp gm_MT (d + 60) 7010 [.ref 0, .int p0] (gw A F nw nx LO DO) (.inr "java/lang/IndexOutOfBoundsException") (gw A' F' nw' nx' LO DO) 1 6) : gm_Sp gm_MT (d + 61) 10008 [.ref 0, .int p0, .ref 37] (gw A F nw nx LO DO) (.inl (some (.int 1))) (gw A' F' nw' nx' LO DO) 1 6 := by
  refine gm_mk gm_mL_size rfl ⟨Or.inr rfl, rfl, rfl, trivial⟩ (fun G X hC hX => ?_)
  refine gm_runs hC [] 200 _ _ _ _ _ _ ?_
  exact Or.inr ⟨_, _, _, _, h, gm_thr_h (t := 12) (by decide +kernel) hX⟩
theorem h_symbol {p0 p1 : Int32} {v : Int32} (h : gm_Sp gm_MT (d + 60) 7011 [.ref 0, .int p0, .int p1] (gw A F nw nx LO DO) (.inl (some (.int v))) (gw A' F' nw' nx' LO DO) 0 0) : gm_Sp gm_MT (d + 61) 10009 [.ref 0, .int p0, .int p1, .ref 37] (gw A F nw nx LO DO) (.inl (some (.int 0))) (gw A' F' nw' nx' (vp_updL LO 0 v.toInt64) DO) 0 0 := by
  refine gm_mk gm_mL_symbol rfl ⟨Or.inr rfl, rfl, rfl, trivial⟩ (fun G X hC hX => ?_)
  refine gm_runs hC [] 200 _ _ _ _ _ _ ?_
  exact Or.inl ⟨_, _, _, _, h, And.intro vp_00 hX⟩
theorem h_symbol_IOB {p0 p1 : Int32} (h : gm_Sp gm_MT (d + 60) 7011 [.ref 0, .int p0, .int p1] (gw A F nw nx LO DO) (.inr "java/lang/IndexOutOfBoundsException") (gw A' F' nw' nx' LO DO) 1 6) : gm_Sp gm_MT (d + 61) 10009 [.ref 0, .int p0, .int p1, .ref 37] (gw A F nw nx LO DO) (.inl (some (.int 1))) (gw A' F' nw' nx' LO DO) 1 6 := by
  refine gm_mk gm_mL_symbol rfl ⟨Or.inr rfl, rfl, rfl, trivial⟩ (fun G X hC hX => ?_)
  refine gm_runs hC [] 200 _ _ _ _ _ _ ?_
  exact Or.inr ⟨_, _, _, _, h, gm_thr_h (t := 13) (by decide +kernel) hX⟩
theorem h_symbol_NSE {p0 p1 : Int32} (h : gm_Sp gm_MT (d + 60) 7011 [.ref 0, .int p0, .int p1] (gw A F nw nx LO DO) (.inr "java/util/NoSuchElementException") (gw A' F' nw' nx' LO DO) 1 6) : gm_Sp gm_MT (d + 61) 10009 [.ref 0, .int p0, .int p1, .ref 37] (gw A F nw nx LO DO) (.inl (some (.int 2))) (gw A' F' nw' nx' LO DO) 1 6 := by
  refine gm_mk gm_mL_symbol rfl ⟨Or.inr rfl, rfl, rfl, trivial⟩ (fun G X hC hX => ?_)
  refine gm_runs hC [] 200 _ _ _ _ _ _ ?_
  exact Or.inr ⟨_, _, _, _, h, gm_thr_h (t := 17) (by decide +kernel) hX⟩
theorem h_regions {p0 : Int32} {v : Int32} (h : gm_Sp gm_MT (d + 60) 7017 [.ref 0, .int p0] (gw A F nw nx LO DO) (.inl (some (.int v))) (gw A' F' nw' nx' LO DO) 0 0) : gm_Sp gm_MT (d + 61) 10010 [.ref 0, .int p0, .ref 37] (gw A F nw nx LO DO) (.inl (some (.int 0))) (gw A' F' nw' nx' (vp_updL LO 0 v.toInt64) DO) 0 0 := by
  refine gm_mk gm_mL_regions rfl ⟨Or.inr rfl, rfl, rfl, trivial⟩ (fun G X hC hX => ?_)
  refine gm_runs hC [] 200 _ _ _ _ _ _ ?_
  exact Or.inl ⟨_, _, _, _, h, And.intro vp_00 hX⟩
theorem h_regions_IOB {p0 : Int32} (h : gm_Sp gm_MT (d + 60) 7017 [.ref 0, .int p0] (gw A F nw nx LO DO) (.inr "java/lang/IndexOutOfBoundsException") (gw A' F' nw' nx' LO DO) 1 6) : gm_Sp gm_MT (d + 61) 10010 [.ref 0, .int p0, .ref 37] (gw A F nw nx LO DO) (.inl (some (.int 1))) (gw A' F' nw' nx' LO DO) 1 6 := by
  refine gm_mk gm_mL_regions rfl ⟨Or.inr rfl, rfl, rfl, trivial⟩ (fun G X hC hX => ?_)
  refine gm_runs hC [] 200 _ _ _ _ _ _ ?_
  exact Or.inr ⟨_, _, _, _, h, gm_thr_h (t := 12) (by decide +kernel) hX⟩
theorem h_covers {p0 p1 : Int32} {b : Bool} (h : gm_Sp gm_MT (d + 60) 7018 [.ref 0, .int p0, .int p1] (gw A F nw nx LO DO) (.inl (some (.int (gB b)))) (gw A' F' nw' nx' LO DO) 0 0) : gm_Sp gm_MT (d + 61) 10011 [.ref 0, .int p0, .int p1, .ref 37] (gw A F nw nx LO DO) (.inl (some (.int 0))) (gw A' F' nw' nx' (vp_updL LO 0 (gB b).toInt64) DO) 0 0 := by
  refine gm_mk gm_mL_covers rfl ⟨Or.inr rfl, rfl, rfl, trivial⟩ (fun G X hC hX => ?_)
  cases b with
  | false =>
    have hX : X (.inl (some (.int 0))) (gw A' F' nw' nx' (vp_updL LO 0 0) DO) 0 0 := hX
    refine gm_runs hC [] 200 _ _ _ _ _ _ ?_
    exact Or.inl ⟨_, _, _, _, h, gx_t (show (0 : Int32) = 0 from rfl) (And.intro vp_00 hX)⟩
  | true =>
    have hX : X (.inl (some (.int 0))) (gw A' F' nw' nx' (vp_updL LO 0 1) DO) 0 0 := hX
    refine gm_runs hC [] 200 _ _ _ _ _ _ ?_
    exact Or.inl ⟨_, _, _, _, h, gx_f (show ¬ (1 : Int32) = 0 from by decide) (And.intro vp_00 hX)⟩
theorem h_covers_IOB {p0 p1 : Int32} (h : gm_Sp gm_MT (d + 60) 7018 [.ref 0, .int p0, .int p1] (gw A F nw nx LO DO) (.inr "java/lang/IndexOutOfBoundsException") (gw A' F' nw' nx' LO DO) 1 6) : gm_Sp gm_MT (d + 61) 10011 [.ref 0, .int p0, .int p1, .ref 37] (gw A F nw nx LO DO) (.inl (some (.int 1))) (gw A' F' nw' nx' LO DO) 1 6 := by
  refine gm_mk gm_mL_covers rfl ⟨Or.inr rfl, rfl, rfl, trivial⟩ (fun G X hC hX => ?_)
  refine gm_runs hC [] 200 _ _ _ _ _ _ ?_
  exact Or.inr ⟨_, _, _, _, h, gm_thr_h (t := 20) (by decide +kernel) hX⟩
theorem h_covers_IAE {p0 p1 : Int32} (h : gm_Sp gm_MT (d + 60) 7018 [.ref 0, .int p0, .int p1] (gw A F nw nx LO DO) (.inr "java/lang/IllegalArgumentException") (gw A' F' nw' nx' LO DO) 1 6) : gm_Sp gm_MT (d + 61) 10011 [.ref 0, .int p0, .int p1, .ref 37] (gw A F nw nx LO DO) (.inl (some (.int 2))) (gw A' F' nw' nx' LO DO) 1 6 := by
  refine gm_mk gm_mL_covers rfl ⟨Or.inr rfl, rfl, rfl, trivial⟩ (fun G X hC hX => ?_)
  refine gm_runs hC [] 200 _ _ _ _ _ _ ?_
  exact Or.inr ⟨_, _, _, _, h, gm_thr_h (t := 24) (by decide +kernel) hX⟩
theorem h_coversByTerm {p0 p1 : Int32} {b : Bool} (h : gm_Sp gm_MT (d + 60) 7019 [.ref 0, .int p0, .int p1] (gw A F nw nx LO DO) (.inl (some (.int (gB b)))) (gw A' F' nw' nx' LO DO) 0 0) : gm_Sp gm_MT (d + 61) 10012 [.ref 0, .int p0, .int p1, .ref 37] (gw A F nw nx LO DO) (.inl (some (.int 0))) (gw A' F' nw' nx' (vp_updL LO 0 (gB b).toInt64) DO) 0 0 := by
  refine gm_mk gm_mL_coversByTerm rfl ⟨Or.inr rfl, rfl, rfl, trivial⟩ (fun G X hC hX => ?_)
  cases b with
  | false =>
    have hX : X (.inl (some (.int 0))) (gw A' F' nw' nx' (vp_updL LO 0 0) DO) 0 0 := hX
    refine gm_runs hC [] 200 _ _ _ _ _ _ ?_
    exact Or.inl ⟨_, _, _, _, h, gx_t (show (0 : Int32) = 0 from rfl) (And.intro vp_00 hX)⟩
  | true =>
    have hX : X (.inl (some (.int 0))) (gw A' F' nw' nx' (vp_updL LO 0 1) DO) 0 0 := hX
    refine gm_runs hC [] 200 _ _ _ _ _ _ ?_
    exact Or.inl ⟨_, _, _, _, h, gx_f (show ¬ (1 : Int32) = 0 from by decide) (And.intro vp_00 hX)⟩
theorem h_coversByTerm_IOB {p0 p1 : Int32} (h : gm_Sp gm_MT (d + 60) 7019 [.ref 0, .int p0, .int p1] (gw A F nw nx LO DO) (.inr "java/lang/IndexOutOfBoundsException") (gw A' F' nw' nx' LO DO) 1 6) : gm_Sp gm_MT (d + 61) 10012 [.ref 0, .int p0, .int p1, .ref 37] (gw A F nw nx LO DO) (.inl (some (.int 1))) (gw A' F' nw' nx' LO DO) 1 6 := by
  refine gm_mk gm_mL_coversByTerm rfl ⟨Or.inr rfl, rfl, rfl, trivial⟩ (fun G X hC hX => ?_)
  refine gm_runs hC [] 200 _ _ _ _ _ _ ?_
  exact Or.inr ⟨_, _, _, _, h, gm_thr_h (t := 20) (by decide +kernel) hX⟩
theorem h_coversByTerm_IAE {p0 p1 : Int32} (h : gm_Sp gm_MT (d + 60) 7019 [.ref 0, .int p0, .int p1] (gw A F nw nx LO DO) (.inr "java/lang/IllegalArgumentException") (gw A' F' nw' nx' LO DO) 1 6) : gm_Sp gm_MT (d + 61) 10012 [.ref 0, .int p0, .int p1, .ref 37] (gw A F nw nx LO DO) (.inl (some (.int 2))) (gw A' F' nw' nx' LO DO) 1 6 := by
  refine gm_mk gm_mL_coversByTerm rfl ⟨Or.inr rfl, rfl, rfl, trivial⟩ (fun G X hC hX => ?_)
  refine gm_runs hC [] 200 _ _ _ _ _ _ ?_
  exact Or.inr ⟨_, _, _, _, h, gm_thr_h (t := 24) (by decide +kernel) hX⟩
theorem h_isEqual {p0 p1 : Int32} {b : Bool} (h : gm_Sp gm_MT (d + 60) 7020 [.ref 0, .int p0, .int p1] (gw A F nw nx LO DO) (.inl (some (.int (gB b)))) (gw A' F' nw' nx' LO DO) 0 0) : gm_Sp gm_MT (d + 61) 10013 [.ref 0, .int p0, .int p1, .ref 37] (gw A F nw nx LO DO) (.inl (some (.int 0))) (gw A' F' nw' nx' (vp_updL LO 0 (gB b).toInt64) DO) 0 0 := by
  refine gm_mk gm_mL_isEqual rfl ⟨Or.inr rfl, rfl, rfl, trivial⟩ (fun G X hC hX => ?_)
  cases b with
  | false =>
    have hX : X (.inl (some (.int 0))) (gw A' F' nw' nx' (vp_updL LO 0 0) DO) 0 0 := hX
    refine gm_runs hC [] 200 _ _ _ _ _ _ ?_
    exact Or.inl ⟨_, _, _, _, h, gx_t (show (0 : Int32) = 0 from rfl) (And.intro vp_00 hX)⟩
  | true =>
    have hX : X (.inl (some (.int 0))) (gw A' F' nw' nx' (vp_updL LO 0 1) DO) 0 0 := hX
    refine gm_runs hC [] 200 _ _ _ _ _ _ ?_
    exact Or.inl ⟨_, _, _, _, h, gx_f (show ¬ (1 : Int32) = 0 from by decide) (And.intro vp_00 hX)⟩
theorem h_isEqual_IOB {p0 p1 : Int32} (h : gm_Sp gm_MT (d + 60) 7020 [.ref 0, .int p0, .int p1] (gw A F nw nx LO DO) (.inr "java/lang/IndexOutOfBoundsException") (gw A' F' nw' nx' LO DO) 1 6) : gm_Sp gm_MT (d + 61) 10013 [.ref 0, .int p0, .int p1, .ref 37] (gw A F nw nx LO DO) (.inl (some (.int 1))) (gw A' F' nw' nx' LO DO) 1 6 := by
  refine gm_mk gm_mL_isEqual rfl ⟨Or.inr rfl, rfl, rfl, trivial⟩ (fun G X hC hX => ?_)
  refine gm_runs hC [] 200 _ _ _ _ _ _ ?_
  exact Or.inr ⟨_, _, _, _, h, gm_thr_h (t := 20) (by decide +kernel) hX⟩
theorem h_rule {p0 : Int32} {v : Int32} (h : gm_Sp gm_MT (d + 60) 7022 [.ref 0, .int p0] (gw A F nw nx LO DO) (.inl (some (.int v))) (gw A' F' nw' nx' LO DO) 0 0) : gm_Sp gm_MT (d + 61) 10014 [.ref 0, .int p0, .ref 37] (gw A F nw nx LO DO) (.inl (some (.int 0))) (gw A' F' nw' nx' (vp_updL LO 0 v.toInt64) DO) 0 0 := by
  refine gm_mk gm_mL_rule rfl ⟨Or.inr rfl, rfl, rfl, trivial⟩ (fun G X hC hX => ?_)
  refine gm_runs hC [] 200 _ _ _ _ _ _ ?_
  exact Or.inl ⟨_, _, _, _, h, And.intro vp_00 hX⟩
theorem h_rule_IOB {p0 : Int32} (h : gm_Sp gm_MT (d + 60) 7022 [.ref 0, .int p0] (gw A F nw nx LO DO) (.inr "java/lang/IndexOutOfBoundsException") (gw A' F' nw' nx' LO DO) 1 6) : gm_Sp gm_MT (d + 61) 10014 [.ref 0, .int p0, .ref 37] (gw A F nw nx LO DO) (.inl (some (.int 1))) (gw A' F' nw' nx' LO DO) 1 6 := by
  refine gm_mk gm_mL_rule rfl ⟨Or.inr rfl, rfl, rfl, trivial⟩ (fun G X hC hX => ?_)
  refine gm_runs hC [] 200 _ _ _ _ _ _ ?_
  exact Or.inr ⟨_, _, _, _, h, gm_thr_h (t := 12) (by decide +kernel) hX⟩
theorem h_rule_NSE {p0 : Int32} (h : gm_Sp gm_MT (d + 60) 7022 [.ref 0, .int p0] (gw A F nw nx LO DO) (.inr "java/util/NoSuchElementException") (gw A' F' nw' nx' LO DO) 1 6) : gm_Sp gm_MT (d + 61) 10014 [.ref 0, .int p0, .ref 37] (gw A F nw nx LO DO) (.inl (some (.int 2))) (gw A' F' nw' nx' LO DO) 1 6 := by
  refine gm_mk gm_mL_rule rfl ⟨Or.inr rfl, rfl, rfl, trivial⟩ (fun G X hC hX => ?_)
  refine gm_runs hC [] 200 _ _ _ _ _ _ ?_
  exact Or.inr ⟨_, _, _, _, h, gm_thr_h (t := 15) (by decide +kernel) hX⟩
theorem h_step {p0 : Int32} {v : Int32} (h : gm_Sp gm_MT (d + 60) 7023 [.ref 0, .int p0] (gw A F nw nx LO DO) (.inl (some (.int v))) (gw A' F' nw' nx' LO DO) 0 0) : gm_Sp gm_MT (d + 61) 10015 [.ref 0, .int p0, .ref 37] (gw A F nw nx LO DO) (.inl (some (.int 0))) (gw A' F' nw' nx' (vp_updL LO 0 v.toInt64) DO) 0 0 := by
  refine gm_mk gm_mL_step rfl ⟨Or.inr rfl, rfl, rfl, trivial⟩ (fun G X hC hX => ?_)
  refine gm_runs hC [] 200 _ _ _ _ _ _ ?_
  exact Or.inl ⟨_, _, _, _, h, And.intro vp_00 hX⟩
theorem h_step_IOB {p0 : Int32} (h : gm_Sp gm_MT (d + 60) 7023 [.ref 0, .int p0] (gw A F nw nx LO DO) (.inr "java/lang/IndexOutOfBoundsException") (gw A' F' nw' nx' LO DO) 1 6) : gm_Sp gm_MT (d + 61) 10015 [.ref 0, .int p0, .ref 37] (gw A F nw nx LO DO) (.inl (some (.int 1))) (gw A' F' nw' nx' LO DO) 1 6 := by
  refine gm_mk gm_mL_step rfl ⟨Or.inr rfl, rfl, rfl, trivial⟩ (fun G X hC hX => ?_)
  refine gm_runs hC [] 200 _ _ _ _ _ _ ?_
  exact Or.inr ⟨_, _, _, _, h, gm_thr_h (t := 12) (by decide +kernel) hX⟩
theorem h_step_NSE {p0 : Int32} (h : gm_Sp gm_MT (d + 60) 7023 [.ref 0, .int p0] (gw A F nw nx LO DO) (.inr "java/util/NoSuchElementException") (gw A' F' nw' nx' LO DO) 1 6) : gm_Sp gm_MT (d + 61) 10015 [.ref 0, .int p0, .ref 37] (gw A F nw nx LO DO) (.inl (some (.int 2))) (gw A' F' nw' nx' LO DO) 1 6 := by
  refine gm_mk gm_mL_step rfl ⟨Or.inr rfl, rfl, rfl, trivial⟩ (fun G X hC hX => ?_)
  refine gm_runs hC [] 200 _ _ _ _ _ _ ?_
  exact Or.inr ⟨_, _, _, _, h, gm_thr_h (t := 15) (by decide +kernel) hX⟩
theorem h_step_UOE {p0 : Int32} (h : gm_Sp gm_MT (d + 60) 7023 [.ref 0, .int p0] (gw A F nw nx LO DO) (.inr "java/lang/UnsupportedOperationException") (gw A' F' nw' nx' LO DO) 1 6) : gm_Sp gm_MT (d + 61) 10015 [.ref 0, .int p0, .ref 37] (gw A F nw nx LO DO) (.inl (some (.int 3))) (gw A' F' nw' nx' LO DO) 1 6 := by
  refine gm_mk gm_mL_step rfl ⟨Or.inr rfl, rfl, rfl, trivial⟩ (fun G X hC hX => ?_)
  refine gm_runs hC [] 200 _ _ _ _ _ _ ?_
  exact Or.inr ⟨_, _, _, _, h, gm_thr_h (t := 18) (by decide +kernel) hX⟩
theorem h_step_ISE {p0 : Int32} (h : gm_Sp gm_MT (d + 60) 7023 [.ref 0, .int p0] (gw A F nw nx LO DO) (.inr "java/lang/IllegalStateException") (gw A' F' nw' nx' LO DO) 1 6) : gm_Sp gm_MT (d + 61) 10015 [.ref 0, .int p0, .ref 37] (gw A F nw nx LO DO) (.inl (some (.int 4))) (gw A' F' nw' nx' LO DO) 1 6 := by
  refine gm_mk gm_mL_step rfl ⟨Or.inr rfl, rfl, rfl, trivial⟩ (fun G X hC hX => ?_)
  refine gm_runs hC [] 200 _ _ _ _ _ _ ?_
  exact Or.inr ⟨_, _, _, _, h, gm_thr_h (t := 21) (by decide +kernel) hX⟩
theorem h_steps {p0 : Int32} {v : Int32} (h : gm_Sp gm_MT (d + 60) 7024 [.ref 0, .int p0] (gw A F nw nx LO DO) (.inl (some (.int v))) (gw A' F' nw' nx' LO DO) 0 0) : gm_Sp gm_MT (d + 61) 10016 [.ref 0, .int p0, .ref 37] (gw A F nw nx LO DO) (.inl (some (.int 0))) (gw A' F' nw' nx' (vp_updL LO 0 v.toInt64) DO) 0 0 := by
  refine gm_mk gm_mL_steps rfl ⟨Or.inr rfl, rfl, rfl, trivial⟩ (fun G X hC hX => ?_)
  refine gm_runs hC [] 200 _ _ _ _ _ _ ?_
  exact Or.inl ⟨_, _, _, _, h, And.intro vp_00 hX⟩
theorem h_steps_IOB {p0 : Int32} (h : gm_Sp gm_MT (d + 60) 7024 [.ref 0, .int p0] (gw A F nw nx LO DO) (.inr "java/lang/IndexOutOfBoundsException") (gw A' F' nw' nx' LO DO) 1 6) : gm_Sp gm_MT (d + 61) 10016 [.ref 0, .int p0, .ref 37] (gw A F nw nx LO DO) (.inl (some (.int 1))) (gw A' F' nw' nx' LO DO) 1 6 := by
  refine gm_mk gm_mL_steps rfl ⟨Or.inr rfl, rfl, rfl, trivial⟩ (fun G X hC hX => ?_)
  refine gm_runs hC [] 200 _ _ _ _ _ _ ?_
  exact Or.inr ⟨_, _, _, _, h, gm_thr_h (t := 12) (by decide +kernel) hX⟩
theorem h_normalForm {p0 : Int32} {v : Int32} (h : gm_Sp gm_MT (d + 60) 7025 [.ref 0, .int p0] (gw A F nw nx LO DO) (.inl (some (.int v))) (gw A' F' nw' nx' LO DO) 0 0) : gm_Sp gm_MT (d + 61) 10017 [.ref 0, .int p0, .ref 37] (gw A F nw nx LO DO) (.inl (some (.int 0))) (gw A' F' nw' nx' (vp_updL LO 0 v.toInt64) DO) 0 0 := by
  refine gm_mk gm_mL_normalForm rfl ⟨Or.inr rfl, rfl, rfl, trivial⟩ (fun G X hC hX => ?_)
  refine gm_runs hC [] 200 _ _ _ _ _ _ ?_
  exact Or.inl ⟨_, _, _, _, h, And.intro vp_00 hX⟩
theorem h_normalForm_IOB {p0 : Int32} (h : gm_Sp gm_MT (d + 60) 7025 [.ref 0, .int p0] (gw A F nw nx LO DO) (.inr "java/lang/IndexOutOfBoundsException") (gw A' F' nw' nx' LO DO) 1 6) : gm_Sp gm_MT (d + 61) 10017 [.ref 0, .int p0, .ref 37] (gw A F nw nx LO DO) (.inl (some (.int 1))) (gw A' F' nw' nx' LO DO) 1 6 := by
  refine gm_mk gm_mL_normalForm rfl ⟨Or.inr rfl, rfl, rfl, trivial⟩ (fun G X hC hX => ?_)
  refine gm_runs hC [] 200 _ _ _ _ _ _ ?_
  exact Or.inr ⟨_, _, _, _, h, gm_thr_h (t := 12) (by decide +kernel) hX⟩
theorem h_normalForm_UOE {p0 : Int32} (h : gm_Sp gm_MT (d + 60) 7025 [.ref 0, .int p0] (gw A F nw nx LO DO) (.inr "java/lang/UnsupportedOperationException") (gw A' F' nw' nx' LO DO) 1 6) : gm_Sp gm_MT (d + 61) 10017 [.ref 0, .int p0, .ref 37] (gw A F nw nx LO DO) (.inl (some (.int 2))) (gw A' F' nw' nx' LO DO) 1 6 := by
  refine gm_mk gm_mL_normalForm rfl ⟨Or.inr rfl, rfl, rfl, trivial⟩ (fun G X hC hX => ?_)
  refine gm_runs hC [] 200 _ _ _ _ _ _ ?_
  exact Or.inr ⟨_, _, _, _, h, gm_thr_h (t := 15) (by decide +kernel) hX⟩
theorem h_normalForm_ISE {p0 : Int32} (h : gm_Sp gm_MT (d + 60) 7025 [.ref 0, .int p0] (gw A F nw nx LO DO) (.inr "java/lang/IllegalStateException") (gw A' F' nw' nx' LO DO) 1 6) : gm_Sp gm_MT (d + 61) 10017 [.ref 0, .int p0, .ref 37] (gw A F nw nx LO DO) (.inl (some (.int 3))) (gw A' F' nw' nx' LO DO) 1 6 := by
  refine gm_mk gm_mL_normalForm rfl ⟨Or.inr rfl, rfl, rfl, trivial⟩ (fun G X hC hX => ?_)
  refine gm_runs hC [] 200 _ _ _ _ _ _ ?_
  exact Or.inr ⟨_, _, _, _, h, gm_thr_h (t := 18) (by decide +kernel) hX⟩
theorem h_primes {p0 : Int32} {v : Int32} (h : gm_Sp gm_MT (d + 60) 7026 [.ref 0, .int p0] (gw A F nw nx LO DO) (.inl (some (.int v))) (gw A' F' nw' nx' LO DO) 0 0) : gm_Sp gm_MT (d + 61) 10018 [.ref 0, .int p0, .ref 37] (gw A F nw nx LO DO) (.inl (some (.int 0))) (gw A' F' nw' nx' (vp_updL LO 0 v.toInt64) DO) 0 0 := by
  refine gm_mk gm_mL_primes rfl ⟨Or.inr rfl, rfl, rfl, trivial⟩ (fun G X hC hX => ?_)
  refine gm_runs hC [] 200 _ _ _ _ _ _ ?_
  exact Or.inl ⟨_, _, _, _, h, And.intro vp_00 hX⟩
theorem h_primes_IOB {p0 : Int32} (h : gm_Sp gm_MT (d + 60) 7026 [.ref 0, .int p0] (gw A F nw nx LO DO) (.inr "java/lang/IndexOutOfBoundsException") (gw A' F' nw' nx' LO DO) 1 6) : gm_Sp gm_MT (d + 61) 10018 [.ref 0, .int p0, .ref 37] (gw A F nw nx LO DO) (.inl (some (.int 1))) (gw A' F' nw' nx' LO DO) 1 6 := by
  refine gm_mk gm_mL_primes rfl ⟨Or.inr rfl, rfl, rfl, trivial⟩ (fun G X hC hX => ?_)
  refine gm_runs hC [] 200 _ _ _ _ _ _ ?_
  exact Or.inr ⟨_, _, _, _, h, gm_thr_h (t := 12) (by decide +kernel) hX⟩
theorem h_primesByTrying {p0 : Int32} {v : Int32} (h : gm_Sp gm_MT (d + 60) 7027 [.ref 0, .int p0] (gw A F nw nx LO DO) (.inl (some (.int v))) (gw A' F' nw' nx' LO DO) 0 0) : gm_Sp gm_MT (d + 61) 10019 [.ref 0, .int p0, .ref 37] (gw A F nw nx LO DO) (.inl (some (.int 0))) (gw A' F' nw' nx' (vp_updL LO 0 v.toInt64) DO) 0 0 := by
  refine gm_mk gm_mL_primesByTrying rfl ⟨Or.inr rfl, rfl, rfl, trivial⟩ (fun G X hC hX => ?_)
  refine gm_runs hC [] 200 _ _ _ _ _ _ ?_
  exact Or.inl ⟨_, _, _, _, h, And.intro vp_00 hX⟩
theorem h_primesByTrying_IOB {p0 : Int32} (h : gm_Sp gm_MT (d + 60) 7027 [.ref 0, .int p0] (gw A F nw nx LO DO) (.inr "java/lang/IndexOutOfBoundsException") (gw A' F' nw' nx' LO DO) 1 6) : gm_Sp gm_MT (d + 61) 10019 [.ref 0, .int p0, .ref 37] (gw A F nw nx LO DO) (.inl (some (.int 1))) (gw A' F' nw' nx' LO DO) 1 6 := by
  refine gm_mk gm_mL_primesByTrying rfl ⟨Or.inr rfl, rfl, rfl, trivial⟩ (fun G X hC hX => ?_)
  refine gm_runs hC [] 200 _ _ _ _ _ _ ?_
  exact Or.inr ⟨_, _, _, _, h, gm_thr_h (t := 12) (by decide +kernel) hX⟩
theorem h_prime {p0 p1 p2 : Int32} {v : Int32} (h : gm_Sp gm_MT (d + 60) 7028 [.ref 0, .int p0, .int p1, .int p2] (gw A F nw nx LO DO) (.inl (some (.int v))) (gw A' F' nw' nx' LO DO) 0 0) : gm_Sp gm_MT (d + 61) 10020 [.ref 0, .int p0, .int p1, .int p2, .ref 37] (gw A F nw nx LO DO) (.inl (some (.int 0))) (gw A' F' nw' nx' (vp_updL LO 0 v.toInt64) DO) 0 0 := by
  refine gm_mk gm_mL_prime rfl ⟨Or.inr rfl, rfl, rfl, trivial⟩ (fun G X hC hX => ?_)
  refine gm_runs hC [] 200 _ _ _ _ _ _ ?_
  exact Or.inl ⟨_, _, _, _, h, And.intro vp_00 hX⟩
theorem h_prime_IOB {p0 p1 p2 : Int32} (h : gm_Sp gm_MT (d + 60) 7028 [.ref 0, .int p0, .int p1, .int p2] (gw A F nw nx LO DO) (.inr "java/lang/IndexOutOfBoundsException") (gw A' F' nw' nx' LO DO) 1 6) : gm_Sp gm_MT (d + 61) 10020 [.ref 0, .int p0, .int p1, .int p2, .ref 37] (gw A F nw nx LO DO) (.inl (some (.int 1))) (gw A' F' nw' nx' LO DO) 1 6 := by
  refine gm_mk gm_mL_prime rfl ⟨Or.inr rfl, rfl, rfl, trivial⟩ (fun G X hC hX => ?_)
  refine gm_runs hC [] 200 _ _ _ _ _ _ ?_
  exact Or.inr ⟨_, _, _, _, h, gm_thr_h (t := 15) (by decide +kernel) hX⟩
theorem h_prime_NSE {p0 p1 p2 : Int32} (h : gm_Sp gm_MT (d + 60) 7028 [.ref 0, .int p0, .int p1, .int p2] (gw A F nw nx LO DO) (.inr "java/util/NoSuchElementException") (gw A' F' nw' nx' LO DO) 1 6) : gm_Sp gm_MT (d + 61) 10020 [.ref 0, .int p0, .int p1, .int p2, .ref 37] (gw A F nw nx LO DO) (.inl (some (.int 2))) (gw A' F' nw' nx' LO DO) 1 6 := by
  refine gm_mk gm_mL_prime rfl ⟨Or.inr rfl, rfl, rfl, trivial⟩ (fun G X hC hX => ?_)
  refine gm_runs hC [] 200 _ _ _ _ _ _ ?_
  exact Or.inr ⟨_, _, _, _, h, gm_thr_h (t := 19) (by decide +kernel) hX⟩
theorem h_prime_IAE {p0 p1 p2 : Int32} (h : gm_Sp gm_MT (d + 60) 7028 [.ref 0, .int p0, .int p1, .int p2] (gw A F nw nx LO DO) (.inr "java/lang/IllegalArgumentException") (gw A' F' nw' nx' LO DO) 1 6) : gm_Sp gm_MT (d + 61) 10020 [.ref 0, .int p0, .int p1, .int p2, .ref 37] (gw A F nw nx LO DO) (.inl (some (.int 3))) (gw A' F' nw' nx' LO DO) 1 6 := by
  refine gm_mk gm_mL_prime rfl ⟨Or.inr rfl, rfl, rfl, trivial⟩ (fun G X hC hX => ?_)
  refine gm_runs hC [] 200 _ _ _ _ _ _ ?_
  exact Or.inr ⟨_, _, _, _, h, gm_thr_h (t := 23) (by decide +kernel) hX⟩
theorem h_assume {p0 p1 p2 : Int32} {v : Int32} (h : gm_Sp gm_MT (d + 60) 7031 [.ref 0, .int p0, .int p1, .int p2] (gw A F nw nx LO DO) (.inl (some (.int v))) (gw A' F' nw' nx' LO DO) 0 0) : gm_Sp gm_MT (d + 61) 10021 [.ref 0, .int p0, .int p1, .int p2, .ref 37] (gw A F nw nx LO DO) (.inl (some (.int 0))) (gw A' F' nw' nx' (vp_updL LO 0 v.toInt64) DO) 0 0 := by
  refine gm_mk gm_mL_assume rfl ⟨Or.inr rfl, rfl, rfl, trivial⟩ (fun G X hC hX => ?_)
  refine gm_runs hC [] 200 _ _ _ _ _ _ ?_
  exact Or.inl ⟨_, _, _, _, h, And.intro vp_00 hX⟩
theorem h_assume_IAE {p0 p1 p2 : Int32} (h : gm_Sp gm_MT (d + 60) 7031 [.ref 0, .int p0, .int p1, .int p2] (gw A F nw nx LO DO) (.inr "java/lang/IllegalArgumentException") (gw A' F' nw' nx' LO DO) 1 6) : gm_Sp gm_MT (d + 61) 10021 [.ref 0, .int p0, .int p1, .int p2, .ref 37] (gw A F nw nx LO DO) (.inl (some (.int 1))) (gw A' F' nw' nx' LO DO) 1 6 := by
  refine gm_mk gm_mL_assume rfl ⟨Or.inr rfl, rfl, rfl, trivial⟩ (fun G X hC hX => ?_)
  refine gm_runs hC [] 200 _ _ _ _ _ _ ?_
  exact Or.inr ⟨_, _, _, _, h, gm_thr_h (t := 15) (by decide +kernel) hX⟩
theorem h_assume_IOB {p0 p1 p2 : Int32} (h : gm_Sp gm_MT (d + 60) 7031 [.ref 0, .int p0, .int p1, .int p2] (gw A F nw nx LO DO) (.inr "java/lang/IndexOutOfBoundsException") (gw A' F' nw' nx' LO DO) 1 6) : gm_Sp gm_MT (d + 61) 10021 [.ref 0, .int p0, .int p1, .int p2, .ref 37] (gw A F nw nx LO DO) (.inl (some (.int 2))) (gw A' F' nw' nx' LO DO) 1 6 := by
  refine gm_mk gm_mL_assume rfl ⟨Or.inr rfl, rfl, rfl, trivial⟩ (fun G X hC hX => ?_)
  refine gm_runs hC [] 200 _ _ _ _ _ _ ?_
  exact Or.inr ⟨_, _, _, _, h, gm_thr_h (t := 19) (by decide +kernel) hX⟩
theorem h_assume_ISE {p0 p1 p2 : Int32} (h : gm_Sp gm_MT (d + 60) 7031 [.ref 0, .int p0, .int p1, .int p2] (gw A F nw nx LO DO) (.inr "java/lang/IllegalStateException") (gw A' F' nw' nx' LO DO) 1 6) : gm_Sp gm_MT (d + 61) 10021 [.ref 0, .int p0, .int p1, .int p2, .ref 37] (gw A F nw nx LO DO) (.inl (some (.int 3))) (gw A' F' nw' nx' LO DO) 1 6 := by
  refine gm_mk gm_mL_assume rfl ⟨Or.inr rfl, rfl, rfl, trivial⟩ (fun G X hC hX => ?_)
  refine gm_runs hC [] 200 _ _ _ _ _ _ ?_
  exact Or.inr ⟨_, _, _, _, h, gm_thr_h (t := 23) (by decide +kernel) hX⟩
theorem h_drop {v : Int32} (h : gm_Sp gm_MT (d + 60) 7032 [.ref 0] (gw A F nw nx LO DO) (.inl (some (.int v))) (gw A' F' nw' nx' LO DO) 0 0) : gm_Sp gm_MT (d + 61) 10022 [.ref 0, .ref 37] (gw A F nw nx LO DO) (.inl (some (.int 0))) (gw A' F' nw' nx' (vp_updL LO 0 v.toInt64) DO) 0 0 := by
  refine gm_mk gm_mL_drop rfl ⟨Or.inr rfl, rfl, rfl, trivial⟩ (fun G X hC hX => ?_)
  refine gm_runs hC [] 200 _ _ _ _ _ _ ?_
  exact Or.inl ⟨_, _, _, _, h, And.intro vp_00 hX⟩
theorem h_drop_ISE (h : gm_Sp gm_MT (d + 60) 7032 [.ref 0] (gw A F nw nx LO DO) (.inr "java/lang/IllegalStateException") (gw A' F' nw' nx' LO DO) 1 6) : gm_Sp gm_MT (d + 61) 10022 [.ref 0, .ref 37] (gw A F nw nx LO DO) (.inl (some (.int 1))) (gw A' F' nw' nx' LO DO) 1 6 := by
  refine gm_mk gm_mL_drop rfl ⟨Or.inr rfl, rfl, rfl, trivial⟩ (fun G X hC hX => ?_)
  refine gm_runs hC [] 200 _ _ _ _ _ _ ?_
  exact Or.inr ⟨_, _, _, _, h, gm_thr_h (t := 11) (by decide +kernel) hX⟩
theorem h_setGoal {p0 p1 p2 : Int32} {b : Bool} (h : gm_Sp gm_MT (d + 60) 7034 [.ref 0, .int p0, .int p1, .int p2] (gw A F nw nx LO DO) (.inl (some (.int (gB b)))) (gw A' F' nw' nx' LO DO) 0 0) : gm_Sp gm_MT (d + 61) 10023 [.ref 0, .int p0, .int p1, .int p2, .ref 37] (gw A F nw nx LO DO) (.inl (some (.int 0))) (gw A' F' nw' nx' (vp_updL LO 0 (gB b).toInt64) DO) 0 0 := by
  refine gm_mk gm_mL_setGoal rfl ⟨Or.inr rfl, rfl, rfl, trivial⟩ (fun G X hC hX => ?_)
  cases b with
  | false =>
    have hX : X (.inl (some (.int 0))) (gw A' F' nw' nx' (vp_updL LO 0 0) DO) 0 0 := hX
    refine gm_runs hC [] 200 _ _ _ _ _ _ ?_
    exact Or.inl ⟨_, _, _, _, h, gx_t (show (0 : Int32) = 0 from rfl) (And.intro vp_00 hX)⟩
  | true =>
    have hX : X (.inl (some (.int 0))) (gw A' F' nw' nx' (vp_updL LO 0 1) DO) 0 0 := hX
    refine gm_runs hC [] 200 _ _ _ _ _ _ ?_
    exact Or.inl ⟨_, _, _, _, h, gx_f (show ¬ (1 : Int32) = 0 from by decide) (And.intro vp_00 hX)⟩
theorem h_setGoal_IAE {p0 p1 p2 : Int32} (h : gm_Sp gm_MT (d + 60) 7034 [.ref 0, .int p0, .int p1, .int p2] (gw A F nw nx LO DO) (.inr "java/lang/IllegalArgumentException") (gw A' F' nw' nx' LO DO) 1 6) : gm_Sp gm_MT (d + 61) 10023 [.ref 0, .int p0, .int p1, .int p2, .ref 37] (gw A F nw nx LO DO) (.inl (some (.int 1))) (gw A' F' nw' nx' LO DO) 1 6 := by
  refine gm_mk gm_mL_setGoal rfl ⟨Or.inr rfl, rfl, rfl, trivial⟩ (fun G X hC hX => ?_)
  refine gm_runs hC [] 200 _ _ _ _ _ _ ?_
  exact Or.inr ⟨_, _, _, _, h, gm_thr_h (t := 22) (by decide +kernel) hX⟩
theorem h_setGoal_IOB {p0 p1 p2 : Int32} (h : gm_Sp gm_MT (d + 60) 7034 [.ref 0, .int p0, .int p1, .int p2] (gw A F nw nx LO DO) (.inr "java/lang/IndexOutOfBoundsException") (gw A' F' nw' nx' LO DO) 1 6) : gm_Sp gm_MT (d + 61) 10023 [.ref 0, .int p0, .int p1, .int p2, .ref 37] (gw A F nw nx LO DO) (.inl (some (.int 2))) (gw A' F' nw' nx' LO DO) 1 6 := by
  refine gm_mk gm_mL_setGoal rfl ⟨Or.inr rfl, rfl, rfl, trivial⟩ (fun G X hC hX => ?_)
  refine gm_runs hC [] 200 _ _ _ _ _ _ ?_
  exact Or.inr ⟨_, _, _, _, h, gm_thr_h (t := 26) (by decide +kernel) hX⟩
theorem h_deniedBy {p0 : Int32} {v : Int32} (h : gm_Sp gm_MT (d + 60) 7036 [.ref 0, .int p0] (gw A F nw nx LO DO) (.inl (some (.int v))) (gw A' F' nw' nx' LO DO) 0 0) : gm_Sp gm_MT (d + 61) 10024 [.ref 0, .int p0, .ref 37] (gw A F nw nx LO DO) (.inl (some (.int 0))) (gw A' F' nw' nx' (vp_updL LO 0 v.toInt64) DO) 0 0 := by
  refine gm_mk gm_mL_deniedBy rfl ⟨Or.inr rfl, rfl, rfl, trivial⟩ (fun G X hC hX => ?_)
  refine gm_runs hC [] 200 _ _ _ _ _ _ ?_
  exact Or.inl ⟨_, _, _, _, h, And.intro vp_00 hX⟩
theorem h_deniedBy_IAE {p0 : Int32} (h : gm_Sp gm_MT (d + 60) 7036 [.ref 0, .int p0] (gw A F nw nx LO DO) (.inr "java/lang/IllegalArgumentException") (gw A' F' nw' nx' LO DO) 1 6) : gm_Sp gm_MT (d + 61) 10024 [.ref 0, .int p0, .ref 37] (gw A F nw nx LO DO) (.inl (some (.int 1))) (gw A' F' nw' nx' LO DO) 1 6 := by
  refine gm_mk gm_mL_deniedBy rfl ⟨Or.inr rfl, rfl, rfl, trivial⟩ (fun G X hC hX => ?_)
  refine gm_runs hC [] 200 _ _ _ _ _ _ ?_
  exact Or.inr ⟨_, _, _, _, h, gm_thr_h (t := 12) (by decide +kernel) hX⟩
theorem h_deniedBy_NSE {p0 : Int32} (h : gm_Sp gm_MT (d + 60) 7036 [.ref 0, .int p0] (gw A F nw nx LO DO) (.inr "java/util/NoSuchElementException") (gw A' F' nw' nx' LO DO) 1 6) : gm_Sp gm_MT (d + 61) 10024 [.ref 0, .int p0, .ref 37] (gw A F nw nx LO DO) (.inl (some (.int 2))) (gw A' F' nw' nx' LO DO) 1 6 := by
  refine gm_mk gm_mL_deniedBy rfl ⟨Or.inr rfl, rfl, rfl, trivial⟩ (fun G X hC hX => ?_)
  refine gm_runs hC [] 200 _ _ _ _ _ _ ?_
  exact Or.inr ⟨_, _, _, _, h, gm_thr_h (t := 15) (by decide +kernel) hX⟩
theorem h_follows {b : Bool} (h : gm_Sp gm_MT (d + 60) 7037 [.ref 0] (gw A F nw nx LO DO) (.inl (some (.int (gB b)))) (gw A' F' nw' nx' LO DO) 0 0) : gm_Sp gm_MT (d + 61) 10025 [.ref 0, .ref 37] (gw A F nw nx LO DO) (.inl (some (.int 0))) (gw A' F' nw' nx' (vp_updL LO 0 (gB b).toInt64) DO) 0 0 := by
  refine gm_mk gm_mL_follows rfl ⟨Or.inr rfl, rfl, rfl, trivial⟩ (fun G X hC hX => ?_)
  cases b with
  | false =>
    have hX : X (.inl (some (.int 0))) (gw A' F' nw' nx' (vp_updL LO 0 0) DO) 0 0 := hX
    refine gm_runs hC [] 200 _ _ _ _ _ _ ?_
    exact Or.inl ⟨_, _, _, _, h, gx_t (show (0 : Int32) = 0 from rfl) (And.intro vp_00 hX)⟩
  | true =>
    have hX : X (.inl (some (.int 0))) (gw A' F' nw' nx' (vp_updL LO 0 1) DO) 0 0 := hX
    refine gm_runs hC [] 200 _ _ _ _ _ _ ?_
    exact Or.inl ⟨_, _, _, _, h, gx_f (show ¬ (1 : Int32) = 0 from by decide) (And.intro vp_00 hX)⟩
theorem h_follows_ISE (h : gm_Sp gm_MT (d + 60) 7037 [.ref 0] (gw A F nw nx LO DO) (.inr "java/lang/IllegalStateException") (gw A' F' nw' nx' LO DO) 1 6) : gm_Sp gm_MT (d + 61) 10025 [.ref 0, .ref 37] (gw A F nw nx LO DO) (.inl (some (.int 1))) (gw A' F' nw' nx' LO DO) 1 6 := by
  refine gm_mk gm_mL_follows rfl ⟨Or.inr rfl, rfl, rfl, trivial⟩ (fun G X hC hX => ?_)
  refine gm_runs hC [] 200 _ _ _ _ _ _ ?_
  exact Or.inr ⟨_, _, _, _, h, gm_thr_h (t := 18) (by decide +kernel) hX⟩
theorem h_why {v : Int32} (h : gm_Sp gm_MT (d + 60) 7038 [.ref 0] (gw A F nw nx LO DO) (.inl (some (.int v))) (gw A' F' nw' nx' LO DO) 0 0) : gm_Sp gm_MT (d + 61) 10026 [.ref 0, .ref 37] (gw A F nw nx LO DO) (.inl (some (.int 0))) (gw A' F' nw' nx' (vp_updL LO 0 v.toInt64) DO) 0 0 := by
  refine gm_mk gm_mL_why rfl ⟨Or.inr rfl, rfl, rfl, trivial⟩ (fun G X hC hX => ?_)
  refine gm_runs hC [] 200 _ _ _ _ _ _ ?_
  exact Or.inl ⟨_, _, _, _, h, And.intro vp_00 hX⟩
theorem h_why_ISE (h : gm_Sp gm_MT (d + 60) 7038 [.ref 0] (gw A F nw nx LO DO) (.inr "java/lang/IllegalStateException") (gw A' F' nw' nx' LO DO) 1 6) : gm_Sp gm_MT (d + 61) 10026 [.ref 0, .ref 37] (gw A F nw nx LO DO) (.inl (some (.int 1))) (gw A' F' nw' nx' LO DO) 1 6 := by
  refine gm_mk gm_mL_why rfl ⟨Or.inr rfl, rfl, rfl, trivial⟩ (fun G X hC hX => ?_)
  refine gm_runs hC [] 200 _ _ _ _ _ _ ?_
  exact Or.inr ⟨_, _, _, _, h, gm_thr_h (t := 11) (by decide +kernel) hX⟩
theorem h_why_NSE (h : gm_Sp gm_MT (d + 60) 7038 [.ref 0] (gw A F nw nx LO DO) (.inr "java/util/NoSuchElementException") (gw A' F' nw' nx' LO DO) 1 6) : gm_Sp gm_MT (d + 61) 10026 [.ref 0, .ref 37] (gw A F nw nx LO DO) (.inl (some (.int 2))) (gw A' F' nw' nx' LO DO) 1 6 := by
  refine gm_mk gm_mL_why rfl ⟨Or.inr rfl, rfl, rfl, trivial⟩ (fun G X hC hX => ?_)
  refine gm_runs hC [] 200 _ _ _ _ _ _ ?_
  exact Or.inr ⟨_, _, _, _, h, gm_thr_h (t := 14) (by decide +kernel) hX⟩
theorem h_witness {v : Int32} (h : gm_Sp gm_MT (d + 60) 7039 [.ref 0] (gw A F nw nx LO DO) (.inl (some (.int v))) (gw A' F' nw' nx' LO DO) 0 0) : gm_Sp gm_MT (d + 61) 10027 [.ref 0, .ref 37] (gw A F nw nx LO DO) (.inl (some (.int 0))) (gw A' F' nw' nx' (vp_updL LO 0 v.toInt64) DO) 0 0 := by
  refine gm_mk gm_mL_witness rfl ⟨Or.inr rfl, rfl, rfl, trivial⟩ (fun G X hC hX => ?_)
  refine gm_runs hC [] 200 _ _ _ _ _ _ ?_
  exact Or.inl ⟨_, _, _, _, h, And.intro vp_00 hX⟩
theorem h_witness_ISE (h : gm_Sp gm_MT (d + 60) 7039 [.ref 0] (gw A F nw nx LO DO) (.inr "java/lang/IllegalStateException") (gw A' F' nw' nx' LO DO) 1 6) : gm_Sp gm_MT (d + 61) 10027 [.ref 0, .ref 37] (gw A F nw nx LO DO) (.inl (some (.int 1))) (gw A' F' nw' nx' LO DO) 1 6 := by
  refine gm_mk gm_mL_witness rfl ⟨Or.inr rfl, rfl, rfl, trivial⟩ (fun G X hC hX => ?_)
  refine gm_runs hC [] 200 _ _ _ _ _ _ ?_
  exact Or.inr ⟨_, _, _, _, h, gm_thr_h (t := 11) (by decide +kernel) hX⟩
theorem h_witness_UOE (h : gm_Sp gm_MT (d + 60) 7039 [.ref 0] (gw A F nw nx LO DO) (.inr "java/lang/UnsupportedOperationException") (gw A' F' nw' nx' LO DO) 1 6) : gm_Sp gm_MT (d + 61) 10027 [.ref 0, .ref 37] (gw A F nw nx LO DO) (.inl (some (.int 2))) (gw A' F' nw' nx' LO DO) 1 6 := by
  refine gm_mk gm_mL_witness rfl ⟨Or.inr rfl, rfl, rfl, trivial⟩ (fun G X hC hX => ?_)
  refine gm_runs hC [] 200 _ _ _ _ _ _ ?_
  exact Or.inr ⟨_, _, _, _, h, gm_thr_h (t := 14) (by decide +kernel) hX⟩
theorem h_witness_NSE (h : gm_Sp gm_MT (d + 60) 7039 [.ref 0] (gw A F nw nx LO DO) (.inr "java/util/NoSuchElementException") (gw A' F' nw' nx' LO DO) 1 6) : gm_Sp gm_MT (d + 61) 10027 [.ref 0, .ref 37] (gw A F nw nx LO DO) (.inl (some (.int 3))) (gw A' F' nw' nx' LO DO) 1 6 := by
  refine gm_mk gm_mL_witness rfl ⟨Or.inr rfl, rfl, rfl, trivial⟩ (fun G X hC hX => ?_)
  refine gm_runs hC [] 200 _ _ _ _ _ _ ?_
  exact Or.inr ⟨_, _, _, _, h, gm_thr_h (t := 17) (by decide +kernel) hX⟩
theorem h_elements {v : Int32} (h : gm_Sp gm_MT (d + 60) 7045 [.ref 0] (gw A F nw nx LO DO) (.inl (some (.int v))) (gw A' F' nw' nx' LO DO) 0 0) : gm_Sp gm_MT (d + 61) 10028 [.ref 0, .ref 37] (gw A F nw nx LO DO) (.inl (some (.int 0))) (gw A' F' nw' nx' (vp_updL LO 0 v.toInt64) DO) 0 0 := by
  refine gm_mk gm_mL_elements rfl ⟨Or.inr rfl, rfl, rfl, trivial⟩ (fun G X hC hX => ?_)
  refine gm_runs hC [] 200 _ _ _ _ _ _ ?_
  exact Or.inl ⟨_, _, _, _, h, And.intro vp_00 hX⟩
theorem h_elements_ISE (h : gm_Sp gm_MT (d + 60) 7045 [.ref 0] (gw A F nw nx LO DO) (.inr "java/lang/IllegalStateException") (gw A' F' nw' nx' LO DO) 1 6) : gm_Sp gm_MT (d + 61) 10028 [.ref 0, .ref 37] (gw A F nw nx LO DO) (.inl (some (.int 1))) (gw A' F' nw' nx' LO DO) 1 6 := by
  refine gm_mk gm_mL_elements rfl ⟨Or.inr rfl, rfl, rfl, trivial⟩ (fun G X hC hX => ?_)
  refine gm_runs hC [] 200 _ _ _ _ _ _ ?_
  exact Or.inr ⟨_, _, _, _, h, gm_thr_h (t := 11) (by decide +kernel) hX⟩
theorem h_elements_NSE (h : gm_Sp gm_MT (d + 60) 7045 [.ref 0] (gw A F nw nx LO DO) (.inr "java/util/NoSuchElementException") (gw A' F' nw' nx' LO DO) 1 6) : gm_Sp gm_MT (d + 61) 10028 [.ref 0, .ref 37] (gw A F nw nx LO DO) (.inl (some (.int 2))) (gw A' F' nw' nx' LO DO) 1 6 := by
  refine gm_mk gm_mL_elements rfl ⟨Or.inr rfl, rfl, rfl, trivial⟩ (fun G X hC hX => ?_)
  refine gm_runs hC [] 200 _ _ _ _ _ _ ?_
  exact Or.inr ⟨_, _, _, _, h, gm_thr_h (t := 14) (by decide +kernel) hX⟩
theorem h_elementsByTrying {v : Int32} (h : gm_Sp gm_MT (d + 60) 7046 [.ref 0] (gw A F nw nx LO DO) (.inl (some (.int v))) (gw A' F' nw' nx' LO DO) 0 0) : gm_Sp gm_MT (d + 61) 10029 [.ref 0, .ref 37] (gw A F nw nx LO DO) (.inl (some (.int 0))) (gw A' F' nw' nx' (vp_updL LO 0 v.toInt64) DO) 0 0 := by
  refine gm_mk gm_mL_elementsByTrying rfl ⟨Or.inr rfl, rfl, rfl, trivial⟩ (fun G X hC hX => ?_)
  refine gm_runs hC [] 200 _ _ _ _ _ _ ?_
  exact Or.inl ⟨_, _, _, _, h, And.intro vp_00 hX⟩
theorem h_elementsByTrying_ISE (h : gm_Sp gm_MT (d + 60) 7046 [.ref 0] (gw A F nw nx LO DO) (.inr "java/lang/IllegalStateException") (gw A' F' nw' nx' LO DO) 1 6) : gm_Sp gm_MT (d + 61) 10029 [.ref 0, .ref 37] (gw A F nw nx LO DO) (.inl (some (.int 1))) (gw A' F' nw' nx' LO DO) 1 6 := by
  refine gm_mk gm_mL_elementsByTrying rfl ⟨Or.inr rfl, rfl, rfl, trivial⟩ (fun G X hC hX => ?_)
  refine gm_runs hC [] 200 _ _ _ _ _ _ ?_
  exact Or.inr ⟨_, _, _, _, h, gm_thr_h (t := 11) (by decide +kernel) hX⟩
theorem h_elementsByTrying_NSE (h : gm_Sp gm_MT (d + 60) 7046 [.ref 0] (gw A F nw nx LO DO) (.inr "java/util/NoSuchElementException") (gw A' F' nw' nx' LO DO) 1 6) : gm_Sp gm_MT (d + 61) 10029 [.ref 0, .ref 37] (gw A F nw nx LO DO) (.inl (some (.int 2))) (gw A' F' nw' nx' LO DO) 1 6 := by
  refine gm_mk gm_mL_elementsByTrying rfl ⟨Or.inr rfl, rfl, rfl, trivial⟩ (fun G X hC hX => ?_)
  refine gm_runs hC [] 200 _ _ _ _ _ _ ?_
  exact Or.inr ⟨_, _, _, _, h, gm_thr_h (t := 14) (by decide +kernel) hX⟩
theorem h_region {p0 : Int32} {v : Int32} (h : gm_Sp gm_MT (d + 60) 7047 [.ref 0, .int p0] (gw A F nw nx LO DO) (.inl (some (.int v))) (gw A' F' nw' nx' LO DO) 0 0) : gm_Sp gm_MT (d + 61) 10030 [.ref 0, .int p0, .ref 37] (gw A F nw nx LO DO) (.inl (some (.int 0))) (gw A' F' nw' nx' (vp_updL LO 0 v.toInt64) DO) 0 0 := by
  refine gm_mk gm_mL_region rfl ⟨Or.inr rfl, rfl, rfl, trivial⟩ (fun G X hC hX => ?_)
  refine gm_runs hC [] 200 _ _ _ _ _ _ ?_
  exact Or.inl ⟨_, _, _, _, h, And.intro vp_00 hX⟩
theorem h_region_ISE {p0 : Int32} (h : gm_Sp gm_MT (d + 60) 7047 [.ref 0, .int p0] (gw A F nw nx LO DO) (.inr "java/lang/IllegalStateException") (gw A' F' nw' nx' LO DO) 1 6) : gm_Sp gm_MT (d + 61) 10030 [.ref 0, .int p0, .ref 37] (gw A F nw nx LO DO) (.inl (some (.int 1))) (gw A' F' nw' nx' LO DO) 1 6 := by
  refine gm_mk gm_mL_region rfl ⟨Or.inr rfl, rfl, rfl, trivial⟩ (fun G X hC hX => ?_)
  refine gm_runs hC [] 200 _ _ _ _ _ _ ?_
  exact Or.inr ⟨_, _, _, _, h, gm_thr_h (t := 12) (by decide +kernel) hX⟩
theorem h_region_NSE {p0 : Int32} (h : gm_Sp gm_MT (d + 60) 7047 [.ref 0, .int p0] (gw A F nw nx LO DO) (.inr "java/util/NoSuchElementException") (gw A' F' nw' nx' LO DO) 1 6) : gm_Sp gm_MT (d + 61) 10030 [.ref 0, .int p0, .ref 37] (gw A F nw nx LO DO) (.inl (some (.int 2))) (gw A' F' nw' nx' LO DO) 1 6 := by
  refine gm_mk gm_mL_region rfl ⟨Or.inr rfl, rfl, rfl, trivial⟩ (fun G X hC hX => ?_)
  refine gm_runs hC [] 200 _ _ _ _ _ _ ?_
  exact Or.inr ⟨_, _, _, _, h, gm_thr_h (t := 15) (by decide +kernel) hX⟩
theorem h_models {p0 : Int32} {v : Int64} (h : gm_Sp gm_MT (d + 60) 7048 [.ref 0, .int p0] (gw A F nw nx LO DO) (.inl (some (.long v))) (gw A' F' nw' nx' LO DO) 0 0) : gm_Sp gm_MT (d + 61) 10031 [.ref 0, .int p0, .ref 37] (gw A F nw nx LO DO) (.inl (some (.int 0))) (gw A' F' nw' nx' (vp_updL LO 0 v) DO) 0 0 := by
  refine gm_mk gm_mL_models rfl ⟨Or.inr rfl, rfl, rfl, trivial⟩ (fun G X hC hX => ?_)
  refine gm_runs hC [] 200 _ _ _ _ _ _ ?_
  exact Or.inl ⟨_, _, _, _, h, And.intro vp_00 hX⟩
theorem h_models_IAE {p0 : Int32} (h : gm_Sp gm_MT (d + 60) 7048 [.ref 0, .int p0] (gw A F nw nx LO DO) (.inr "java/lang/IllegalArgumentException") (gw A' F' nw' nx' LO DO) 1 6) : gm_Sp gm_MT (d + 61) 10031 [.ref 0, .int p0, .ref 37] (gw A F nw nx LO DO) (.inl (some (.int 1))) (gw A' F' nw' nx' LO DO) 1 6 := by
  refine gm_mk gm_mL_models rfl ⟨Or.inr rfl, rfl, rfl, trivial⟩ (fun G X hC hX => ?_)
  refine gm_runs hC [] 200 _ _ _ _ _ _ ?_
  exact Or.inr ⟨_, _, _, _, h, gm_thr_h (t := 11) (by decide +kernel) hX⟩
theorem h_modelsByTrying {p0 : Int32} {v : Int64} (h : gm_Sp gm_MT (d + 60) 7049 [.ref 0, .int p0] (gw A F nw nx LO DO) (.inl (some (.long v))) (gw A' F' nw' nx' LO DO) 0 0) : gm_Sp gm_MT (d + 61) 10032 [.ref 0, .int p0, .ref 37] (gw A F nw nx LO DO) (.inl (some (.int 0))) (gw A' F' nw' nx' (vp_updL LO 0 v) DO) 0 0 := by
  refine gm_mk gm_mL_modelsByTrying rfl ⟨Or.inr rfl, rfl, rfl, trivial⟩ (fun G X hC hX => ?_)
  refine gm_runs hC [] 200 _ _ _ _ _ _ ?_
  exact Or.inl ⟨_, _, _, _, h, And.intro vp_00 hX⟩
theorem h_modelsByTrying_IAE {p0 : Int32} (h : gm_Sp gm_MT (d + 60) 7049 [.ref 0, .int p0] (gw A F nw nx LO DO) (.inr "java/lang/IllegalArgumentException") (gw A' F' nw' nx' LO DO) 1 6) : gm_Sp gm_MT (d + 61) 10032 [.ref 0, .int p0, .ref 37] (gw A F nw nx LO DO) (.inl (some (.int 1))) (gw A' F' nw' nx' LO DO) 1 6 := by
  refine gm_mk gm_mL_modelsByTrying rfl ⟨Or.inr rfl, rfl, rfl, trivial⟩ (fun G X hC hX => ?_)
  refine gm_runs hC [] 200 _ _ _ _ _ _ ?_
  exact Or.inr ⟨_, _, _, _, h, gm_thr_h (t := 11) (by decide +kernel) hX⟩
theorem h_density {p0 : Int32} {v : UInt32} (hv : vf_n64 (FP.f2d v)) (h : gm_Sp gm_MT (d + 60) 7050 [.ref 0, .int p0] (gw A F nw nx LO DO) (.inl (some (.float v))) (gw A' F' nw' nx' LO DO) 0 0) : gm_Sp gm_MT (d + 61) 10033 [.ref 0, .int p0, .ref 38] (gw A F nw nx LO DO) (.inl (some (.int 0))) (gw A' F' nw' nx' LO (vf_upd DO 0 (FP.f2d v))) 0 0 := by
  refine gm_mk gm_mL_density rfl ⟨Or.inr rfl, rfl, rfl, trivial⟩ (fun G X hC hX => ?_)
  refine gm_runs hC [] 200 _ _ _ _ _ _ ?_
  exact Or.inl ⟨_, _, _, _, h, And.intro hv (And.intro vp_00 hX)⟩
theorem h_density_IOB {p0 : Int32} (h : gm_Sp gm_MT (d + 60) 7050 [.ref 0, .int p0] (gw A F nw nx LO DO) (.inr "java/lang/IndexOutOfBoundsException") (gw A' F' nw' nx' LO DO) 1 6) : gm_Sp gm_MT (d + 61) 10033 [.ref 0, .int p0, .ref 38] (gw A F nw nx LO DO) (.inl (some (.int 1))) (gw A' F' nw' nx' LO DO) 1 6 := by
  refine gm_mk gm_mL_density rfl ⟨Or.inr rfl, rfl, rfl, trivial⟩ (fun G X hC hX => ?_)
  refine gm_runs hC [] 200 _ _ _ _ _ _ ?_
  exact Or.inr ⟨_, _, _, _, h, gm_thr_h (t := 12) (by decide +kernel) hX⟩
end X