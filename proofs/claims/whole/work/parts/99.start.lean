/-! THE START: what the tables and the Statement say of it -/
theorem la_arr {s : State} {args : Array Value} {ty : FieldType} (h : (Cond.arrayClass ty).before args s = true) : ∃ cA, ArrOfT s cA ty ∧ s.vm.findClass ("[" ++ ty.toString) = some cA := by
  obtain ⟨c, k, comp, h1, h2, h3⟩ := Cond.arrayClass_spec h
  exact ⟨c, fun N z => ⟨(fun k h => by cases h), k, h2, comp, h3⟩, h1⟩
theorem la_K {s : State} {args : Array Value} (hU : ∀ w ∈ gm_U, w.before args s = true) : ∃ (dC : Nat → ClassId) (dI : Nat → Nat → Nat) (cy : Nat → ClassId), va_K (dC, dI) vwCl (gm_tys cy) s := by
  have h : ∀ (ci : Nat) (r : vw_C), vwCl[ci]? = some r → ∃ (cC : ClassId) (iS : Nat → Nat), u_Kn s r.1 r.2.1 r.2.2 cC iS := by
    intro ci r h
    match ci, h with
    | 0, h => cases h; exact u_known hU gm_fclX0 (hU _ gm_u157)
    | 1, h => cases h; exact u_known hU gm_fclX1 (hU _ gm_u119)
    | 2, h => cases h; exact u_known hU gm_fclX2 (hU _ gm_u211)
    | 3, h => cases h; exact u_known hU gm_fclX3 (hU _ gm_u186)
    | 4, h => cases h; exact u_known hU gm_fclX4 (hU _ gm_u92)
    | 5, h => cases h; exact u_known hU gm_fclX5 (hU _ gm_u125)
    | 6, h => cases h; exact u_known hU gm_fclX6 (hU _ gm_u84)
    | 7, h => cases h; exact u_known hU gm_fclX7 (hU _ gm_u1043)
    | _ + 8, h => cases h
  have h2 : ∀ ci : Nat, ∃ (cC : ClassId) (iS : Nat → Nat), ∀ r : vw_C, vwCl[ci]? = some r → u_Kn s r.1 r.2.1 r.2.2 cC iS := by
    intro ci
    cases hc : vwCl[ci]? with
    | none =>
      obtain ⟨a, b, k⟩ := h 0 _ rfl
      exact ⟨a, b, fun r hr => by cases hr⟩
    | some r0 =>
      obtain ⟨a, b, k⟩ := h ci r0 hc
      exact ⟨a, b, fun r hr => by cases hr; exact k⟩
  obtain ⟨a0, p0, q0⟩ := la_arr (hU _ (gm_farr .int (by decide)))
  obtain ⟨a1, p1, q1⟩ := la_arr (hU _ (gm_farr .char (by decide)))
  obtain ⟨a2, p2, q2⟩ := la_arr (hU _ (gm_farr .boolean (by decide)))
  obtain ⟨a3, p3, q3⟩ := la_arr (hU _ (gm_farr .long (by decide)))
  obtain ⟨a4, p4, q4⟩ := la_arr (hU _ (gm_farr .double (by decide)))
  refine ⟨fun ci => Classical.choose (h2 ci), fun ci => Classical.choose (Classical.choose_spec (h2 ci)), fun k => match k with | 0 => a0 | 1 => a1 | 2 => a2 | 3 => a3 | _ => a4, fun ci r hr => Classical.choose_spec (Classical.choose_spec (h2 ci)) r hr, fun k q hk => ?_⟩
  match k, hk with
  | 0, hk => cases hk; exact ⟨p0, q0⟩
  | 1, hk => cases hk; exact ⟨p1, q1⟩
  | 2, hk => cases hk; exact ⟨p2, q2⟩
  | 3, hk => cases hk; exact ⟨p3, q3⟩
  | 4, hk => cases hk; exact ⟨p4, q4⟩
  | _ + 5, hk => cases hk
set_option maxRecDepth 20000 in
theorem la_x1 : ∀ q ∈ gm_strs, Cond.stringRef RX6 q.1 q.2 ∈ lw_tbl := by decide +kernel
set_option maxRecDepth 20000 in
theorem la_x2 : ∀ q ∈ gm_strs, Cond.exactly (Term.string RX6 q.1) "java/lang/String" ∈ flatC (Jvm.Cond.and given_1 narrow_1) := by decide +kernel
set_option maxRecDepth 20000 in
theorem la_x3 : ∀ E ∈ gm_exs, ∀ E2 ∈ gm_exs, E ≠ E2 → Cond.not (Cond.castable E E2) ∈ flatC (Jvm.Cond.and given_1 narrow_1) := by decide +kernel
set_option maxRecDepth 20000 in
theorem la_x4 : ∀ q ∈ gm_nests, Cond.methodLinkNest q.1 q.2.1 q.2.2 RX6 ∈ lw_tbl := by decide +kernel
set_option maxRecDepth 20000 in
theorem la_x5 : Cond.isRef (.static Bundle.tN "UNASSIGNED_STACK" Bundle.steD) ∈ flatC (Jvm.Cond.and given_1 narrow_1) := by decide +kernel
set_option maxRecDepth 20000 in
theorem la_x6 : Cond.isRef (.static Bundle.tN "SUPPRESSED_SENTINEL" Bundle.listD) ∈ flatC (Jvm.Cond.and given_1 narrow_1) := by decide +kernel
set_option maxRecDepth 20000 in
theorem la_x7 : Cond.laysStatic Bundle.tN "UNASSIGNED_STACK" Bundle.steD ∈ lw_tbl ∧ Cond.laysStatic Bundle.tN "SUPPRESSED_SENTINEL" Bundle.listD ∈ lw_tbl ∧ Cond.initialized Bundle.tN ∈ lw_tbl := by decide +kernel
theorem la_Ex {s : State} {args : Array Value} {A : Nat → Prop} (hts : ∀ w ∈ lw_tbl, w.before args s = true) (hgv : (Jvm.Cond.and given_1 narrow_1).before args s = true) (hA : ∀ a : Nat, a < s.heap.size → ¬ A a) : gm_Ex A s := by
  have hs := flat_of_before _ hgv
  refine ⟨vx_Zqof (hts _ la_x7.1) (hts _ la_x7.2.2) (hs _ la_x5) hA, vx_Zqof (hts _ la_x7.2.1) (hts _ la_x7.2.2) (hs _ la_x6) hA, fun w hw hn => va_Nw.of (gm_isn_tab hn) (hts w hw), fun q hq => ?_, fun E hE E2 hE2 hn => va_Nc.of (hs _ (la_x3 E hE E2 hE2 hn)), fun q hq => va_Nw.of rfl (hts _ (la_x4 q hq))⟩
  obtain ⟨a, c, cell, k, h1, -⟩ := Cond.exactly_spec (hs _ (la_x2 q hq))
  exact ⟨a, vk_R.of (hts _ (la_x1 q hq)) h1⟩
