/-! BOTH SIDES TOGETHER: what holds between calls, and what a call owes -/
def gS (A : Nat → Nat → Int32) (F : Nat → Int32) (N n : Nat) : Prop := n ≤ 6 ∧ F 7 = nI n ∧ F 22 = nI n ∧ (∀ j, j < n → ∃ a b, a < N ∧ b < N ∧ A 31 j = nI a ∧ A 32 j = nI b) ∧ (∀ j, j < n → A 19 j = mD A j ∧ A 20 j = mP A j) ∧ ((F 8 = 0 ∧ F 23 = 0) ∨ (F 8 = 1 ∧ F 23 = 1 ∧ (∃ a b, a < N ∧ b < N ∧ F 28 = nI a ∧ F 29 = nI b) ∧ F 9 = gB (sDem (F 27)) ∧ F 10 = mG A F))
def gI2 (rows : List (Int32 × Int32 × Int32)) (sp : Nat → List Int32) (n : Nat) (A : Nat → Nat → Int32) (F : Nat → Int32) (nw nx : Nat) : Prop := gRp A rows sp ∧ F 0 = nI rows.length ∧ gRm A rows sp ∧ F 21 = nI rows.length ∧ gNx nw nx ∧ (∀ c, c < 81 → A 15 c = nI (cTn c)) ∧ gS A F rows.length n
def gI (A : Nat → Nat → Int32) (F : Nat → Int32) (nw nx : Nat) : Prop := ∃ rows sp n, gI2 rows sp n A F nw nx
/-- statements, goal and cubes are as before -/
def gKe (A : Nat → Nat → Int32) (F : Nat → Int32) (A' : Nat → Nat → Int32) (F' : Nat → Int32) : Prop := (∀ j, j = 15 ∨ (18 < j ∧ j < 21) ∨ (29 < j ∧ j < 33) → A' j = A j) ∧ (∀ j, (6 < j ∧ j < 11) ∨ (21 < j ∧ j < 24) ∨ (26 < j ∧ j < 30) → F' j = F j)
/-- and the terms too -/
def gKa (A : Nat → Nat → Int32) (F : Nat → Int32) (A' : Nat → Nat → Int32) (F' : Nat → Int32) : Prop := (∀ j, (1 < j ∧ j < 7) ∨ j = 15 ∨ (18 < j ∧ j < 21) ∨ (24 < j ∧ j < 33) → A' j = A j) ∧ (∀ j, j = 0 ∨ (6 < j ∧ j < 11) ∨ (20 < j ∧ j < 24) ∨ (26 < j ∧ j < 30) → F' j = F j)
section K
variable {A A1 A' : Nat → Nat → Int32} {F F1 F' : Nat → Int32}
theorem gKe.trans (h : gKe A F A1 F1) (k : gKe A1 F1 A' F') : gKe A F A' F' := ⟨fun j a => (k.1 j a).trans (h.1 j a), fun j a => (k.2 j a).trans (h.2 j a)⟩
theorem gKa.trans (h : gKa A F A1 F1) (k : gKa A1 F1 A' F') : gKa A F A' F' := ⟨fun j a => (k.1 j a).trans (h.1 j a), fun j a => (k.2 j a).trans (h.2 j a)⟩
theorem gKa.refl (A : Nat → Nat → Int32) (F : Nat → Int32) : gKa A F A F := ⟨fun _ _ => rfl, fun _ _ => rfl⟩
theorem gKa.e (h : gKa A F A' F') : gKe A F A' F' := ⟨fun j a => h.1 j (by omega), fun j a => h.2 j (by omega)⟩
theorem gKp.a (h : gKp A F A' F') : gKa A F A' F' := ⟨fun j a => h.1 j (by omega) (by omega) (by omega) (by omega), fun j a => h.2 j (by omega) (by omega) (by omega) (by omega) (by omega) (by omega)⟩
theorem gKs.a (h : gKs A F A' F') : gKa A F A' F' := ⟨fun j a => h.1 j (by omega) (by omega), fun j a => h.2 j (by omega) (by omega) (by omega)⟩
theorem gKz.a (h : gKz A F A' F') : gKa A F A' F' := ⟨fun j a => h.1 j (by omega), fun j a => h.2 j (by omega) (by omega) (by omega) (by omega) (by omega)⟩
theorem gKt.e (h : gKt A F A' F') : gKe A F A' F' := ⟨fun j a => h.1 j (by omega), fun j a => h.2 j (by omega)⟩
theorem gKf.e (h : gKf A F A' F') : gKe A F A' F' := ⟨fun j a => h.1 j (by omega), fun j a => h.2 j (by omega) (by omega)⟩
theorem gKc.e (h : gKc A F A' F') : gKe A F A' F' := ⟨fun j a => h.1 j (by omega), fun j a => h.2 j (by omega)⟩
theorem gKb.e (h : gKb A F A' F') : gKe A F A' F' := ⟨fun j a => h.1 j (by omega), fun j a => h.2 j (by omega) (by omega) (by omega) (by omega) (by omega)⟩
end K
section X
variable {nw nx nw' nx' : Nat} {A A' : Nat → Nat → Int32} {F F' : Nat → Int32} {rows rows' : List (Int32 × Int32 × Int32)} {sp sp1 sp2 : Nat → List Int32} {n : Nat}
theorem gI2.n120 (h : gI2 rows sp n A F nw nx) : rows.length ≤ 120 := h.1.1.1
/-- the covers are the same on both sides -/
theorem gI2.cov (h : gI2 rows sp n A F nw nx) {t : Nat} (ht : t < rows.length) : A 29 t = A 6 t := (gRo.one h.1 h.2.2.1 t ht).2.2.1
theorem gI2.mok (h : gI2 rows sp n A F nw nx) : mOk A n := by
  have hn := h.n120
  obtain ⟨-, -, -, -, -, -, s1, -, -, s4, -⟩ := h
  refine ⟨s1, fun j hj => ?_⟩
  obtain ⟨a, b, ha, hb, e1, e2⟩ := s4 j hj
  exact ⟨a, b, by omega, by omega, e1, e2⟩
theorem gI.next (h : gI2 rows sp n A F nw nx) (k : gKe A F A' F') (hm : ∃ more, rows' = rows ++ more) (h1 : gRp A' rows' sp1) (h2 : F' 0 = nI rows'.length) (h3 : gRm A' rows' sp2) (h4 : F' 21 = nI rows'.length) (h5 : gNx nw' nx') : gI A' F' nw' nx' := by
  have hN := h.n120
  obtain ⟨r1, r2, r3, r4, r5, r6, s1, s2, s3, s4, s5, s6⟩ := h
  obtain ⟨more, rfl⟩ := hm
  have one := gRo.one h1 h3
  have h3' : gRm A' (rows ++ more) sp1 := gRo.sp h3 (fun t ht => (one t ht).1.symm)
  have old := gRo.one r3 (gRo.cut h3)
  have c29 : ∀ a, a < rows.length → A' 29 a = A 29 a := fun a ha => (old a ha).2.2.1
  have e15 := k.1 15 (by omega)
  have e19 := k.1 19 (by omega)
  have e20 := k.1 20 (by omega)
  have e30 := k.1 30 (by omega)
  have e31 := k.1 31 (by omega)
  have e32 := k.1 32 (by omega)
  have f7 := k.2 7 (by omega)
  have f8 := k.2 8 (by omega)
  have f9 := k.2 9 (by omega)
  have f10 := k.2 10 (by omega)
  have f22 := k.2 22 (by omega)
  have f23 := k.2 23 (by omega)
  have f27 := k.2 27 (by omega)
  have f28 := k.2 28 (by omega)
  have f29 := k.2 29 (by omega)
  have hD : ∀ j, mD A' j = mD A j := fun j => by unfold mD; rw [e30]
  refine ⟨rows ++ more, sp1, n, h1, h2, h3', h4, h5, by rw [e15]; exact r6, s1, by rw [f7]; exact s2, by rw [f22]; exact s3, fun j hj => ?_, fun j hj => ?_, ?_⟩
  · obtain ⟨a, b, ha, hb, x1, x2⟩ := s4 j hj
    exact ⟨a, b, by rw [List.length_append]; omega, by rw [List.length_append]; omega, by rw [e31]; exact x1, by rw [e32]; exact x2⟩
  · obtain ⟨a, b, ha, hb, x1, x2⟩ := s4 j hj
    have hP : mP A' j = mP A j := by
      unfold mP
      rw [e30, e31, e32, x1, x2, nI_clamp (n := a) (by omega), nI_clamp (n := b) (by omega), c29 a ha, c29 b hb]
    rw [e19, e20, hD, hP]
    exact s5 j hj
  · rw [f8, f9, f10, f23, f27, f28, f29]
    refine s6.imp id ?_
    rintro ⟨y1, y2, ⟨a, b, ha, hb, x1, x2⟩, y3, y4⟩
    refine ⟨y1, y2, ⟨a, b, by rw [List.length_append]; omega, by rw [List.length_append]; omega, x1, x2⟩, y3, ?_⟩
    rw [y4]
    unfold mG
    rw [f27, f28, f29, x1, x2, nI_clamp (n := a) (by omega), nI_clamp (n := b) (by omega), c29 a ha, c29 b hb]
theorem gKa.tabs (k : gKa A F A' F') (h : gI2 rows sp n A F nw nx) : gRp A' rows sp ∧ F' 0 = nI rows.length ∧ gRm A' rows sp ∧ F' 21 = nI rows.length := by
  obtain ⟨r1, r2, r3, r4, -⟩ := h
  unfold gRp at r1 ⊢
  unfold gRm at r3 ⊢
  rw [k.1 2 (by omega), k.1 3 (by omega), k.1 4 (by omega), k.1 5 (by omega), k.1 6 (by omega), k.1 25 (by omega), k.1 26 (by omega), k.1 27 (by omega), k.1 28 (by omega), k.1 29 (by omega), k.2 0 (by omega), k.2 21 (by omega)]
  exact ⟨r1, r2, r3, r4⟩
theorem gI.same (h : gI2 rows sp n A F nw nx) (k : gKa A F A' F') (h5 : gNx nw' nx') : gI A' F' nw' nx' := by
  obtain ⟨q1, q2, q3, q4⟩ := k.tabs h
  exact gI.next h k.e ⟨[], by simp⟩ q1 q2 q3 q4 h5
end X
theorem updL_0 (LO : Nat → Int64) (v : Int64) : vp_updL LO 0 v 0 = v := by simp [vp_updL]
/-- what a call owes: the helper's number and the reference's thrown are one, and so are the answers, where none came -/
def gCl (d hid : Nat) (ha : List Value) (mid : Nat) (ma : List Value) (A : Nat → Nat → Int32) (F : Nat → Int32) (nw nx : Nat) (LO : Nat → Int64) (DO : Nat → UInt64) : Prop := ∃ (A1 : Nat → Nat → Int32) (F1 : Nat → Int32) (nw1 nx1 : Nat) (LO1 : Nat → Int64) (k : Int32) (c s : Nat) (A2 : Nat → Nat → Int32) (F2 : Nat → Int32) (b : Int32), c ≤ 1 ∧ s ≤ 6 ∧ gm_Sp gm_MT (d + 61) hid ha (gw A F nw nx LO DO) (.inl (some (.int k))) (gw A1 F1 nw1 nx1 LO1 DO) c s ∧ gm_Sp gm_MT (d + 61) mid ma (gw A1 F1 nw1 nx1 LO1 DO) (.inl (some (.int b))) (gw A2 F2 nw1 nx1 LO1 DO) 0 0 ∧ F2 20 = k ∧ (k = 0 → LO1 0 = b.toInt64) ∧ gI A2 F2 nw1 nx1
/-- the same, of a call that answers true or false -/
def gClB (d hid : Nat) (ha : List Value) (mid : Nat) (ma : List Value) (A : Nat → Nat → Int32) (F : Nat → Int32) (nw nx : Nat) (LO : Nat → Int64) (DO : Nat → UInt64) : Prop := ∃ (A1 : Nat → Nat → Int32) (F1 : Nat → Int32) (nw1 nx1 : Nat) (LO1 : Nat → Int64) (k : Int32) (c s : Nat) (A2 : Nat → Nat → Int32) (F2 : Nat → Int32) (b : Int32), c ≤ 1 ∧ s ≤ 6 ∧ gm_Sp gm_MT (d + 61) hid ha (gw A F nw nx LO DO) (.inl (some (.int k))) (gw A1 F1 nw1 nx1 LO1 DO) c s ∧ gm_Sp gm_MT (d + 61) mid ma (gw A1 F1 nw1 nx1 LO1 DO) (.inl (some (.int b))) (gw A2 F2 nw1 nx1 LO1 DO) 0 0 ∧ F2 20 = k ∧ (k = 0 → LO1 0 = b.toInt64 ∧ (b = 0 ∨ b = 1)) ∧ gI A2 F2 nw1 nx1
section C
variable {d hid mid : Nat} {ha ma : List Value} {nw nx nw1 nx1 : Nat} {LO : Nat → Int64} {DO : Nat → UInt64} {A A1 A2 : Nat → Nat → Int32} {F F1 F2 : Nat → Int32} {b k : Int32}
theorem gCl.ok (h6 : gm_Sp gm_MT (d + 61) hid ha (gw A F nw nx LO DO) (.inl (some (.int 0))) (gw A1 F1 nw1 nx1 (vp_updL LO 0 b.toInt64) DO) 0 0) (h7 : gm_Sp gm_MT (d + 61) mid ma (gw A1 F1 nw1 nx1 (vp_updL LO 0 b.toInt64) DO) (.inl (some (.int b))) (gw A2 F2 nw1 nx1 (vp_updL LO 0 b.toInt64) DO) 0 0) (ht : F2 20 = 0) (hI : gI A2 F2 nw1 nx1) : gCl d hid ha mid ma A F nw nx LO DO := ⟨A1, F1, nw1, nx1, _, 0, 0, 0, A2, F2, b, by omega, by omega, h6, h7, ht, fun _ => updL_0 _ _, hI⟩
theorem gCl.th (hk : ¬ k = 0) (h6 : gm_Sp gm_MT (d + 61) hid ha (gw A F nw nx LO DO) (.inl (some (.int k))) (gw A1 F1 nw1 nx1 LO DO) 1 6) (h7 : gm_Sp gm_MT (d + 61) mid ma (gw A1 F1 nw1 nx1 LO DO) (.inl (some (.int b))) (gw A2 F2 nw1 nx1 LO DO) 0 0) (ht : F2 20 = k) (hI : gI A2 F2 nw1 nx1) : gCl d hid ha mid ma A F nw nx LO DO := ⟨A1, F1, nw1, nx1, _, k, 1, 6, A2, F2, b, by omega, by omega, h6, h7, ht, fun z => absurd z hk, hI⟩
theorem gClB.ok {q : Bool} (h6 : gm_Sp gm_MT (d + 61) hid ha (gw A F nw nx LO DO) (.inl (some (.int 0))) (gw A1 F1 nw1 nx1 (vp_updL LO 0 (gB q).toInt64) DO) 0 0) (h7 : gm_Sp gm_MT (d + 61) mid ma (gw A1 F1 nw1 nx1 (vp_updL LO 0 (gB q).toInt64) DO) (.inl (some (.int (gB q)))) (gw A2 F2 nw1 nx1 (vp_updL LO 0 (gB q).toInt64) DO) 0 0) (ht : F2 20 = 0) (hI : gI A2 F2 nw1 nx1) : gClB d hid ha mid ma A F nw nx LO DO := ⟨A1, F1, nw1, nx1, _, 0, 0, 0, A2, F2, gB q, by omega, by omega, h6, h7, ht, fun _ => ⟨updL_0 _ _, gB_01 q⟩, hI⟩
theorem gClB.th (hk : ¬ k = 0) (h6 : gm_Sp gm_MT (d + 61) hid ha (gw A F nw nx LO DO) (.inl (some (.int k))) (gw A1 F1 nw1 nx1 LO DO) 1 6) (h7 : gm_Sp gm_MT (d + 61) mid ma (gw A1 F1 nw1 nx1 LO DO) (.inl (some (.int b))) (gw A2 F2 nw1 nx1 LO DO) 0 0) (ht : F2 20 = k) (hI : gI A2 F2 nw1 nx1) : gClB d hid ha mid ma A F nw nx LO DO := ⟨A1, F1, nw1, nx1, _, k, 1, 6, A2, F2, b, by omega, by omega, h6, h7, ht, fun z => absurd z hk, hI⟩
theorem gClB.cl (h : gClB d hid ha mid ma A F nw nx LO DO) : gCl d hid ha mid ma A F nw nx LO DO := by
  obtain ⟨A1, F1, nw1, nx1, LO1, k, c, s, A2, F2, b, h1, h2, h3, h4, h5, h6, h7⟩ := h
  exact ⟨A1, F1, nw1, nx1, LO1, k, c, s, A2, F2, b, h1, h2, h3, h4, h5, fun z => (h6 z).1, h7⟩
end C