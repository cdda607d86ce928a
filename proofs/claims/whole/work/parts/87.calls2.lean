/-! THE CALLS: statements, what follows, counterexamples, models, density -/
theorem sAl_ext {D P D' P' : Nat → Int32} : ∀ {m i : Nat} {acc : Int32}, (∀ t, t < i + m → D t = D' t ∧ P t = P' t) → sAl D P m i acc = sAl D' P' m i acc
  | 0, _, _, _ => rfl
  | m + 1, i, acc, h => by
    show sAl D P m (i + 1) (if D i = 0 then acc &&& (P i ^^^ (-1)) else acc) = sAl D' P' m (i + 1) (if D' i = 0 then acc &&& (P' i ^^^ (-1)) else acc)
    rw [(h i (by omega)).1, (h i (by omega)).2, sAl_ext (m := m) (i := i + 1) (fun t ht => h t (by omega))]
theorem sMod_ext {D P D' P' : Nat → Int32} {n : Nat} (h : ∀ t, t < n → D t = D' t ∧ P t = P' t) (x : Int32) : sMod D P n x = sMod D' P' n x := by
  unfold sMod
  exact sFst_ext (fun t ht => by rw [(h t (by omega)).1, (h t (by omega)).2])
theorem sPr_ext {D P D' P' : Nat → Int32} {n : Nat} (h : ∀ t, t < n → D t = D' t ∧ P t = P' t) (a b : Int32) : sPr D P n a b = sPr D' P' n a b := by
  unfold sPr
  rw [sAl_ext (fun t ht => h t (by omega)), sMod_ext h, sMod_ext h]
theorem sUn_extP {P P' : Nat → Int32} {s : Int32} : ∀ {m i : Nat} {acc : Int32}, (∀ t, t < i + m → P t = P' t) → sUn P s m i acc = sUn P' s m i acc
  | 0, _, _, _ => rfl
  | m + 1, i, acc, h => by
    show sUn P s m (i + 1) (if sIn (nI i) s = true then acc ||| P i else acc) = sUn P' s m (i + 1) (if sIn (nI i) s = true then acc ||| P' i else acc)
    rw [h i (by omega), sUn_extP (m := m) (i := i + 1) (fun t ht => h t (by omega))]
theorem pSm_ext {D P D' P' : Nat → Int32} {n : Nat} (h : ∀ t, t < n → D t = D' t ∧ P t = P' t) (e : Nat) (x : Int32) : pSm D P n e x = pSm D' P' n e x := by
  unfold pSm
  refine lSum_ext (fun t _ => ⟨?_, ?_⟩)
  · unfold cmQ
    exact sEv_ext (fun i hi => by rw [(h i (by omega)).1])
  · rw [cmV_sgn, cmV_sgn, sUn_extP (P := P) (P' := P') (fun i hi => (h i (by omega)).2)]
theorem in_16b {x : Int32} (h : gIn x 0 15 = false) : ¬ (0 ≤ x ∧ x < 16) := by
  rcases in_16 x with ⟨r, hr, rfl⟩ | ⟨_, h2⟩
  · rw [show gIn (nI r) 0 15 = true from (gIn_iff (x := nI r) (n := 15) (by decide)).mpr ⟨r, hr, rfl⟩] at h
    cases h
  · exact h2
theorem pkL_lt {M : Nat → Int32} : ∀ {m : Nat} {S : Int32} {r : Nat}, r ∈ pkL M m S → r < 16
  | 0, _, _, h => by cases h
  | m + 1, S, r, h => by
    unfold pkL at h
    split at h
    · rcases List.mem_cons.mp h with rfl | h
      · omega
      · exact pkL_lt h
    · exact pkL_lt h
theorem rNth_mem {x : Int32} : ∀ {l : List Nat} {b : Int32} {r : Nat}, rNth l x b = some r → r ∈ l
  | [], _, _, h => by cases h
  | q :: l, b, r, h => by
    unfold rNth at h
    split at h
    · cases h; exact List.mem_cons_self ..
    · exact List.mem_cons_of_mem _ (rNth_mem h)
section X
variable {nw nx : Nat} {LO : Nat → Int64} {DO : Nat → UInt64} {d n : Nat} {A : Nat → Nat → Int32} {F : Nat → Int32} {rows : List (Int32 × Int32 × Int32)} {sp : Nat → List Int32}
theorem gI2.dp (h : gI2 rows sp n A F nw nx) : ∀ t, t < n → A 19 t = mD A t ∧ A 20 t = mP A t := h.2.2.2.2.2.2.2.2.2.2.1
theorem gI2.al (h : gI2 rows sp n A F nw nx) : sAl (A 19) (A 20) n 0 65535 = mAl A n := sAl_ext (fun t ht => h.dp t (by omega))
theorem gI2.gok (h : gI2 rows sp n A F nw nx) (h8 : F 8 = 1) : F 23 = 1 ∧ gOk F ∧ F 9 = gB (sDem (F 27)) ∧ F 10 = mG A F := by
  have hN := h.n120
  rcases h.2.2.2.2.2.2.2.2.2.2.2 with ⟨e, -⟩ | ⟨-, e2, ⟨a, b, ha, hb, x1, x2⟩, e4, e5⟩
  · rw [e] at h8; exact absurd h8 (by decide)
  · exact ⟨e2, ⟨a, b, by omega, by omega, x1, x2⟩, e4, e5⟩
theorem gI2.g01 (h : gI2 rows sp n A F nw nx) : (F 8 = 0 ∧ F 23 = 0) ∨ F 8 = 1 := by
  rcases h.2.2.2.2.2.2.2.2.2.2.2 with e | e
  · exact Or.inl e
  · exact Or.inr e.1
theorem c_deniedBy (hI : gI A F nw nx) (x : Int32) : gCl d 10024 [.ref 0, .int x, .ref 37] 8060 [.ref 24, .int x] A F nw nx LO DO := by
  obtain ⟨rows, sp, n, h⟩ := hI
  have s1 := h.2.2.2.2.2.2.1
  have s2 := h.2.2.2.2.2.2.2.1
  have s3 := h.2.2.2.2.2.2.2.2.1
  rcases in_16 x with ⟨r, hr, rfl⟩ | ⟨hx1, hx2⟩
  · have hin : gIn (nI r) 0 15 = true := (gIn_iff (x := nI r) (n := 15) (by decide)).mpr ⟨r, hr, rfl⟩
    have e : sFst (fun i => decide (A 19 i = 0 ∧ sIn (nI r) (A 20 i) = true)) n 0 = sFst (fun i => decide (mD A i = 0 ∧ sIn (nI r) (mP A i) = true)) n 0 := sFst_ext (fun t ht => by rw [(h.dp t (by omega)).1, (h.dp t (by omega)).2])
    have p := f_deniedBy1 (A := A) (F := F) (nw := nw) (nx := nx) (LO := LO) (DO := DO) (d := d + 57) s2 s1 hr
    rw [e] at p
    cases ho : sFst (fun i => decide (mD A i = 0 ∧ sIn (nI r) (mP A i) = true)) n 0 with
    | some j => exact gCl.ok (h_deniedBy (p.1 j ho)) ((s_denied7b (d := d + 58) h.mok s3 hin).1 j ho) g_upe (gI.same h (gKz.th A F 0).a h.2.2.2.2.1)
    | none => exact gCl.th (by decide) (h_deniedBy_NSE (p.2 ho)) ((s_denied7b (d := d + 58) h.mok s3 hin).2 ho) g_upe (gI.same h ((gKz.th A F 0).trans (gKz.th A _ 2)).a h.2.2.2.2.1)
  · exact c_bad h (by decide) (h_deniedBy_IAE (f_deniedBy2 (d := d + 57) hx2)) ⟨_, _, gKz.th A F 1, g_upe, s_denied7a (d := d + 58) hx1⟩
theorem c_follows (hI : gI A F nw nx) : gClB d 10025 [.ref 0, .ref 37] 8064 [.ref 24] A F nw nx LO DO := by
  obtain ⟨rows, sp, n, h⟩ := hI
  have s1 := h.2.2.2.2.2.2.1
  have s2 := h.2.2.2.2.2.2.2.1
  have s3 := h.2.2.2.2.2.2.2.2.1
  rcases h.g01 with ⟨h8, h23⟩ | h8
  · exact c_badB h (by decide) (h_follows_ISE (f_follows_n (d := d + 56) h8)) ⟨_, _, gKz.th A F 1, g_upe, s_follows7n (d := d + 59) h23⟩
  · obtain ⟨e1, e2, e3, e4⟩ := h.gok h8
    have p := f_follows1 (A := A) (F := F) (nw := nw) (nx := nx) (LO := LO) (DO := DO) (d := d + 55) h8 s2 s1
    rw [e3, e4, sPr_ext h.dp, ← mFo_sPr] at p
    obtain ⟨A2, F2, k2, t2, q⟩ := s_follows7 (A := A) (F := F) (nw := nw) (nx := nx) (LO := vp_updL LO 0 (gB (mFo A F n)).toInt64) (DO := DO) (d := d + 55) h.mok s3 e2 e1
    exact gClB.ok (h_follows p) q t2 (gI.same h k2.a h.2.2.2.2.1)
theorem c_why (hI : gI A F nw nx) : gCl d 10026 [.ref 0, .ref 37] 8065 [.ref 24] A F nw nx LO DO := by
  obtain ⟨rows, sp, n, h⟩ := hI
  have s1 := h.2.2.2.2.2.2.1
  have s2 := h.2.2.2.2.2.2.2.1
  have s3 := h.2.2.2.2.2.2.2.2.1
  rcases h.g01 with ⟨h8, h23⟩ | h8
  · exact c_bad h (by decide) (h_why_ISE (f_why_n (d := d + 56) h8)) ⟨_, _, gKz.th A F 1, g_upe, s_why7n (d := d + 59) h23⟩
  · obtain ⟨e1, e2, e3, e4⟩ := h.gok h8
    have p := f_why1 (A := A) (F := F) (nw := nw) (nx := nx) (LO := LO) (DO := DO) (d := d + 55) h8 s2 s1 (by rw [e3]; exact gB_01 _)
    have ew : fWh A F n = whC A F n := by
      unfold fWh whC
      rw [h.al, sMod_ext h.dp, e3]
      cases sDem (F 27) <;> rfl
    rw [e3, e4, sPr_ext h.dp, ← mFo_sPr, ew] at p
    cases ho : mFo A F n with
    | true =>
      obtain ⟨A2, F2, k2, t2, q⟩ := s_why7 (A := A) (F := F) (nw := nw) (nx := nx) (LO := vp_updL LO 0 (whC A F n).toInt64) (DO := DO) (d := d + 55) h.mok s3 e2 e1
      rw [ho] at t2 q
      rw [if_pos rfl] at t2 q
      exact gCl.ok (h_why (p.1 ho)) q t2 (gI.same h k2.a h.2.2.2.2.1)
    | false =>
      obtain ⟨A2, F2, k2, t2, q⟩ := s_why7 (A := A) (F := F) (nw := nw) (nx := nx) (LO := LO) (DO := DO) (d := d + 55) h.mok s3 e2 e1
      rw [ho] at t2 q
      rw [if_neg (by decide)] at t2 q
      exact gCl.th (by decide) (h_why_NSE (p.2 ho)) q t2 (gI.same h k2.a h.2.2.2.2.1)
theorem c_witness (hI : gI A F nw nx) : gCl d 10027 [.ref 0, .ref 37] 8066 [.ref 24] A F nw nx LO DO := by
  obtain ⟨rows, sp, n, h⟩ := hI
  have s1 := h.2.2.2.2.2.2.1
  have s2 := h.2.2.2.2.2.2.2.1
  have s3 := h.2.2.2.2.2.2.2.2.1
  rcases h.g01 with ⟨h8, h23⟩ | h8
  · exact c_bad h (by decide) (h_witness_ISE (f_witness_n (d := d + 56) h8)) ⟨_, _, gKz.th A F 1, g_upe, s_witness7n (d := d + 59) h23⟩
  · obtain ⟨e1, e2, e3, e4⟩ := h.gok h8
    cases hd : sDem (F 27) with
    | false =>
      have h9 : F 9 = 0 := by rw [e3, hd]; rfl
      exact c_bad h (by decide) (h_witness_UOE (f_witness1 (d := d + 56) h8 h9)) ⟨_, _, (gKz.th A F 0).trans (gKz.th A _ 2), g_upe, s_witness7d (d := d + 59) e1 hd⟩
    | true =>
      have h9 : F 9 = 1 := by rw [e3, hd]; rfl
      have p := f_witness2 (A := A) (F := F) (nw := nw) (nx := nx) (LO := LO) (DO := DO) (d := d + 56) h8 h9 s2 s1
      rw [h.al, e4, sMod_ext h.dp] at p
      cases ho : sMod (mD A) (mP A) n (mAl A n &&& (mG A F ^^^ (-1))) with
      | some j => exact gCl.ok (h_witness (p.1 j ho)) ((s_witness7 (d := d + 57) h.mok s3 e2 e1 hd).1 j ho) g_upe (gI.same h (gKz.th A F 0).a h.2.2.2.2.1)
      | none => exact gCl.th (by decide) (h_witness_NSE (p.2 ho)) ((s_witness7 (d := d + 57) h.mok s3 e2 e1 hd).2 ho) g_upe (gI.same h ((gKz.th A F 0).trans (gKz.th A _ 3)).a h.2.2.2.2.1)
/-- the prover's rows of the search are the reference's -/
theorem gI2.spq (h : gI2 rows sp n A F nw nx) (h8 : F 8 = 1) {f : Nat → Int32} {W : Int32} (hq : spQ (spPl A F n) (spWd A F n) f W) : spQ (rPl A F n) (rWd A F n) f W := by
  obtain ⟨e1, e2, e3, e4⟩ := h.gok h8
  have s1 := h.2.2.2.2.2.2.1
  have efr : spFree A F n = mInn A F n := by
    unfold spFree mInn
    rw [h.al, e3, e4]
    cases sDem (F 27) <;> rfl
  have ew : ∀ j, spWd A F n j = rWd A F n j := fun j => by
    unfold spWd rWd
    congr 1
    · by_cases hj : j < n
      · rw [(h.dp j hj).1]
      · rw [decide_eq_false hj, Bool.false_and, Bool.false_and]
    · rw [e3]
      cases sDem (F 27) <;> rfl
  refine ⟨fun r hr j hj => ?_, fun j hj => by rw [hq.2 j hj, ew]⟩
  rw [hq.1 r hr j hj, ew]
  cases hw : rWd A F n j with
  | false => rfl
  | true =>
    congr 1
    unfold spPl rPl rRw
    rw [efr, e4]
    by_cases h6 : j = 6
    · rw [if_pos h6, if_pos h6]
    · rw [if_neg h6, if_neg h6]
      have hjn : j < n := by
        unfold rWd at hw
        simp only [Bool.or_eq_true, Bool.and_eq_true, decide_eq_true_iff] at hw
        rcases hw with z | z
        · exact z.1
        · exact absurd z.1 h6
      rw [(h.dp j hjn).2]
theorem ka_search (f f3 : Nat → Int32) (W : Int32) : gKa A F (va_up (va_up A 22 f) 23 f3) (va_up F 11 W) := ⟨fun j hj => by rw [g_upn (by omega), g_upn (by omega)], fun j hj => g_upn (by omega)⟩
theorem ka_search2 (f : Nat → Int32) (W : Int32) : gKa A F (va_up A 22 f) (va_up F 11 W) := ⟨fun j hj => g_upn (by omega), fun j hj => g_upn (by omega)⟩
/-- the reference's data are kept by what the prover's search writes -/
theorem gKa.ref {A1 : Nat → Nat → Int32} {F1 : Nat → Int32} (k : gKa A F A1 F1) : mD A1 = mD A ∧ mP A1 = mP A ∧ mG A1 F1 = mG A F ∧ F1 27 = F 27 ∧ F1 28 = F 28 ∧ F1 29 = F 29 ∧ F1 22 = F 22 ∧ F1 23 = F 23 ∧ A1 31 = A 31 ∧ A1 32 = A 32 := by
  have e29 := k.1 29 (by omega)
  have e30 := k.1 30 (by omega)
  have e31 := k.1 31 (by omega)
  have e32 := k.1 32 (by omega)
  have f22 := k.2 22 (by omega)
  have f23 := k.2 23 (by omega)
  have f27 := k.2 27 (by omega)
  have f28 := k.2 28 (by omega)
  have f29 := k.2 29 (by omega)
  refine ⟨?_, ?_, ?_, f27, f28, f29, f22, f23, e31, e32⟩
  · funext j; unfold mD; rw [e30]
  · funext j; unfold mP; rw [e29, e30, e31, e32]
  · unfold mG; rw [e29, f27, f28, f29]
theorem gKa.ready {A1 : Nat → Nat → Int32} {F1 : Nat → Int32} (k : gKa A F A1 F1) (hm : mOk A n) (hF : F 22 = nI n) (hg : gOk F) (h1 : F 23 = 1) {f : Nat → Int32} {W : Int32} (hq : spQ (rPl A F n) (rWd A F n) f W) : mOk A1 n ∧ F1 22 = nI n ∧ gOk F1 ∧ F1 23 = 1 ∧ spQ (rPl A1 F1 n) (rWd A1 F1 n) f W ∧ mFo A1 F1 n = mFo A F n := by
  obtain ⟨ed, ep, eg, e27, e28, e29, e22, e23, e31, e32⟩ := k.ref
  have ein : mInn A1 F1 n = mInn A F n := by unfold mInn mAl; rw [ed, ep, eg, e27]
  refine ⟨⟨hm.1, fun j hj => by rw [e31, e32]; exact hm.2 j hj⟩, by rw [e22]; exact hF, by unfold gOk; rw [e28, e29]; exact hg, by rw [e23]; exact h1, ?_, ?_⟩
  · have e1 : rPl A1 F1 n = rPl A F n := by funext j; unfold rPl rRw; rw [ein, eg, ep]
    have e2 : rWd A1 F1 n = rWd A F n := by funext j; unfold rWd; rw [ed, e27]
    rw [e1, e2]; exact hq
  · unfold mFo mDl; rw [ein, ed, ep, eg, e27]
theorem c_elements (hI : gI A F nw nx) : gCl d 10028 [.ref 0, .ref 37] 8070 [.ref 24] A F nw nx LO DO := by
  obtain ⟨rows, sp, n, h⟩ := hI
  have s1 := h.2.2.2.2.2.2.1
  have s2 := h.2.2.2.2.2.2.2.1
  have s3 := h.2.2.2.2.2.2.2.2.1
  rcases h.g01 with ⟨h8, h23⟩ | h8
  · exact c_bad h (by decide) (h_elements_ISE (f_elements_n (d := d + 56) h8)) ⟨_, _, gKz.th A F 1, g_upe, m_elements_n (d := d + 58) h23⟩
  · obtain ⟨e1, e2, e3, e4⟩ := h.gok h8
    obtain ⟨f, W, q1, q2⟩ := f_search (A := A) (F := F) (nw := nw) (nx := nx) (LO := LO) (DO := DO) (d := d + 56) h8 (by rw [e3]; exact gB_01 _) s2 s1
    have hq := h.spq h8 q1
    obtain ⟨w0, hw, hW⟩ := r_W s1 hq
    obtain ⟨f3, p1, p2, -⟩ := q2 w0 hw hW
    have k1 := ka_search (A := A) (F := F) f f3 W
    obtain ⟨o1, o2, o3, o4, o5, o6⟩ := k1.ready h.mok s3 e2 e1 hq
    cases ho : mFo A F n with
    | true =>
      have hmany := r_many s1 hq ho
      obtain ⟨A2, F2, k2, t2, -⟩ := m_elements1 (nw := nw) (nx := nx) (LO := LO) (DO := DO) (d := d + 51) o1 o2 o3 o4 o5
      obtain ⟨t3, s7⟩ := t2 (by rw [o6]; exact ho)
      exact gCl.th (by decide) (h_elements_NSE (p2 hmany)) s7 t3 (gI.same h (k1.trans k2.a) h.2.2.2.2.1)
    | false =>
      have hfew := r_few s1 hq ho
      obtain ⟨A2, F2, k2, -, t2⟩ := m_elements1 (nw := nw) (nx := nx) (LO := vp_updL LO 0 (nI (fN f 16 W)).toInt64) (DO := DO) (d := d + 51) o1 o2 o3 o4 o5
      obtain ⟨t3, s7⟩ := t2 (by rw [o6]; exact ho)
      exact gCl.ok (h_elements (p1 (by omega))) s7 t3 (gI.same h (k1.trans k2.a) h.2.2.2.2.1)
theorem c_elementsByTrying (hI : gI A F nw nx) : gCl d 10029 [.ref 0, .ref 37] 8071 [.ref 24] A F nw nx LO DO := by
  obtain ⟨rows, sp, n, h⟩ := hI
  have s1 := h.2.2.2.2.2.2.1
  have s2 := h.2.2.2.2.2.2.2.1
  have s3 := h.2.2.2.2.2.2.2.2.1
  rcases h.g01 with ⟨h8, h23⟩ | h8
  · exact c_bad h (by decide) (h_elementsByTrying_ISE (f_elementsByTrying_n (d := d + 56) h8)) ⟨_, _, gKz.th A F 1, g_upe, m_elementsBy (m_elements_n (d := d + 57) h23) rfl⟩
  · obtain ⟨e1, e2, e3, e4⟩ := h.gok h8
    obtain ⟨f, W, q1, q2⟩ := f_searchTry (A := A) (F := F) (nw := nw) (nx := nx) (LO := LO) (DO := DO) (d := d + 50) h8 (by rw [e3]; exact gB_01 _) s2 s1
    have hq := h.spq h8 q1
    obtain ⟨w0, hw, hW⟩ := r_W s1 hq
    obtain ⟨p1, p2⟩ := q2 w0 hw hW
    have k1 := ka_search2 (A := A) (F := F) f W
    obtain ⟨o1, o2, o3, o4, o5, o6⟩ := k1.ready h.mok s3 e2 e1 hq
    cases ho : mFo A F n with
    | true =>
      have hmany := r_many s1 hq ho
      obtain ⟨A2, F2, k2, t2, -⟩ := m_elements1 (nw := nw) (nx := nx) (LO := LO) (DO := DO) (d := d + 50) o1 o2 o3 o4 o5
      obtain ⟨t3, s7⟩ := t2 (by rw [o6]; exact ho)
      exact gCl.th (by decide) (h_elementsByTrying_NSE (p2 hmany)) (m_elementsBy s7 rfl) t3 (gI.same h (k1.trans k2.a) h.2.2.2.2.1)
    | false =>
      have hfew := r_few s1 hq ho
      obtain ⟨A2, F2, k2, -, t2⟩ := m_elements1 (nw := nw) (nx := nx) (LO := vp_updL LO 0 (nI (fN f 16 W)).toInt64) (DO := DO) (d := d + 50) o1 o2 o3 o4 o5
      obtain ⟨t3, s7⟩ := t2 (by rw [o6]; exact ho)
      exact gCl.ok (h_elementsByTrying (p1 hfew)) (m_elementsBy s7 rfl) t3 (gI.same h (k1.trans k2.a) h.2.2.2.2.1)
theorem c_region (hI : gI A F nw nx) (x : Int32) : gCl d 10030 [.ref 0, .int x, .ref 37] 8072 [.ref 24, .int x] A F nw nx LO DO := by
  obtain ⟨rows, sp, n, h⟩ := hI
  have s1 := h.2.2.2.2.2.2.1
  have s2 := h.2.2.2.2.2.2.2.1
  have s3 := h.2.2.2.2.2.2.2.2.1
  rcases h.g01 with ⟨h8, h23⟩ | h8
  · exact c_bad h (by decide) (h_region_ISE (f_region_n (d := d + 56) h8)) ⟨_, _, gKz.th A F 1, g_upe, m_region_n (d := d + 58) h23⟩
  · obtain ⟨e1, e2, e3, e4⟩ := h.gok h8
    obtain ⟨f, W, q1, q2⟩ := f_search (A := A) (F := F) (nw := nw) (nx := nx) (LO := LO) (DO := DO) (d := d + 56) h8 (by rw [e3]; exact gB_01 _) s2 s1
    have hq := h.spq h8 q1
    obtain ⟨w0, hw, hW⟩ := r_W s1 hq
    obtain ⟨f3, -, -, p3, p4⟩ := q2 w0 hw hW
    have k1 := ka_search (A := A) (F := F) f f3 W
    obtain ⟨o1, o2, o3, o4, o5, o6⟩ := k1.ready h.mok s3 e2 e1 hq
    cases ho : mFo A F n with
    | true =>
      have hmany := r_many s1 hq ho
      obtain ⟨A2, F2, k2, t2, -⟩ := m_region1 (nw := nw) (nx := nx) (LO := LO) (DO := DO) (d := d + 51) o1 o2 o3 o4 o5 x
      obtain ⟨t3, s7⟩ := t2 (by rw [o6]; exact ho)
      exact gCl.th (by decide) (h_region_NSE (p4 x hmany)) s7 t3 (gI.same h (k1.trans k2.a) h.2.2.2.2.1)
    | false =>
      have hfew := r_few s1 hq ho
      obtain ⟨p5, p6⟩ := p3 x (by omega)
      cases hr : rNth (pkL f 16 W) x 0 with
      | some r =>
        obtain ⟨A2, F2, k2, -, t2⟩ := m_region1 (nw := nw) (nx := nx) (LO := vp_updL LO 0 (nI r).toInt64) (DO := DO) (d := d + 51) o1 o2 o3 o4 o5 x
        obtain ⟨t3, s7⟩ := (t2 (by rw [o6]; exact ho)).1 r hr
        exact gCl.ok (h_region (p5 r (pkL_lt (rNth_mem hr)) hr)) s7 t3 (gI.same h (k1.trans k2.a) h.2.2.2.2.1)
      | none =>
        obtain ⟨A2, F2, k2, -, t2⟩ := m_region1 (nw := nw) (nx := nx) (LO := LO) (DO := DO) (d := d + 51) o1 o2 o3 o4 o5 x
        obtain ⟨t3, s7⟩ := (t2 (by rw [o6]; exact ho)).2 hr
        exact gCl.th (by decide) (h_region_NSE (p6 hr)) s7 t3 (gI.same h (k1.trans k2.a) h.2.2.2.2.1)
theorem c_drop (hI : gI A F nw nx) : gCl d 10022 [.ref 0, .ref 37] 8054 [.ref 24] A F nw nx LO DO := by
  obtain ⟨rows, sp, n, h⟩ := hI
  have h' := h
  obtain ⟨r1, r2, r3, r4, r5, r6, s1, s2, s3, s4, s5, s6⟩ := h'
  cases n with
  | zero => exact c_bad h (by decide) (h_drop_ISE (f_drop2 (d := d + 58) (by rw [s2]; rfl))) ⟨_, _, gKz.th A F 1, g_upe, s_drop7a (d := d + 59) (by rw [s3]; rfl)⟩
  | succ n =>
    have s7 := s_drop7b (A := A) (F := va_up F 7 (nI n)) (nw := nw) (nx := nx) (LO := vp_updL LO 0 (nI n).toInt64) (DO := DO) (d := d + 59) (n := n) (by rw [g_upn (by decide)]; exact s3) (by omega)
    refine gCl.ok (h_drop (f_drop1 (d := d + 58) s2 (by omega))) s7 (by rw [g_upn (by decide), g_upe]) ?_
    have e : ∀ j, j ≠ 7 → j ≠ 20 → j ≠ 22 → (va_up (va_up (va_up F 7 (nI n)) 20 0) 22 (nI n)) j = F j := fun j a b c => by rw [g_upn c, g_upn b, g_upn a]
    refine ⟨rows, sp, n, r1, by rw [e 0 (by decide) (by decide) (by decide)]; exact r2, r3, by rw [e 21 (by decide) (by decide) (by decide)]; exact r4, r5, r6, by omega, by rw [g_upn (by decide), g_upn (by decide), g_upe], g_upe, fun j hj => s4 j (by omega), fun j hj => s5 j (by omega), ?_⟩
    have eg : mG A (va_up (va_up (va_up F 7 (nI n)) 20 0) 22 (nI n)) = mG A F := by
      unfold mG
      rw [e 27 (by decide) (by decide) (by decide), e 28 (by decide) (by decide) (by decide), e 29 (by decide) (by decide) (by decide)]
    rw [eg, e 8 (by decide) (by decide) (by decide), e 9 (by decide) (by decide) (by decide), e 10 (by decide) (by decide) (by decide), e 23 (by decide) (by decide) (by decide), e 27 (by decide) (by decide) (by decide), e 28 (by decide) (by decide) (by decide), e 29 (by decide) (by decide) (by decide)]
    exact s6
theorem c_assume (hI : gI A F nw nx) (k x y : Int32) : gCl d 10021 [.ref 0, .int k, .int x, .int y, .ref 37] 8053 [.ref 24, .int k, .int x, .int y] A F nw nx LO DO := by
  obtain ⟨rows, sp, n, h⟩ := hI
  have hN := h.n120
  have h' := h
  obtain ⟨r1, r2, r3, r4, r5, r6, s1, s2, s3, s4, s5, s6⟩ := h'
  cases hk : (sDen k || sDem k) with
  | false => exact c_bad h (by decide) (h_assume_IAE (f_assume_a (d := d + 56) hk)) ⟨_, _, gKz.th A F 1, g_upe, s_assume7a (d := d + 58) hk⟩
  | true =>
    rcases gT_two hN x y with ⟨a, b, ha, hb, rfl, rfl⟩ | hxy
    · have hab : ((gT rows.length (nI a)).isSome && (gT rows.length (nI b)).isSome) = true := by rw [gT_nI ha hN, gT_nI hb hN]; rfl
      by_cases h6 : n = 6
      · subst h6
        exact c_bad h (by decide) (h_assume_ISE (f_assume2 (d := d + 56) hk hN r2 ha hb s2)) ⟨_, _, gKz.th A F 3, g_upe, s_assume7c (d := d + 58) hN r4 hk hab s3⟩
      · have hn6 : n < 6 := by omega
        have s7 := s_assume7d (A := va_up (va_up A 19 (upd (A 19) n (gB (sDem k)))) 20 (upd (A 20) n (sReg k (A 6 a) (A 6 b)))) (F := va_up F 7 (nI (n + 1))) (nw := nw) (nx := nx) (LO := vp_updL LO 0 (nI n).toInt64) (DO := DO) (d := d + 58) hN (by rw [g_upn (by decide)]; exact r4) hk hab (by rw [g_upn (by decide)]; exact s3) hn6
        refine gCl.ok (h_assume (f_assume1 (d := d + 56) hk hN r2 ha hb s2 hn6)) s7 (by rw [g_upn (by decide), g_upe]) ?_
        generalize hA2 : va_up (va_up (va_up (va_up (va_up A 19 (upd (A 19) n (gB (sDem k)))) 20 (upd (A 20) n (sReg k (A 6 a) (A 6 b)))) 30 (upd ((va_up (va_up A 19 (upd (A 19) n (gB (sDem k)))) 20 (upd (A 20) n (sReg k (A 6 a) (A 6 b)))) 30) n k)) 31 (upd ((va_up (va_up A 19 (upd (A 19) n (gB (sDem k)))) 20 (upd (A 20) n (sReg k (A 6 a) (A 6 b)))) 31) n (nI a))) 32 (upd ((va_up (va_up A 19 (upd (A 19) n (gB (sDem k)))) 20 (upd (A 20) n (sReg k (A 6 a) (A 6 b)))) 32) n (nI b)) = A2
        have q19 : A2 19 = upd (A 19) n (gB (sDem k)) := by rw [← hA2]; rfl
        have q20 : A2 20 = upd (A 20) n (sReg k (A 6 a) (A 6 b)) := by rw [← hA2]; rfl
        have q30 : A2 30 = upd (A 30) n k := by rw [← hA2]; rfl
        have q31 : A2 31 = upd (A 31) n (nI a) := by rw [← hA2]; rfl
        have q32 : A2 32 = upd (A 32) n (nI b) := by rw [← hA2]; rfl
        have qo : ∀ j, j ≠ 19 → j ≠ 20 → j ≠ 30 → j ≠ 31 → j ≠ 32 → A2 j = A j := fun j a1 a2 a3 a4 a5 => by rw [← hA2, g_upn a5, g_upn a4, g_upn a3, g_upn a2, g_upn a1]
        have e : ∀ j, j ≠ 7 → j ≠ 20 → j ≠ 22 → (va_up (va_up (va_up F 7 (nI (n + 1))) 20 0) 22 (nI (n + 1))) j = F j := fun j a b c => by rw [g_upn c, g_upn b, g_upn a]
        have q29 : A2 29 = A 29 := qo 29 (by decide) (by decide) (by decide) (by decide) (by decide)
        have eg : mG A2 (va_up (va_up (va_up F 7 (nI (n + 1))) 20 0) 22 (nI (n + 1))) = mG A F := by
          unfold mG
          rw [q29, e 27 (by decide) (by decide) (by decide), e 28 (by decide) (by decide) (by decide), e 29 (by decide) (by decide) (by decide)]
        refine ⟨rows, sp, n + 1, ?_, by rw [e 0 (by decide) (by decide) (by decide)]; exact r2, ?_, by rw [e 21 (by decide) (by decide) (by decide)]; exact r4, r5, by rw [qo 15 (by decide) (by decide) (by decide) (by decide) (by decide)]; exact r6, by omega, by rw [g_upn (by decide), g_upn (by decide), g_upe], g_upe, fun j hj => ?_, fun j hj => ?_, ?_⟩
        · unfold gRp at r1 ⊢
          rw [qo 2 (by decide) (by decide) (by decide) (by decide) (by decide), qo 3 (by decide) (by decide) (by decide) (by decide) (by decide), qo 4 (by decide) (by decide) (by decide) (by decide) (by decide), qo 5 (by decide) (by decide) (by decide) (by decide) (by decide), qo 6 (by decide) (by decide) (by decide) (by decide) (by decide)]
          exact r1
        · unfold gRm at r3 ⊢
          rw [qo 25 (by decide) (by decide) (by decide) (by decide) (by decide), qo 26 (by decide) (by decide) (by decide) (by decide) (by decide), qo 27 (by decide) (by decide) (by decide) (by decide) (by decide), qo 28 (by decide) (by decide) (by decide) (by decide) (by decide), q29]
          exact r3
        · rw [q31, q32]
          by_cases ej : j = n
          · rw [ej, upd_at, upd_at]
            exact ⟨a, b, ha, hb, rfl, rfl⟩
          · rw [upd_lt (by omega), upd_lt (by omega)]
            exact s4 j (by omega)
        · unfold mD mP
          rw [q19, q20, q29, q30, q31, q32]
          by_cases ej : j = n
          · rw [ej, upd_at, upd_at, upd_at, upd_at, upd_at, nI_clamp (n := a) (by omega), nI_clamp (n := b) (by omega), h.cov ha, h.cov hb]
            exact ⟨rfl, rfl⟩
          · rw [upd_lt (by omega), upd_lt (by omega), upd_lt (by omega), upd_lt (by omega), upd_lt (by omega)]
            exact s5 j (by omega)
        · rw [eg, e 8 (by decide) (by decide) (by decide), e 9 (by decide) (by decide) (by decide), e 10 (by decide) (by decide) (by decide), e 23 (by decide) (by decide) (by decide), e 27 (by decide) (by decide) (by decide), e 28 (by decide) (by decide) (by decide), e 29 (by decide) (by decide) (by decide)]
          exact s6
    · have hab : ((gT rows.length x).isSome && (gT rows.length y).isSome) = false := by
        rcases hxy with e | e
        · rw [e]; rfl
        · rw [e, Option.isSome_none, Bool.and_false]
      exact c_bad h (by decide) (h_assume_IOB (f_assume_b (d := d + 56) hk hN r2 hxy)) ⟨_, _, gKz.th A F 2, g_upe, s_assume7b (d := d + 58) hN r4 hk hab⟩
theorem c_setGoal (hI : gI A F nw nx) (k x y : Int32) : gClB d 10023 [.ref 0, .int k, .int x, .int y, .ref 37] 8056 [.ref 24, .int k, .int x, .int y] A F nw nx LO DO := by
  obtain ⟨rows, sp, n, h⟩ := hI
  have hN := h.n120
  have h' := h
  obtain ⟨r1, r2, r3, r4, r5, r6, s1, s2, s3, s4, s5, s6⟩ := h'
  cases hk : (sDen k || sDem k) with
  | false => exact c_badB h (by decide) (h_setGoal_IAE (f_setGoal_a (d := d + 56) hk)) ⟨_, _, gKz.th A F 1, g_upe, s_setGoal7a (d := d + 58) hk⟩
  | true =>
    rcases gT_two hN x y with ⟨a, b, ha, hb, rfl, rfl⟩ | hxy
    · have hab : ((gT rows.length (nI a)).isSome && (gT rows.length (nI b)).isSome) = true := by rw [gT_nI ha hN, gT_nI hb hN]; rfl
      obtain ⟨q, e8, e23⟩ : ∃ q : Bool, F 8 = gB q ∧ F 23 = gB q := by
        rcases s6 with ⟨y1, y2⟩ | ⟨y1, y2, -⟩
        · exact ⟨false, y1, y2⟩
        · exact ⟨true, y1, y2⟩
      have p := f_setGoal1 (A := A) (F := F) (nw := nw) (nx := nx) (LO := LO) (DO := DO) (d := d + 56) hk hN r2 ha hb (by rw [e8]; exact gB_01 q)
      rw [e8] at p
      have s7 := s_setGoal7c (A := A) (F := va_up (va_up (va_up F 8 1) 9 (gB (sDem k))) 10 (sReg k (A 6 a) (A 6 b))) (nw := nw) (nx := nx) (LO := vp_updL LO 0 (gB q).toInt64) (DO := DO) (d := d + 58) (x := nI a) (y := nI b) hN (by rw [g_upn (by decide), g_upn (by decide), g_upn (by decide)]; exact r4) hk hab (by rw [g_upn (by decide), g_upn (by decide), g_upn (by decide), e23]; exact gB_01 q)
      rw [show (va_up (va_up (va_up F 8 1) 9 (gB (sDem k))) 10 (sReg k (A 6 a) (A 6 b))) 23 = gB q from by rw [g_upn (by decide), g_upn (by decide), g_upn (by decide), e23]] at s7
      refine gClB.ok (h_setGoal p) s7 (by rw [g_upn (by decide), g_upn (by decide), g_upn (by decide), g_upn (by decide), g_upe]) ?_
      generalize hF2 : va_up (va_up (va_up (va_up (va_up (va_up (va_up (va_up F 8 1) 9 (gB (sDem k))) 10 (sReg k (A 6 a) (A 6 b))) 20 0) 23 1) 27 k) 28 (nI a)) 29 (nI b) = F2
      have z8 : F2 8 = 1 := by rw [← hF2]; rfl
      have z9 : F2 9 = gB (sDem k) := by rw [← hF2]; rfl
      have z10 : F2 10 = sReg k (A 6 a) (A 6 b) := by rw [← hF2]; rfl
      have z23 : F2 23 = 1 := by rw [← hF2]; rfl
      have z27 : F2 27 = k := by rw [← hF2]; rfl
      have z28 : F2 28 = nI a := by rw [← hF2]; rfl
      have z29 : F2 29 = nI b := by rw [← hF2]; rfl
      have z0 : F2 0 = F 0 := by rw [← hF2]; rfl
      have z7 : F2 7 = F 7 := by rw [← hF2]; rfl
      have z21 : F2 21 = F 21 := by rw [← hF2]; rfl
      have z22 : F2 22 = F 22 := by rw [← hF2]; rfl
      refine ⟨rows, sp, n, r1, by rw [z0]; exact r2, r3, by rw [z21]; exact r4, r5, r6, s1, by rw [z7]; exact s2, by rw [z22]; exact s3, s4, s5, Or.inr ⟨z8, z23, ⟨a, b, ha, hb, z28, z29⟩, by rw [z9, z27], ?_⟩⟩
      rw [z10]
      unfold mG
      rw [z27, z28, z29, nI_clamp (n := a) (by omega), nI_clamp (n := b) (by omega), h.cov ha, h.cov hb]
    · have hab : ((gT rows.length x).isSome && (gT rows.length y).isSome) = false := by
        rcases hxy with e | e
        · rw [e]; rfl
        · rw [e, Option.isSome_none, Bool.and_false]
      exact c_badB h (by decide) (h_setGoal_IOB (f_setGoal_b (d := d + 56) hk hN r2 hxy)) ⟨_, _, gKz.th A F 2, g_upe, s_setGoal7b (d := d + 58) hN r4 hk hab⟩
end X
/-- of a call whose answer is a long -/
def gClL (d hid : Nat) (ha : List Value) (mid : Nat) (ma : List Value) (A : Nat → Nat → Int32) (F : Nat → Int32) (nw nx : Nat) (LO : Nat → Int64) (DO : Nat → UInt64) : Prop := ∃ (A1 : Nat → Nat → Int32) (F1 : Nat → Int32) (nw1 nx1 : Nat) (LO1 : Nat → Int64) (k : Int32) (c s : Nat) (A2 : Nat → Nat → Int32) (F2 : Nat → Int32) (b : Int64), c ≤ 1 ∧ s ≤ 6 ∧ gm_Sp gm_MT (d + 61) hid ha (gw A F nw nx LO DO) (.inl (some (.int k))) (gw A1 F1 nw1 nx1 LO1 DO) c s ∧ gm_Sp gm_MT (d + 61) mid ma (gw A1 F1 nw1 nx1 LO1 DO) (.inl (some (.long b))) (gw A2 F2 nw1 nx1 LO1 DO) 0 0 ∧ F2 20 = k ∧ (k = 0 → LO1 0 = b) ∧ gI A2 F2 nw1 nx1
/-- of the call whose answer is a float -/
def gClF (d hid : Nat) (ha : List Value) (mid : Nat) (ma : List Value) (A : Nat → Nat → Int32) (F : Nat → Int32) (nw nx : Nat) (LO : Nat → Int64) (DO : Nat → UInt64) : Prop := ∃ (A1 : Nat → Nat → Int32) (F1 : Nat → Int32) (nw1 nx1 : Nat) (DO1 : Nat → UInt64) (k : Int32) (c s : Nat) (A2 : Nat → Nat → Int32) (F2 : Nat → Int32) (b : UInt32), c ≤ 1 ∧ s ≤ 6 ∧ gm_Sp gm_MT (d + 61) hid ha (gw A F nw nx LO DO) (.inl (some (.int k))) (gw A1 F1 nw1 nx1 LO DO1) c s ∧ gm_Sp gm_MT (d + 61) mid ma (gw A1 F1 nw1 nx1 LO DO1) (.inl (some (.float b))) (gw A2 F2 nw1 nx1 LO DO1) 0 0 ∧ F2 20 = k ∧ (k = 0 → DO1 0 = FP.f2d b ∧ vf_n64 (FP.f2d b) ∧ Op.cmpValue (FP.dcmp (FP.f2d b) (FP.f2d b)) .l = 0) ∧ gI A2 F2 nw1 nx1
section Y
variable {nw nx : Nat} {LO : Nat → Int64} {DO : Nat → UInt64} {d n : Nat} {A : Nat → Nat → Int32} {F : Nat → Int32}
theorem gKz.w (A : Nat → Nat → Int32) (F : Nat → Int32) (f : Nat → Int32) (x : Int32) : gKz A F (va_up A 36 f) (va_up F 20 x) := ⟨fun j a => g_upn (by omega), fun j a _ _ _ _ => g_upn a⟩
theorem c_models (hI : gI A F nw nx) (x : Int32) : gClL d 10031 [.ref 0, .int x, .ref 37] 8075 [.ref 24, .int x] A F nw nx LO DO := by
  obtain ⟨rows, sp, n, h⟩ := hI
  have s1 := h.2.2.2.2.2.2.1
  have s2 := h.2.2.2.2.2.2.2.1
  have s3 := h.2.2.2.2.2.2.2.2.1
  cases hx : gIn x 0 6 with
  | true =>
    obtain ⟨e, he, rfl⟩ := (gIn_iff (x := x) (n := 6) (by decide)).mp hx
    have p := f_models1 (A := A) (F := F) (nw := nw) (nx := nx) (LO := LO) (DO := DO) (d := d + 56) s2 s1 (e := e) (by omega)
    rw [h.al, pSm_ext h.dp, pSm_rS _ _ e n _ s1] at p
    obtain ⟨f, q⟩ := m_models1 (A := A) (F := F) (nw := nw) (nx := nx) (LO := vp_updL LO 0 (rS (mL (mD A) (mP A) n 0) (mAl A n) e)) (DO := DO) (d := d + 56) h.mok s3 (e := e) (by omega)
    exact ⟨A, F, nw, nx, _, 0, 0, 0, _, _, _, by omega, by omega, h_models p, q, g_upe, fun _ => updL_0 _ _, gI.same h (gKz.w A F f 0).a h.2.2.2.2.1⟩
  | false =>
    have hx2 : ¬ (0 ≤ x ∧ x ≤ 6) := of_decide_eq_false hx
    exact ⟨A, F, nw, nx, LO, 1, 1, 6, _, _, _, by omega, by omega, h_models_IAE (f_models2 (d := d + 56) hx2), m_models2 (d := d + 56) hx, g_upe, fun z => absurd z (by decide), gI.same h (gKz.th A F 1).a h.2.2.2.2.1⟩
theorem c_density (hI : gI A F nw nx) (x : Int32) : gClF d 10033 [.ref 0, .int x, .ref 38] 8077 [.ref 24, .int x] A F nw nx LO DO := by
  obtain ⟨rows, sp, n, h⟩ := hI
  have hN := h.n120
  rcases gT_cases x hN with ⟨t, ht, rfl, -⟩ | ⟨hg, -⟩
  · have s7 := m_density (A := A) (F := F) (nw := nw) (nx := nx) (LO := LO) (DO := vf_upd DO 0 (FP.f2d (dnV (A 6 t)))) (d := d + 58) h.2.2.1 h.2.2.2.1 ht
    rw [h.cov ht] at s7
    exact ⟨A, F, nw, nx, _, 0, 0, 0, _, _, _, by omega, by omega, h_density (dnV_ok (A 6 t)).2.1 (f_density (d := d + 57) h.1 h.2.1 ht), s7, g_upe, fun _ => ⟨by simp [vf_upd], (dnV_ok (A 6 t)).2⟩, gI.same h (gKz.th A F 0).a h.2.2.2.2.1⟩
  · exact ⟨A, F, nw, nx, DO, 1, 1, 6, _, _, _, by omega, by omega, h_density_IOB (f_density_b (d := d + 55) hN h.2.1 hg), m_density_b (d := d + 56) hN h.2.2.2.1 hg, g_upe, fun z => absurd z (by decide), gI.same h (gKz.th A F 1).a h.2.2.2.2.1⟩
end Y