/-! TEXTS of the reference: where a term ends, whether two are the same, putting -/
theorem trun_le : ∀ {l : List Int32} {c : Nat}, trun l c = some 0 → c ≤ l.length
  | [], c, h => by simp only [trun, Option.some.injEq] at h; omega
  | k :: l, 0, _ => Nat.zero_le _
  | k :: l, c + 1, h => by
    have h2 : trun l (c + tAr k) = some 0 := h
    have := trun_le h2
    simp only [List.length_cons]
    omega
theorem tAr_pair (k : Int32) : (tAr k = 2) ↔ (k = 85 ∨ k = 73 ∨ k = 68 ∨ k = 83) := by
  unfold tAr
  constructor
  · intro h
    split at h
    · omega
    · split at h
      · rename_i c
        rcases c with c | c | c | c
        · exact Or.inr (Or.inr (Or.inl c))
        · exact Or.inr (Or.inl c)
        · exact Or.inr (Or.inr (Or.inr c))
        · exact Or.inl c
      · omega
  · intro h
    rcases h with rfl | rfl | rfl | rfl <;> rfl
theorem tAr_one (k : Int32) : (tAr k = 1) ↔ k = 67 := by
  unfold tAr
  constructor
  · intro h
    split at h
    · assumption
    · split at h <;> omega
  · intro h
    subst h
    rfl
section X
variable {nw nx : Nat} {LO : Nat → Int64} {DO : Nat → UInt64} {d : Nat} {A : Nat → Nat → Int32} {F : Nat → Int32} {l : List Int32}
theorem s_isPair (k : Int32) : gm_Sp gm_MT (d + 1) 8005 [.int k] (gw A F nw nx LO DO) (.inl (some (.int (gB (decide (tAr k = 2)))))) (gw A F nw nx LO DO) 0 0 := by
  refine gm_mk gm_mX7_isPair rfl ⟨Or.inr rfl, rfl, rfl, trivial⟩ (fun G X hC hX => ?_)
  have hX1 : (k = 85 ∨ k = 73 ∨ k = 68 ∨ k = 83) → X (.inl (some (.int 1))) (gw A F nw nx LO DO) 0 0 := fun c => by
    rw [decide_eq_true ((tAr_pair k).mpr c)] at hX
    exact hX
  have hX0 : ¬ (k = 85 ∨ k = 73 ∨ k = 68 ∨ k = 83) → X (.inl (some (.int 0))) (gw A F nw nx LO DO) 0 0 := fun c => by
    rw [decide_eq_false (fun z => c ((tAr_pair k).mp z))] at hX
    exact hX
  refine gm_runs hC [] 200 _ _ _ _ _ _ ?_
  exact And.intro (fun (c : k = 85) => gx_z (hX1 (Or.inl c)) (Or.inr rfl) rfl rfl) (fun (c1 : ¬ k = 85) => And.intro (fun (c : k = 73) => gx_z (hX1 (Or.inr (Or.inl c))) (Or.inr rfl) rfl rfl) (fun (c2 : ¬ k = 73) => And.intro (fun (c : k = 68) => gx_z (hX1 (Or.inr (Or.inr (Or.inl c)))) (Or.inr rfl) rfl rfl) (fun (c3 : ¬ k = 68) => And.intro (fun (c4 : ¬ k = 83) => gx_z (hX0 (by rintro (z | z | z | z) <;> first | exact c1 z | exact c2 z | exact c3 z | exact c4 z)) (Or.inl rfl) rfl rfl) (fun (c : ¬ ¬ k = 83) => gx_z (hX1 (Or.inr (Or.inr (Or.inr (Decidable.of_not_not c))))) (Or.inr rfl) rfl rfl))))
theorem s_behind_loop {i0 : Int32} (hr : gR (A 33) l) (hl : l.length ≤ 160) (G : pG) (X : pX) (hC : gm_cl gm_mX7_behind gm_tyf none (gm_Sp gm_MT (d + 1)) G X) : ∀ (m p c z : Nat), p + m = l.length → trun (l.drop p) (c + z) = some 0 → X (.inl (some (.int (nI (p + tlen (l.drop p) c))))) (gw A F nw nx LO DO) 0 0 → G 4 [some (.ref 24), some (.int i0), some (.int (nI c)), some (.int (nI p))] [] (gw A F nw nx LO DO) 0 0 := by
  intro m
  induction m with
  | zero =>
    intro p c z hp ht hX
    rw [List.drop_eq_nil_of_le (by omega)] at ht hX
    have hc := trun_le ht
    have hc0 : c = 0 := by simp at hc; omega
    subst hc0
    refine gm_run1 hC [4] 200 4 ?_
    exact gx_t (show nI 0 ≤ 0 from by decide) (gx_i hX (by rw [tlen_0]; rfl) rfl)
  | succ m ih =>
    intro p c z hp ht hX
    cases c with
    | zero =>
      refine gm_run1 hC [4] 200 4 ?_
      exact gx_t (show nI 0 ≤ 0 from by decide) (gx_i hX (by rw [tlen_0]; rfl) rfl)
    | succ c =>
      have hpl : p < l.length := by omega
      have hcb := trun_le ht
      rw [List.length_drop] at hcb
      rw [List.drop_eq_getElem_cons hpl] at ht hX
      rw [show c + 1 + z = (c + z) + 1 by omega] at ht
      have ht2 : trun (l.drop (p + 1)) (c + tAr l[p] + z) = some 0 := by
        rw [show c + tAr l[p] + z = c + z + tAr l[p] by omega]
        exact ht
      have hX2 : X (.inl (some (.int (nI (p + 1 + tlen (l.drop (p + 1)) (c + tAr l[p])))))) (gw A F nw nx LO DO) 0 0 := by
        rw [show p + 1 + tlen (l.drop (p + 1)) (c + tAr l[p]) = p + (1 + tlen (l.drop (p + 1)) (c + tAr l[p])) by omega]
        exact hX
      have h9 := ih (p + 1) (c + tAr l[p]) z (by omega) ht2 hX2
      have hcl : (nI p).toNatClampNeg = p := nI_clamp (by omega)
      have hk : l[p] = A 33 (nI p).toNatClampNeg := by
        rw [hcl]
        have := hr p hpl
        rw [List.getElem?_eq_getElem hpl] at this
        exact Option.some.inj this
      have hvp := vp_in_nI (n := p) (N := 160) (by omega) (by omega)
      have hpr := s_isPair (A := A) (F := F) (nw := nw) (nx := nx) (LO := LO) (DO := DO) (d := d) (A 33 (nI p).toNatClampNeg)
      rw [hk, ← nI_1] at h9
      have hle : ¬ nI (c + 1) ≤ 0 := nI_nle (by omega) (by omega)
      clear ih
      refine gm_run1 hC [4] 200 4 ?_
      rcases tAr_012 (A 33 (nI p).toNatClampNeg) with h | h | h
      · rw [h] at h9 hpr
        have h67 : ¬ A 33 (nI p).toNatClampNeg = 67 := fun z => by rw [(tAr_one _).mpr z] at h; omega
        have e1 : nI (c + 0) = nI (c + 1) + gm_lit (-1) := by rw [nI_m1, nI_pred]; rfl
        rw [e1] at h9
        exact gx_f hle (And.intro hvp (Or.inl ⟨_, _, _, _, hpr, gx_t (show (0 : Int32) = 0 from rfl) (And.intro hvp (gx_t h67 h9))⟩))
      · rw [h] at h9 hpr
        have h67 : A 33 (nI p).toNatClampNeg = 67 := (tAr_one _).mp h
        have e1 : nI (c + 1) = nI (c + 1) + gm_lit 0 := (Int32.add_zero _).symm
        rw [e1] at h9
        exact gx_f hle (And.intro hvp (Or.inl ⟨_, _, _, _, hpr, gx_t (show (0 : Int32) = 0 from rfl) (And.intro hvp (gx_f (fun z => z h67) h9))⟩))
      · rw [h] at h9 hpr
        have e1 : nI (c + 2) = nI (c + 1) + gm_lit 1 := (nI_1 (c + 1)).symm
        rw [e1] at h9
        exact gx_f hle (And.intro hvp (Or.inl ⟨_, _, _, _, hpr, gx_f (show ¬ (1 : Int32) = 0 from by decide) h9⟩))
theorem s_behind (hr : gR (A 33) l) (hl : l.length ≤ 160) (hv : tV l) {i : Nat} (hi : i < l.length) : gm_Sp gm_MT (d + 2) 8028 [.ref 24, .int (nI i)] (gw A F nw nx LO DO) (.inl (some (.int (nI (tE l i))))) (gw A F nw nx LO DO) 0 0 := by
  refine gm_mk gm_mX7_behind rfl ⟨Or.inr rfl, rfl, rfl, trivial⟩ (fun G X hC hX => ?_)
  obtain ⟨z, hz⟩ := tV_at hv hi
  refine gm_runs hC [4] 200 _ _ _ _ _ _ ?_
  exact s_behind_loop hr hl G X hC (l.length - i) i 1 z (by omega) hz hX
theorem s_textAt (hr : gR (A 33) l) (hl : l.length ≤ 160) {i : Nat} (hi : i < l.length) : vp_in (nI i) 160 ∧ A 33 (nI i).toNatClampNeg = l.getD i 32 := ⟨vp_in_nI (by omega) (by omega), by rw [nI_clamp (by omega)]; exact (hr.at hi).symm⟩
theorem s_isSame7 (hr : gR (A 33) l) (hl : l.length ≤ 160) (hv : tV l) {i j : Nat} (hi : i < l.length) (hj : j < l.length) : gm_Sp gm_MT (d + 3) 8029 [.ref 24, .int (nI i), .int (nI j)] (gw A F nw nx LO DO) (.inl (some (.int (gB (decide (tS l i = tS l j)))))) (gw A F nw nx LO DO) 0 0 := by
  refine gm_mk gm_mX7_isSame rfl ⟨Or.inr rfl, rfl, rfl, trivial⟩ (fun G X hC hX => ?_)
  have hie := s_behind (A := A) (F := F) (nw := nw) (nx := nx) (LO := LO) (DO := DO) (d := d) hr hl hv hi
  have hje := s_behind (A := A) (F := F) (nw := nw) (nx := nx) (LO := LO) (DO := DO) (d := d) hr hl hv hj
  have hgi := tE_gt hi
  have hgj := tE_gt hj
  have hli := tE_le (l := l) (Nat.le_of_lt hi)
  have hlj := tE_le (l := l) (Nat.le_of_lt hj)
  have si := nI_subN (Nat.le_of_lt hgi)
  have sj := nI_subN (Nat.le_of_lt hgj)
  have loop : ∀ (m k : Nat), k + m = tE l i - i → tE l i - i = tE l j - j → X (.inl (some (.int (gB (decide ((l.drop (i + k)).take m = (l.drop (j + k)).take m)))))) (gw A F nw nx LO DO) 0 0 → G 24 [some (.ref 24), some (.int (nI i)), some (.int (nI j)), some (.int (nI (tE l i - i))), some (.int (nI k))] [] (gw A F nw nx LO DO) 0 0 := by
    intro m
    induction m with
    | zero =>
      intro k hk hlen hY
      have hY : X (.inl (some (.int 1))) (gw A F nw nx LO DO) 0 0 := by simpa [gB] using hY
      refine gm_run1 hC [24] 200 24 ?_
      exact gx_t (show nI (tE l i - i) ≤ nI k from nI_le (by omega) (by omega)) (gx_z hY (Or.inr rfl) rfl rfl)
    | succ m ih =>
      intro k hk hlen hY
      have ha := s_textAt hr hl (i := i + k) (by omega)
      have hb := s_textAt hr hl (i := j + k) (by omega)
      rw [← nI_add] at ha hb
      have hst := tSame_step (l := l) (a := i + k) (b := j + k) (m := m) (by omega) (by omega)
      have hX1 : A 33 (nI i + nI k).toNatClampNeg = A 33 (nI j + nI k).toNatClampNeg → G 24 [some (.ref 24), some (.int (nI i)), some (.int (nI j)), some (.int (nI (tE l i - i))), some (.int (nI k + 1))] [] (gw A F nw nx LO DO) 0 0 := fun c => by
        rw [ha.2, hb.2] at c
        rw [nI_1]
        exact ih (k + 1) (by omega) hlen (by
          have e1 : decide ((l.drop (i + k)).take (m + 1) = (l.drop (j + k)).take (m + 1)) = decide ((l.drop (i + (k + 1))).take m = (l.drop (j + (k + 1))).take m) := by
            apply decide_eq_decide.mpr
            rw [hst]
            exact ⟨fun z => z.2, fun z => ⟨c, z⟩⟩
          rw [e1] at hY
          exact hY)
      have hX2 : ¬ A 33 (nI i + nI k).toNatClampNeg = A 33 (nI j + nI k).toNatClampNeg → X (.inl (some (.int 0))) (gw A F nw nx LO DO) 0 0 := fun c => by
        rw [ha.2, hb.2] at c
        have e1 : decide ((l.drop (i + k)).take (m + 1) = (l.drop (j + k)).take (m + 1)) = false := decide_eq_false (fun z => c (hst.mp z).1)
        rw [e1] at hY
        exact hY
      clear ih
      refine gm_run1 hC [24] 200 24 ?_
      exact gx_f (show ¬ nI (tE l i - i) ≤ nI k from nI_ge (by omega) (by omega)) (And.intro ha.1 (And.intro hb.1 (And.intro (fun (c : A 33 (nI i + nI k).toNatClampNeg = A 33 (nI j + nI k).toNatClampNeg) => hX1 c) (fun (c : ¬ A 33 (nI i + nI k).toNatClampNeg = A 33 (nI j + nI k).toNatClampNeg) => gx_z (hX2 c) (Or.inl rfl) rfl rfl))))
  have hrunE : tE l i - i = tE l j - j → G 24 [some (.ref 24), some (.int (nI i)), some (.int (nI j)), some (.int (nI (tE l i - i))), some (.int (nI 0))] [] (gw A F nw nx LO DO) 0 0 := fun hlen => loop (tE l i - i) 0 (by omega) hlen (by
    rw [tS_eq l i, tS_eq l j, ← hlen] at hX
    exact hX)
  rw [← si] at hrunE
  clear loop
  have hX0 : ¬ tE l i - i = tE l j - j → X (.inl (some (.int 0))) (gw A F nw nx LO DO) 0 0 := fun hlen => by
    have e1 : decide (tS l i = tS l j) = false := decide_eq_false (fun z => hlen (tS_inj z))
    rw [e1] at hX
    exact hX
  refine gm_runs hC [24] 200 _ _ _ _ _ _ ?_
  refine Or.inl ⟨_, _, _, _, hie, Or.inl ⟨_, _, _, _, hje, And.intro (fun (c : nI (tE l j) - nI j = nI (tE l i) - nI i) => hrunE ?_) (fun (c : ¬ nI (tE l j) - nI j = nI (tE l i) - nI i) => gx_z (hX0 ?_) (Or.inl rfl) rfl rfl)⟩⟩
  · rw [si, sj] at c
    exact ((nI_eq (by omega) (by omega)).mp c).symm
  · intro z
    rw [si, sj, z] at c
    exact c rfl
theorem s_puts {n : Nat} (hF : F 30 = nI n) (hn : n < 160) (k : Int32) : gm_Sp gm_MT (d + 1) 8032 [.ref 24, .int k] (gw A F nw nx LO DO) (.inl none) (gw (va_up A 34 (upd (A 34) n k)) (va_up F 30 (nI (n + 1))) nw nx LO DO) 0 0 := by
  have e1 : nI (n + 1) = F 30 + gm_lit 1 := by rw [hF]; exact (nI_1 n).symm
  have e2 : n = (F 30).toNatClampNeg := by rw [hF]; exact (nI_clamp (by omega)).symm
  have e3 : va_up A 34 (upd (A 34) n k) = va_up A 34 (upd (A 34) (F 30).toNatClampNeg k) := by rw [← e2]
  have h3 : vp_in (F 30) 160 := by rw [hF]; exact vp_in_nI (by omega) (by omega)
  rw [e1, e3]
  clear e1 e2 e3
  refine gm_mk gm_mX7_puts rfl ⟨Or.inr rfl, rfl, rfl, trivial⟩ (fun G X hC hX => ?_)
  refine gm_runs hC [] 200 _ _ _ _ _ _ ?_
  exact And.intro h3 hX
theorem s_copies_loop {a0 : Value} {t : Nat} (ht : t ≤ l.length) (hl : l.length ≤ 160) : ∀ (k i : Nat) (A : Nat → Nat → Int32) (F : Nat → Int32) (o : List Int32), i + k = t → F 30 = nI o.length → gR (A 34) o → o.length + k ≤ 160 → gR (A 33) l →
    ∃ f, gR f (o ++ (l.drop i).take k) ∧ ∀ (G : pG) (X : pX), gm_cl gm_mX7_copies gm_tyf none (gm_Sp gm_MT d) G X → X (.inl none) (gw (va_up A 34 f) (va_up F 30 (nI (o.length + k))) nw nx LO DO) 0 0 → G 2 [some (.ref 24), some a0, some (.int (nI t)), some (.int (nI i))] [] (gw A F nw nx LO DO) 0 0 := by
  intro k
  induction k with
  | zero =>
    intro i A F o hi hF hr hlen hr2
    refine ⟨A 34, by simpa using hr, fun G X hC hX => ?_⟩
    rw [g_upS rfl, g_upS (by simpa using hF)] at hX
    refine gm_run1 hC [2] 200 2 ?_
    exact gx_t (show nI t ≤ nI i from nI_le (by omega) (by omega)) hX
  | succ k ih =>
    intro i A F o hi hF hr hlen hr2
    have hil : i < l.length := by omega
    obtain ⟨h1, h2⟩ := s_textAt (A := A) hr2 hl hil
    have h3 : vp_in (F 30) 160 := by rw [hF]; exact vp_in_nI (by omega) (by omega)
    have e2 : (F 30).toNatClampNeg = o.length := by rw [hF]; exact nI_clamp (by omega)
    have e1 : F 30 + gm_lit 1 = nI (o.length + 1) := by rw [hF]; exact nI_1 _
    obtain ⟨f, hf, hrun⟩ := ih (i + 1) (va_up A 34 (upd (A 34) (F 30).toNatClampNeg (A 33 (nI i).toNatClampNeg))) (va_up F 30 (F 30 + gm_lit 1)) (o ++ [l.getD i 32]) (by omega) (by rw [g_upe, e1]; simp) (by rw [g_upe, e2, h2]; exact hr.push _) (by simp; omega) (by rw [g_upn (by decide)]; exact hr2)
    refine ⟨f, ?_, fun G X hC hX => ?_⟩
    · rw [List.drop_eq_getElem_cons hil, List.take_succ_cons]
      have e4 : l[i] = l.getD i 32 := by rw [List.getD_eq_getElem?_getD, List.getElem?_eq_getElem hil]; rfl
      rw [e4]
      simpa using hf
    · have hX2 := hrun G X hC (by
        rw [g_up2, g_up2]
        simpa [Nat.add_assoc, Nat.add_comm 1 k] using hX)
      rw [← nI_1] at hX2
      clear ih hrun
      refine gm_run1 hC [2] 200 2 ?_
      exact gx_f (show ¬ nI t ≤ nI i from nI_ge (by omega) (by omega)) (And.intro h1 (And.intro h3 hX2))
theorem s_copies {o : List Int32} {a k : Nat} (ht : a + k ≤ l.length) (hl : l.length ≤ 160) (hF : F 30 = nI o.length) (hr : gR (A 34) o) (hlen : o.length + k ≤ 160) (hr2 : gR (A 33) l) :
    ∃ f, gR f (o ++ (l.drop a).take k) ∧ gm_Sp gm_MT (d + 1) 8033 [.ref 24, .int (nI a), .int (nI (a + k))] (gw A F nw nx LO DO) (.inl none) (gw (va_up A 34 f) (va_up F 30 (nI (o.length + k))) nw nx LO DO) 0 0 := by
  obtain ⟨f, hf, hrun⟩ := s_copies_loop (d := d) (nw := nw) (nx := nx) (LO := LO) (DO := DO) (a0 := .int (nI a)) ht hl k a A F o rfl hF hr hlen hr2
  refine ⟨f, hf, gm_mk gm_mX7_copies rfl ⟨Or.inr rfl, rfl, rfl, trivial⟩ (fun G X hC hX => ?_)⟩
  refine gm_runs hC [2] 200 _ _ _ _ _ _ ?_
  exact hrun G X hC hX
end X